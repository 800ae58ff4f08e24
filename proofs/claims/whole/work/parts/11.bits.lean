/-! sets as numbers; the machine's words for them -/
theorem n_inj {x y : Int32} (h : ∀ i, i < 32 → x.toBitVec.getLsbD i = y.toBitVec.getLsbD i) : x = y := Int32.toBitVec_inj.mp (BitVec.eq_of_getLsbD_eq (fun i hi => h i hi))
theorem n_bit {a i : Nat} (hi : i < 32) : (nI a).toBitVec.getLsbD i = a.testBit i := by
  show (BitVec.ofNat 32 a).getLsbD i = _
  rw [BitVec.getLsbD_ofNat, decide_eq_true hi, Bool.true_and]
theorem n_and (a b : Nat) : nI a &&& nI b = nI (a &&& b) := n_inj (fun i hi => by rw [Int32.toBitVec_and, BitVec.getLsbD_and, n_bit hi, n_bit hi, n_bit hi, Nat.testBit_and])
theorem n_or (a b : Nat) : nI a ||| nI b = nI (a ||| b) := n_inj (fun i hi => by rw [Int32.toBitVec_or, BitVec.getLsbD_or, n_bit hi, n_bit hi, n_bit hi, Nat.testBit_or])
/-- the attributes of a that aren't in b -/
def dif (a b : Nat) : Nat := a ^^^ (a &&& b)
def sub (a b : Nat) : Bool := dif a b == 0
theorem dif_bit (a b i : Nat) : (dif a b).testBit i = (a.testBit i && !b.testBit i) := by
  rw [dif, Nat.testBit_xor, Nat.testBit_and]
  cases a.testBit i <;> cases b.testBit i <;> rfl
theorem n_m1 : ∀ i, i < 32 → ((-1 : Int32)).toBitVec.getLsbD i = true := by decide +kernel
theorem n_dif (a b : Nat) : nI a &&& (nI b ^^^ (-1)) = nI (dif a b) := n_inj (fun i hi => by
  rw [Int32.toBitVec_and, BitVec.getLsbD_and, Int32.toBitVec_xor, BitVec.getLsbD_xor, n_bit hi, n_bit hi, n_bit hi, n_m1 i hi, dif_bit]
  cases a.testBit i <;> cases b.testBit i <;> rfl)
theorem sub_iff {a b : Nat} : sub a b = true ↔ ∀ i, a.testBit i = true → b.testBit i = true := by
  rw [sub, beq_iff_eq]
  constructor
  · intro h i hi
    have := dif_bit a b i
    rw [h, Nat.zero_testBit, hi] at this
    simpa using this.symm
  · intro h
    apply Nat.eq_of_testBit_eq
    intro i
    rw [dif_bit, Nat.zero_testBit]
    cases ha : a.testBit i with
    | false => rfl
    | true => rw [h i ha]; rfl
theorem sub_refl (a : Nat) : sub a a = true := sub_iff.mpr (fun _ h => h)
theorem sub_trans {a b c : Nat} (h : sub a b = true) (h2 : sub b c = true) : sub a c = true := sub_iff.mpr (fun i hi => sub_iff.mp h2 i (sub_iff.mp h i hi))
theorem sub_anti {a b : Nat} (h : sub a b = true) (h2 : sub b a = true) : a = b := Nat.eq_of_testBit_eq (fun i => by
  cases ha : a.testBit i with
  | true => exact (sub_iff.mp h i ha).symm
  | false =>
    cases hb : b.testBit i with
    | false => rfl
    | true => rw [sub_iff.mp h2 i hb] at ha; cases ha)
theorem sub_or_l (a b : Nat) : sub a (a ||| b) = true := sub_iff.mpr (fun i hi => by rw [Nat.testBit_or, hi]; rfl)
theorem sub_or_r (a b : Nat) : sub b (a ||| b) = true := sub_iff.mpr (fun i hi => by rw [Nat.testBit_or, hi, Bool.or_true])
theorem or_sub {a b c : Nat} (h : sub a c = true) (h2 : sub b c = true) : sub (a ||| b) c = true := sub_iff.mpr (fun i hi => by
  rw [Nat.testBit_or, Bool.or_eq_true] at hi
  exact hi.elim (sub_iff.mp h i) (sub_iff.mp h2 i))
theorem or_eq_of_sub {a b : Nat} (h : sub b a = true) : a ||| b = a := sub_anti (or_sub (sub_refl a) h) (sub_or_l a b)
theorem sub_le {a b : Nat} (h : sub a b = true) : a ≤ b := by
  have : a &&& b = a := Nat.eq_of_testBit_eq (fun i => by
    rw [Nat.testBit_and]
    cases ha : a.testBit i with
    | false => rfl
    | true => rw [sub_iff.mp h i ha]; rfl)
  rw [← this]
  exact Nat.and_le_right
theorem or_lt {a b k : Nat} (ha : a < 2 ^ k) (hb : b < 2 ^ k) : a ||| b < 2 ^ k := Nat.or_lt_two_pow ha hb
theorem dif_le (a b : Nat) : dif a b ≤ a := sub_le (sub_iff.mpr (fun i hi => by rw [dif_bit, Bool.and_eq_true] at hi; exact hi.1))
theorem zero_sub (a : Nat) : sub 0 a = true := sub_iff.mpr (fun i hi => by rw [Nat.zero_testBit] at hi; cases hi)
theorem full_bit (k i : Nat) : (2 ^ k - 1).testBit i = decide (i < k) := Nat.testBit_two_pow_sub_one k i
theorem sub_full {a k : Nat} : sub a (2 ^ k - 1) = true ↔ a < 2 ^ k := by
  constructor
  · intro h
    have := sub_le h
    have : 0 < 2 ^ k := Nat.two_pow_pos k
    omega
  · intro h
    refine sub_iff.mpr (fun i hi => ?_)
    rw [full_bit]
    have : i < k := by
      apply Nat.lt_of_not_le
      intro hk
      rw [Nat.testBit_lt_two_pow (Nat.lt_of_lt_of_le h (Nat.pow_le_pow_right (by decide) hk))] at hi
      cases hi
    simpa using this
theorem sh_l : ∀ k, k < 32 → ((nI k &&& 31).toBitVec.smod 32).toNat = k := by decide +kernel
theorem n_shl {a k : Nat} (hk : k < 32) (h : a * 2 ^ k < 2 ^ 32) : nI a <<< (nI k &&& 31) = nI (a * 2 ^ k) := pk_shlN _ k (sh_l k hk) h
theorem n_one {k : Nat} (hk : k < 32) : (1 : Int32) <<< (nI k &&& 31) = nI (2 ^ k) := by
  have h : 1 * 2 ^ k < 2 ^ 32 := by rw [Nat.one_mul]; exact Nat.pow_lt_pow_right (by decide) hk
  have := n_shl (a := 1) hk h
  rw [Nat.one_mul] at this
  exact this
theorem n_shr {a k : Nat} (ha : a < 2 ^ 31) (hk : k < 32) : nI a >>> (nI k &&& 31) = nI (a / 2 ^ k) := pk_shrN ha _ k (sh_l k hk)
theorem n_and1 {a : Nat} (h : a < 2 ^ 32) : nI a &&& 1 = nI (a % 2) := pk_andN h 1 (by decide)
theorem n_hasbit {a k : Nat} (ha : a < 2 ^ 31) (hk : k < 32) : ((nI a >>> (nI k &&& 31)) &&& 1 = 1) ↔ a.testBit k = true := by
  rw [n_shr ha hk, n_and1 (by have := Nat.div_le_self a (2 ^ k); omega)]
  rw [Nat.testBit_eq_decide_div_mod_eq, decide_eq_true_eq]
  have h2 : a / 2 ^ k % 2 < 2 := Nat.mod_lt _ (by decide)
  exact (nI_eq (by omega) (by decide : 1 < 2 ^ 31))
def bi (b : Bool) : Int32 := if b then 1 else 0
theorem bi_t : bi true = 1 := rfl
theorem bi_f : bi false = 0 := rfl
theorem bi_0 (b : Bool) : (bi b = 0) = (b = false) := by cases b <;> decide
theorem bi_1 (b : Bool) : (bi b = 1) = (b = true) := by cases b <;> decide
theorem bi_01 (b : Bool) : hw_b01 (bi b) = True := propext ⟨fun _ => trivial, fun _ => by cases b; exact Or.inl rfl; exact Or.inr rfl⟩
theorem n_z {a : Nat} (h : a < 2 ^ 31) : (nI a = 0) = (a = 0) := propext (nI_eq h (by decide : 0 < 2 ^ 31))
theorem n_sub {a b : Nat} (h : a < 2 ^ 31) : (nI a &&& (nI b ^^^ (-1)) = 0) = (sub a b = true) := by
  rw [n_dif, n_z (by have := dif_le a b; omega), sub, beq_iff_eq]
/-! the small methods -/
section
variable {l : Launch} {D : va_G} {z d : Nat} {K : hw_KM} {n : Nat} {I : hw_IM} {L : hw_LM} {P : hw_PM}
/-- a method that answers, and changes nothing -/
def Ans (K : hw_KM) (n : Nat) (I : hw_IM) (L : hw_LM) (P : hw_PM) (v : Value) (r : Option Value) (S : hw_S) : Prop := r = some v ∧ S = (K, n, I, L, P)
set_option maxRecDepth 100000 in
set_option maxHeartbeats 4000000 in
theorem c_X10_flag {b : Bool} : hw_M l D z mX10_flag d 0 0 [.int (bi b)] K n I L P (Ans K n I L P (.int (bi b))) := by
  refine hw_M_of 10 ok_X10_flag rfl (Nat.le_of_ble_eq_true rfl) (hw_go 10 ?_)
  show hw_x _ _ _ _ _ _ _ _ _ _ _ _ _ 10 0 0 0 K n I L P [some (.int (bi b))] []
  simp only [hx_s, hx_0, he_iconst, he_bipush, he_sipush, he_lconst_0, he_lconst_1, he_aconst_null, he_iadd, he_isub, he_imul, he_iand, he_ior, he_ixor, he_ishl, he_ishr, he_iushr, he_idiv, he_irem, he_ineg, he_i2l, he_l2i, he_i2b, he_ladd, he_lmul, he_land, he_lor, he_lshl, he_lcmp, he_dup_i, he_dup_r, he_dup_n, he_dup2, he_iload_0, he_iload_1, he_iload_2, he_iload_3, he_iload_4, he_iload_5, he_iload_6, he_iload_7, he_iload_8, he_iload_9, he_iload_10, he_lload_0, he_lload_1, he_lload_2, he_lload_3, he_lload_4, he_lload_5, he_aload_0, he_aload_1, he_aload_2, he_aload_3, he_aload_4, he_aload_5, he_aload_6, he_aload_7, he_aload_8, he_aload_0n, he_aload_1n, he_aload_2n, he_aload_3n, he_aload_4n, he_aload_5n, he_aload_6n, he_aload_7n, he_aload_8n, he_istore_0, he_istore_1, he_istore_2, he_istore_3, he_istore_4, he_istore_5, he_istore_6, he_istore_7, he_istore_8, he_istore_9, he_istore_10, he_astore_0, he_astore_1, he_astore_2, he_astore_3, he_astore_4, he_astore_5, he_astore_6, he_astore_7, he_astore_8, he_astore_0n, he_astore_1n, he_astore_2n, he_astore_3n, he_astore_4n, he_astore_5n, he_astore_6n, he_astore_7n, he_astore_8n, he_lstore_0, he_lstore_1, he_lstore_2, he_lstore_3, he_iinc_0, he_iinc_1, he_iinc_2, he_iinc_3, he_iinc_4, he_iinc_5, he_iinc_6, he_iinc_7, he_iinc_8, he_iinc_9, he_iinc_10, he_if_eq, he_if_ne, he_if_lt, he_if_ge, he_if_gt, he_if_le, he_icmp_eq, he_icmp_ne, he_icmp_lt, he_icmp_ge, he_icmp_gt, he_icmp_le, he_goto, he_ifnull_n, he_ifnull_r, he_ifnonnull_n, he_ifnonnull_r, he_ldc, he_ldc_w, he_ldc2_w, he_getfield, he_putfield, he_iaload, he_arraylength, he_baload, he_laload, he_iastore, he_lastore, he_bastore, he_aaload, he_aastore, he_newarray, he_new, he_anewarray, he_ireturn, he_lreturn, he_areturn_r, he_areturn_n, he_return, he_invokevirtual, he_invokestatic, he_invokespecial, fpf_0, fpf_1, fpf_2, fpf_3, fpf_4, fpf_5, fpf_6, fpf_7, fpf_8, fpf_9, fpf_10, fpf_11, fp_0, fp_1, fp_3, fp_4, fp_6, fp_8, fp_9, fp_10, fp_11, hw_om_s, hw_sv_i, hw_sv_z, hw_sv_j, hw_sv_o, hw_sv_a, hw_rf_s, hw_rf_n, hw_put_i, hw_put_z, hw_put_j, hw_put_o, hw_put_a, hw_b01_0, hw_b01_1, hw_rok_i, hw_rok_z, hw_rob_o, hw_al_i, hw_al_f, hw_an_a, hw_az_z, hw_aj_j, hw_ai_i, hw_ao_o, hw_aty_i, hw_aty_j, hw_aty_z, hw_st_0, hw_st_1i, hw_st_1r, hw_st_1n, hw_st_1j, hw_st_1u, hw_st_k, hw_tq, hw_tn, hw_n0, hw_n1, hw_cl, hw_cjl, hw_kl, hw_vw, ft_0, ft_1, ft_2, ft_3, ft_4, ft_5, ft_6, ft_7, ft_8, ft_9, ft_10, ft_11, true_and, and_true, and_self, Nat.le_refl, Nat.zero_le, Option.toList_some, Option.toList_none, List.cons_append, List.nil_append, Nat.add_zero, if_true, if_false, ite_true, ite_false, reduceIte, Nat.reduceSub, Int.reduceLT, Int.reduceToNat, Nat.reduceAdd, Nat.reduceLT, Nat.reduceLeDiff, Int.reduceNeg, Int32.reduceOfInt, Int.reduceLE, Option.some.injEq, Value.int.injEq, reduceCtorEq, Nat.reduceBEq, Nat.reduceEqDiff, Nat.zero_add, dd_X10_flag, fl_10, bi_0]
  cases b
  · exact ⟨fun _ => ⟨rfl, rfl⟩, fun h => absurd rfl h⟩
  · exact ⟨fun h => (by cases h), fun _ => ⟨rfl, rfl⟩⟩
set_option maxRecDepth 100000 in
set_option maxHeartbeats 4000000 in
theorem c_X10_hasBit {s k : Nat} (hs : s < 2 ^ 31) (hk : k < 32) : hw_M l D z mX10_hasBit d 0 0 [.int (nI s), .int (nI k)] K n I L P (Ans K n I L P (.int (bi (s.testBit k)))) := by
  refine hw_M_of 10 ok_X10_hasBit rfl (Nat.le_of_ble_eq_true rfl) (hw_go 20 ?_)
  show hw_x _ _ _ _ _ _ _ _ _ _ _ _ _ 20 0 0 0 K n I L P [some (.int (nI s)), some (.int (nI k))] []
  simp only [hx_s, hx_0, he_iconst, he_bipush, he_sipush, he_lconst_0, he_lconst_1, he_aconst_null, he_iadd, he_isub, he_imul, he_iand, he_ior, he_ixor, he_ishl, he_ishr, he_iushr, he_idiv, he_irem, he_ineg, he_i2l, he_l2i, he_i2b, he_ladd, he_lmul, he_land, he_lor, he_lshl, he_lcmp, he_dup_i, he_dup_r, he_dup_n, he_dup2, he_iload_0, he_iload_1, he_iload_2, he_iload_3, he_iload_4, he_iload_5, he_iload_6, he_iload_7, he_iload_8, he_iload_9, he_iload_10, he_lload_0, he_lload_1, he_lload_2, he_lload_3, he_lload_4, he_lload_5, he_aload_0, he_aload_1, he_aload_2, he_aload_3, he_aload_4, he_aload_5, he_aload_6, he_aload_7, he_aload_8, he_aload_0n, he_aload_1n, he_aload_2n, he_aload_3n, he_aload_4n, he_aload_5n, he_aload_6n, he_aload_7n, he_aload_8n, he_istore_0, he_istore_1, he_istore_2, he_istore_3, he_istore_4, he_istore_5, he_istore_6, he_istore_7, he_istore_8, he_istore_9, he_istore_10, he_astore_0, he_astore_1, he_astore_2, he_astore_3, he_astore_4, he_astore_5, he_astore_6, he_astore_7, he_astore_8, he_astore_0n, he_astore_1n, he_astore_2n, he_astore_3n, he_astore_4n, he_astore_5n, he_astore_6n, he_astore_7n, he_astore_8n, he_lstore_0, he_lstore_1, he_lstore_2, he_lstore_3, he_iinc_0, he_iinc_1, he_iinc_2, he_iinc_3, he_iinc_4, he_iinc_5, he_iinc_6, he_iinc_7, he_iinc_8, he_iinc_9, he_iinc_10, he_if_eq, he_if_ne, he_if_lt, he_if_ge, he_if_gt, he_if_le, he_icmp_eq, he_icmp_ne, he_icmp_lt, he_icmp_ge, he_icmp_gt, he_icmp_le, he_goto, he_ifnull_n, he_ifnull_r, he_ifnonnull_n, he_ifnonnull_r, he_ldc, he_ldc_w, he_ldc2_w, he_getfield, he_putfield, he_iaload, he_arraylength, he_baload, he_laload, he_iastore, he_lastore, he_bastore, he_aaload, he_aastore, he_newarray, he_new, he_anewarray, he_ireturn, he_lreturn, he_areturn_r, he_areturn_n, he_return, he_invokevirtual, he_invokestatic, he_invokespecial, fpf_0, fpf_1, fpf_2, fpf_3, fpf_4, fpf_5, fpf_6, fpf_7, fpf_8, fpf_9, fpf_10, fpf_11, fp_0, fp_1, fp_3, fp_4, fp_6, fp_8, fp_9, fp_10, fp_11, hw_om_s, hw_sv_i, hw_sv_z, hw_sv_j, hw_sv_o, hw_sv_a, hw_rf_s, hw_rf_n, hw_put_i, hw_put_z, hw_put_j, hw_put_o, hw_put_a, hw_b01_0, hw_b01_1, hw_rok_i, hw_rok_z, hw_rob_o, hw_al_i, hw_al_f, hw_an_a, hw_az_z, hw_aj_j, hw_ai_i, hw_ao_o, hw_aty_i, hw_aty_j, hw_aty_z, hw_st_0, hw_st_1i, hw_st_1r, hw_st_1n, hw_st_1j, hw_st_1u, hw_st_k, hw_tq, hw_tn, hw_n0, hw_n1, hw_cl, hw_cjl, hw_kl, hw_vw, ft_0, ft_1, ft_2, ft_3, ft_4, ft_5, ft_6, ft_7, ft_8, ft_9, ft_10, ft_11, true_and, and_true, and_self, Nat.le_refl, Nat.zero_le, Option.toList_some, Option.toList_none, List.cons_append, List.nil_append, Nat.add_zero, if_true, if_false, ite_true, ite_false, reduceIte, Nat.reduceSub, Int.reduceLT, Int.reduceToNat, Nat.reduceAdd, Nat.reduceLT, Nat.reduceLeDiff, Int.reduceNeg, Int32.reduceOfInt, Int.reduceLE, Option.some.injEq, Value.int.injEq, reduceCtorEq, Nat.reduceBEq, Nat.reduceEqDiff, Nat.zero_add, dd_X10_hasBit, fl_10, n_hasbit hs hk]
  cases s.testBit k
  · exact ⟨fun _ => ⟨rfl, rfl⟩, fun h => by cases h⟩
  · exact ⟨fun h => absurd rfl h, fun _ => ⟨rfl, rfl⟩⟩
set_option maxRecDepth 100000 in
set_option maxHeartbeats 4000000 in
theorem c_X10_isSubset {a b : Nat} (ha : a < 2 ^ 31) : hw_M l D z mX10_isSubset d 0 0 [.int (nI a), .int (nI b)] K n I L P (Ans K n I L P (.int (bi (sub a b)))) := by
  refine hw_M_of 10 ok_X10_isSubset rfl (Nat.le_of_ble_eq_true rfl) (hw_go 20 ?_)
  show hw_x _ _ _ _ _ _ _ _ _ _ _ _ _ 20 0 0 0 K n I L P [some (.int (nI a)), some (.int (nI b))] []
  simp only [hx_s, hx_0, he_iconst, he_bipush, he_sipush, he_lconst_0, he_lconst_1, he_aconst_null, he_iadd, he_isub, he_imul, he_iand, he_ior, he_ixor, he_ishl, he_ishr, he_iushr, he_idiv, he_irem, he_ineg, he_i2l, he_l2i, he_i2b, he_ladd, he_lmul, he_land, he_lor, he_lshl, he_lcmp, he_dup_i, he_dup_r, he_dup_n, he_dup2, he_iload_0, he_iload_1, he_iload_2, he_iload_3, he_iload_4, he_iload_5, he_iload_6, he_iload_7, he_iload_8, he_iload_9, he_iload_10, he_lload_0, he_lload_1, he_lload_2, he_lload_3, he_lload_4, he_lload_5, he_aload_0, he_aload_1, he_aload_2, he_aload_3, he_aload_4, he_aload_5, he_aload_6, he_aload_7, he_aload_8, he_aload_0n, he_aload_1n, he_aload_2n, he_aload_3n, he_aload_4n, he_aload_5n, he_aload_6n, he_aload_7n, he_aload_8n, he_istore_0, he_istore_1, he_istore_2, he_istore_3, he_istore_4, he_istore_5, he_istore_6, he_istore_7, he_istore_8, he_istore_9, he_istore_10, he_astore_0, he_astore_1, he_astore_2, he_astore_3, he_astore_4, he_astore_5, he_astore_6, he_astore_7, he_astore_8, he_astore_0n, he_astore_1n, he_astore_2n, he_astore_3n, he_astore_4n, he_astore_5n, he_astore_6n, he_astore_7n, he_astore_8n, he_lstore_0, he_lstore_1, he_lstore_2, he_lstore_3, he_iinc_0, he_iinc_1, he_iinc_2, he_iinc_3, he_iinc_4, he_iinc_5, he_iinc_6, he_iinc_7, he_iinc_8, he_iinc_9, he_iinc_10, he_if_eq, he_if_ne, he_if_lt, he_if_ge, he_if_gt, he_if_le, he_icmp_eq, he_icmp_ne, he_icmp_lt, he_icmp_ge, he_icmp_gt, he_icmp_le, he_goto, he_ifnull_n, he_ifnull_r, he_ifnonnull_n, he_ifnonnull_r, he_ldc, he_ldc_w, he_ldc2_w, he_getfield, he_putfield, he_iaload, he_arraylength, he_baload, he_laload, he_iastore, he_lastore, he_bastore, he_aaload, he_aastore, he_newarray, he_new, he_anewarray, he_ireturn, he_lreturn, he_areturn_r, he_areturn_n, he_return, he_invokevirtual, he_invokestatic, he_invokespecial, fpf_0, fpf_1, fpf_2, fpf_3, fpf_4, fpf_5, fpf_6, fpf_7, fpf_8, fpf_9, fpf_10, fpf_11, fp_0, fp_1, fp_3, fp_4, fp_6, fp_8, fp_9, fp_10, fp_11, hw_om_s, hw_sv_i, hw_sv_z, hw_sv_j, hw_sv_o, hw_sv_a, hw_rf_s, hw_rf_n, hw_put_i, hw_put_z, hw_put_j, hw_put_o, hw_put_a, hw_b01_0, hw_b01_1, hw_rok_i, hw_rok_z, hw_rob_o, hw_al_i, hw_al_f, hw_an_a, hw_az_z, hw_aj_j, hw_ai_i, hw_ao_o, hw_aty_i, hw_aty_j, hw_aty_z, hw_st_0, hw_st_1i, hw_st_1r, hw_st_1n, hw_st_1j, hw_st_1u, hw_st_k, hw_tq, hw_tn, hw_n0, hw_n1, hw_cl, hw_cjl, hw_kl, hw_vw, ft_0, ft_1, ft_2, ft_3, ft_4, ft_5, ft_6, ft_7, ft_8, ft_9, ft_10, ft_11, true_and, and_true, and_self, Nat.le_refl, Nat.zero_le, Option.toList_some, Option.toList_none, List.cons_append, List.nil_append, Nat.add_zero, if_true, if_false, ite_true, ite_false, reduceIte, Nat.reduceSub, Int.reduceLT, Int.reduceToNat, Nat.reduceAdd, Nat.reduceLT, Nat.reduceLeDiff, Int.reduceNeg, Int32.reduceOfInt, Int.reduceLE, Option.some.injEq, Value.int.injEq, reduceCtorEq, Nat.reduceBEq, Nat.reduceEqDiff, Nat.zero_add, dd_X10_isSubset, fl_10, n_sub ha]
  cases sub a b
  · exact ⟨fun _ => ⟨rfl, rfl⟩, fun h => by cases h⟩
  · exact ⟨fun h => absurd rfl h, fun _ => ⟨rfl, rfl⟩⟩
set_option maxRecDepth 100000 in
set_option maxHeartbeats 4000000 in
theorem c_X11_isSubset {a b : Nat} (ha : a < 2 ^ 31) : hw_M l D z mX11_isSubset d 0 0 [.int (nI a), .int (nI b)] K n I L P (Ans K n I L P (.int (bi (sub a b)))) := by
  refine hw_M_of 11 ok_X11_isSubset rfl (Nat.le_of_ble_eq_true rfl) (hw_go 20 ?_)
  show hw_x _ _ _ _ _ _ _ _ _ _ _ _ _ 20 0 0 0 K n I L P [some (.int (nI a)), some (.int (nI b))] []
  simp only [hx_s, hx_0, he_iconst, he_bipush, he_sipush, he_lconst_0, he_lconst_1, he_aconst_null, he_iadd, he_isub, he_imul, he_iand, he_ior, he_ixor, he_ishl, he_ishr, he_iushr, he_idiv, he_irem, he_ineg, he_i2l, he_l2i, he_i2b, he_ladd, he_lmul, he_land, he_lor, he_lshl, he_lcmp, he_dup_i, he_dup_r, he_dup_n, he_dup2, he_iload_0, he_iload_1, he_iload_2, he_iload_3, he_iload_4, he_iload_5, he_iload_6, he_iload_7, he_iload_8, he_iload_9, he_iload_10, he_lload_0, he_lload_1, he_lload_2, he_lload_3, he_lload_4, he_lload_5, he_aload_0, he_aload_1, he_aload_2, he_aload_3, he_aload_4, he_aload_5, he_aload_6, he_aload_7, he_aload_8, he_aload_0n, he_aload_1n, he_aload_2n, he_aload_3n, he_aload_4n, he_aload_5n, he_aload_6n, he_aload_7n, he_aload_8n, he_istore_0, he_istore_1, he_istore_2, he_istore_3, he_istore_4, he_istore_5, he_istore_6, he_istore_7, he_istore_8, he_istore_9, he_istore_10, he_astore_0, he_astore_1, he_astore_2, he_astore_3, he_astore_4, he_astore_5, he_astore_6, he_astore_7, he_astore_8, he_astore_0n, he_astore_1n, he_astore_2n, he_astore_3n, he_astore_4n, he_astore_5n, he_astore_6n, he_astore_7n, he_astore_8n, he_lstore_0, he_lstore_1, he_lstore_2, he_lstore_3, he_iinc_0, he_iinc_1, he_iinc_2, he_iinc_3, he_iinc_4, he_iinc_5, he_iinc_6, he_iinc_7, he_iinc_8, he_iinc_9, he_iinc_10, he_if_eq, he_if_ne, he_if_lt, he_if_ge, he_if_gt, he_if_le, he_icmp_eq, he_icmp_ne, he_icmp_lt, he_icmp_ge, he_icmp_gt, he_icmp_le, he_goto, he_ifnull_n, he_ifnull_r, he_ifnonnull_n, he_ifnonnull_r, he_ldc, he_ldc_w, he_ldc2_w, he_getfield, he_putfield, he_iaload, he_arraylength, he_baload, he_laload, he_iastore, he_lastore, he_bastore, he_aaload, he_aastore, he_newarray, he_new, he_anewarray, he_ireturn, he_lreturn, he_areturn_r, he_areturn_n, he_return, he_invokevirtual, he_invokestatic, he_invokespecial, fpf_0, fpf_1, fpf_2, fpf_3, fpf_4, fpf_5, fpf_6, fpf_7, fpf_8, fpf_9, fpf_10, fpf_11, fp_0, fp_1, fp_3, fp_4, fp_6, fp_8, fp_9, fp_10, fp_11, hw_om_s, hw_sv_i, hw_sv_z, hw_sv_j, hw_sv_o, hw_sv_a, hw_rf_s, hw_rf_n, hw_put_i, hw_put_z, hw_put_j, hw_put_o, hw_put_a, hw_b01_0, hw_b01_1, hw_rok_i, hw_rok_z, hw_rob_o, hw_al_i, hw_al_f, hw_an_a, hw_az_z, hw_aj_j, hw_ai_i, hw_ao_o, hw_aty_i, hw_aty_j, hw_aty_z, hw_st_0, hw_st_1i, hw_st_1r, hw_st_1n, hw_st_1j, hw_st_1u, hw_st_k, hw_tq, hw_tn, hw_n0, hw_n1, hw_cl, hw_cjl, hw_kl, hw_vw, ft_0, ft_1, ft_2, ft_3, ft_4, ft_5, ft_6, ft_7, ft_8, ft_9, ft_10, ft_11, true_and, and_true, and_self, Nat.le_refl, Nat.zero_le, Option.toList_some, Option.toList_none, List.cons_append, List.nil_append, Nat.add_zero, if_true, if_false, ite_true, ite_false, reduceIte, Nat.reduceSub, Int.reduceLT, Int.reduceToNat, Nat.reduceAdd, Nat.reduceLT, Nat.reduceLeDiff, Int.reduceNeg, Int32.reduceOfInt, Int.reduceLE, Option.some.injEq, Value.int.injEq, reduceCtorEq, Nat.reduceBEq, Nat.reduceEqDiff, Nat.zero_add, dd_X11_isSubset, fl_11, n_sub ha]
  cases sub a b
  · exact ⟨fun _ => ⟨rfl, rfl⟩, fun h => by cases h⟩
  · exact ⟨fun h => absurd rfl h, fun _ => ⟨rfl, rfl⟩⟩
set_option maxRecDepth 100000 in
set_option maxHeartbeats 4000000 in
theorem c_X10_isProperSubset (hd : 1 ≤ d) {a b : Nat} (ha : a < 2 ^ 31) (hb : b < 2 ^ 31) : hw_M l D z mX10_isProperSubset d 0 0 [.int (nI a), .int (nI b)] K n I L P (Ans K n I L P (.int (bi (a != b && sub a b)))) := by
  refine hw_M_of 10 ok_X10_isProperSubset rfl (Nat.le_of_ble_eq_true rfl) (hw_go 20 ?_)
  show hw_x _ _ _ _ _ _ _ _ _ _ _ _ _ 20 0 0 0 K n I L P [some (.int (nI a)), some (.int (nI b))] []
  simp only [hx_s, hx_0, he_iconst, he_bipush, he_sipush, he_lconst_0, he_lconst_1, he_aconst_null, he_iadd, he_isub, he_imul, he_iand, he_ior, he_ixor, he_ishl, he_ishr, he_iushr, he_idiv, he_irem, he_ineg, he_i2l, he_l2i, he_i2b, he_ladd, he_lmul, he_land, he_lor, he_lshl, he_lcmp, he_dup_i, he_dup_r, he_dup_n, he_dup2, he_iload_0, he_iload_1, he_iload_2, he_iload_3, he_iload_4, he_iload_5, he_iload_6, he_iload_7, he_iload_8, he_iload_9, he_iload_10, he_lload_0, he_lload_1, he_lload_2, he_lload_3, he_lload_4, he_lload_5, he_aload_0, he_aload_1, he_aload_2, he_aload_3, he_aload_4, he_aload_5, he_aload_6, he_aload_7, he_aload_8, he_aload_0n, he_aload_1n, he_aload_2n, he_aload_3n, he_aload_4n, he_aload_5n, he_aload_6n, he_aload_7n, he_aload_8n, he_istore_0, he_istore_1, he_istore_2, he_istore_3, he_istore_4, he_istore_5, he_istore_6, he_istore_7, he_istore_8, he_istore_9, he_istore_10, he_astore_0, he_astore_1, he_astore_2, he_astore_3, he_astore_4, he_astore_5, he_astore_6, he_astore_7, he_astore_8, he_astore_0n, he_astore_1n, he_astore_2n, he_astore_3n, he_astore_4n, he_astore_5n, he_astore_6n, he_astore_7n, he_astore_8n, he_lstore_0, he_lstore_1, he_lstore_2, he_lstore_3, he_iinc_0, he_iinc_1, he_iinc_2, he_iinc_3, he_iinc_4, he_iinc_5, he_iinc_6, he_iinc_7, he_iinc_8, he_iinc_9, he_iinc_10, he_if_eq, he_if_ne, he_if_lt, he_if_ge, he_if_gt, he_if_le, he_icmp_eq, he_icmp_ne, he_icmp_lt, he_icmp_ge, he_icmp_gt, he_icmp_le, he_goto, he_ifnull_n, he_ifnull_r, he_ifnonnull_n, he_ifnonnull_r, he_ldc, he_ldc_w, he_ldc2_w, he_getfield, he_putfield, he_iaload, he_arraylength, he_baload, he_laload, he_iastore, he_lastore, he_bastore, he_aaload, he_aastore, he_newarray, he_new, he_anewarray, he_ireturn, he_lreturn, he_areturn_r, he_areturn_n, he_return, he_invokevirtual, he_invokestatic, he_invokespecial, fpf_0, fpf_1, fpf_2, fpf_3, fpf_4, fpf_5, fpf_6, fpf_7, fpf_8, fpf_9, fpf_10, fpf_11, fp_0, fp_1, fp_3, fp_4, fp_6, fp_8, fp_9, fp_10, fp_11, hw_om_s, hw_sv_i, hw_sv_z, hw_sv_j, hw_sv_o, hw_sv_a, hw_rf_s, hw_rf_n, hw_put_i, hw_put_z, hw_put_j, hw_put_o, hw_put_a, hw_b01_0, hw_b01_1, hw_rok_i, hw_rok_z, hw_rob_o, hw_al_i, hw_al_f, hw_an_a, hw_az_z, hw_aj_j, hw_ai_i, hw_ao_o, hw_aty_i, hw_aty_j, hw_aty_z, hw_st_0, hw_st_1i, hw_st_1r, hw_st_1n, hw_st_1j, hw_st_1u, hw_st_k, hw_tq, hw_tn, hw_n0, hw_n1, hw_cl, hw_cjl, hw_kl, hw_vw, ft_0, ft_1, ft_2, ft_3, ft_4, ft_5, ft_6, ft_7, ft_8, ft_9, ft_10, ft_11, true_and, and_true, and_self, Nat.le_refl, Nat.zero_le, Option.toList_some, Option.toList_none, List.cons_append, List.nil_append, Nat.add_zero, if_true, if_false, ite_true, ite_false, reduceIte, Nat.reduceSub, Int.reduceLT, Int.reduceToNat, Nat.reduceAdd, Nat.reduceLT, Nat.reduceLeDiff, Int.reduceNeg, Int32.reduceOfInt, Int.reduceLE, Option.some.injEq, Value.int.injEq, reduceCtorEq, Nat.reduceBEq, Nat.reduceEqDiff, Nat.zero_add, dd_X10_isProperSubset, fl_10, nI_eq ha hb]
  refine ⟨fun h => ?_, fun h => ?_⟩
  · subst h
    exact ⟨by simp [bi], rfl⟩
  · refine hw_callS (d' := d - 1) rfl lk10_X10_isSubset ok_X10_isSubset (c_X10_isSubset ha) (by decide +kernel) rfl rfl (by omega) (by omega) (by omega) (Nat.le_of_ble_eq_true rfl) ?_
    rintro _ _ ⟨rfl, rfl⟩
    refine hw_go 10 ?_
    simp only [hx_s, hx_0, he_iconst, he_bipush, he_sipush, he_lconst_0, he_lconst_1, he_aconst_null, he_iadd, he_isub, he_imul, he_iand, he_ior, he_ixor, he_ishl, he_ishr, he_iushr, he_idiv, he_irem, he_ineg, he_i2l, he_l2i, he_i2b, he_ladd, he_lmul, he_land, he_lor, he_lshl, he_lcmp, he_dup_i, he_dup_r, he_dup_n, he_dup2, he_iload_0, he_iload_1, he_iload_2, he_iload_3, he_iload_4, he_iload_5, he_iload_6, he_iload_7, he_iload_8, he_iload_9, he_iload_10, he_lload_0, he_lload_1, he_lload_2, he_lload_3, he_lload_4, he_lload_5, he_aload_0, he_aload_1, he_aload_2, he_aload_3, he_aload_4, he_aload_5, he_aload_6, he_aload_7, he_aload_8, he_aload_0n, he_aload_1n, he_aload_2n, he_aload_3n, he_aload_4n, he_aload_5n, he_aload_6n, he_aload_7n, he_aload_8n, he_istore_0, he_istore_1, he_istore_2, he_istore_3, he_istore_4, he_istore_5, he_istore_6, he_istore_7, he_istore_8, he_istore_9, he_istore_10, he_astore_0, he_astore_1, he_astore_2, he_astore_3, he_astore_4, he_astore_5, he_astore_6, he_astore_7, he_astore_8, he_astore_0n, he_astore_1n, he_astore_2n, he_astore_3n, he_astore_4n, he_astore_5n, he_astore_6n, he_astore_7n, he_astore_8n, he_lstore_0, he_lstore_1, he_lstore_2, he_lstore_3, he_iinc_0, he_iinc_1, he_iinc_2, he_iinc_3, he_iinc_4, he_iinc_5, he_iinc_6, he_iinc_7, he_iinc_8, he_iinc_9, he_iinc_10, he_if_eq, he_if_ne, he_if_lt, he_if_ge, he_if_gt, he_if_le, he_icmp_eq, he_icmp_ne, he_icmp_lt, he_icmp_ge, he_icmp_gt, he_icmp_le, he_goto, he_ifnull_n, he_ifnull_r, he_ifnonnull_n, he_ifnonnull_r, he_ldc, he_ldc_w, he_ldc2_w, he_getfield, he_putfield, he_iaload, he_arraylength, he_baload, he_laload, he_iastore, he_lastore, he_bastore, he_aaload, he_aastore, he_newarray, he_new, he_anewarray, he_ireturn, he_lreturn, he_areturn_r, he_areturn_n, he_return, he_invokevirtual, he_invokestatic, he_invokespecial, fpf_0, fpf_1, fpf_2, fpf_3, fpf_4, fpf_5, fpf_6, fpf_7, fpf_8, fpf_9, fpf_10, fpf_11, fp_0, fp_1, fp_3, fp_4, fp_6, fp_8, fp_9, fp_10, fp_11, hw_om_s, hw_sv_i, hw_sv_z, hw_sv_j, hw_sv_o, hw_sv_a, hw_rf_s, hw_rf_n, hw_put_i, hw_put_z, hw_put_j, hw_put_o, hw_put_a, hw_b01_0, hw_b01_1, hw_rok_i, hw_rok_z, hw_rob_o, hw_al_i, hw_al_f, hw_an_a, hw_az_z, hw_aj_j, hw_ai_i, hw_ao_o, hw_aty_i, hw_aty_j, hw_aty_z, hw_st_0, hw_st_1i, hw_st_1r, hw_st_1n, hw_st_1j, hw_st_1u, hw_st_k, hw_tq, hw_tn, hw_n0, hw_n1, hw_cl, hw_cjl, hw_kl, hw_vw, ft_0, ft_1, ft_2, ft_3, ft_4, ft_5, ft_6, ft_7, ft_8, ft_9, ft_10, ft_11, true_and, and_true, and_self, Nat.le_refl, Nat.zero_le, Option.toList_some, Option.toList_none, List.cons_append, List.nil_append, Nat.add_zero, if_true, if_false, ite_true, ite_false, reduceIte, Nat.reduceSub, Int.reduceLT, Int.reduceToNat, Nat.reduceAdd, Nat.reduceLT, Nat.reduceLeDiff, Int.reduceNeg, Int32.reduceOfInt, Int.reduceLE, Option.some.injEq, Value.int.injEq, reduceCtorEq, Nat.reduceBEq, Nat.reduceEqDiff, Nat.zero_add, dd_X10_isProperSubset, fl_10, bi_0]
    have hne : (a != b) = true := by simpa using h
    rw [hne, Bool.true_and]
    cases sub a b
    · exact ⟨fun _ => ⟨rfl, rfl⟩, fun h => absurd rfl h⟩
    · exact ⟨fun h => (by cases h), fun _ => ⟨rfl, rfl⟩⟩
end
