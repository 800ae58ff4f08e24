/-! the abstract heap: the kind of each cell (an object of a class, an array), and what the slots hold, by type -/
abbrev hw_Kd : Type := Nat ⊕ (FieldType × Nat)
abbrev hw_KM : Type := Nat → Option hw_Kd
abbrev hw_IM : Type := Nat → Nat → Int32
abbrev hw_LM : Type := Nat → Nat → Int64
abbrev hw_PM : Type := Nat → Nat → Option Nat
abbrev hw_S : Type := hw_KM × Nat × hw_IM × hw_LM × hw_PM
def hw_sv (I : hw_IM) (L : hw_LM) (P : hw_PM) (ty : FieldType) (a k : Nat) : Value := match ty with
  | .long => .long (L a k)
  | .object _ => va_rf (P a k)
  | .array _ => va_rf (P a k)
  | _ => .int (I a k)
/-- a cell: objects and arrays at z and above; the law's own script (kind float) below -/
def hw_cell (D : va_G) (z : Nat) (s : State) (I : hw_IM) (L : hw_LM) (P : hw_PM) (H : Heap) (a : Nat) : hw_Kd → Prop
  | .inl c => z ≤ a ∧ ∃ r : vw_C, vwCl[c]? = some r ∧ t_OB a (D.1 c) r.2.2 (D.2 c) H (fun k => hw_sv I L P (hw_ty c k) a k)
  | .inr (.float, len) => a < z ∧ ∃ scr : Cell, H[a]? = some scr ∧ s.isArrayOf scr .int ∧ scr.vm ≠ .unknown ∧ scr.slots.size = len ∧ ∀ j : Nat, j < len → scr.slots[j]? = some (.int (I a j))
  | .inr (ty, len) => z ≤ a ∧ ∃ cA : ClassId, ArrOfT s cA ty ∧ va_RA s cA ty ∧ H[a]? = some (arrV cA len (fun j => hw_sv I L P ty a j))
theorem hw_cell_arr {D : va_G} {z : Nat} {s : State} {I : hw_IM} {L : hw_LM} {P : hw_PM} {H : Heap} {a : Nat} {ty : FieldType} {len : Nat} (hty : ty ≠ .float) : hw_cell D z s I L P H a (.inr (ty, len)) = (z ≤ a ∧ ∃ cA : ClassId, ArrOfT s cA ty ∧ va_RA s cA ty ∧ H[a]? = some (arrV cA len (fun j => hw_sv I L P ty a j))) := by
  cases ty <;> first | rfl | exact absurd rfl hty
theorem hw_sv_kept {I I1 : hw_IM} {L L1 : hw_LM} {P P1 : hw_PM} {a : Nat} (hI : I1 a = I a) (hL : L1 a = L a) (hP : P1 a = P a) (ty : FieldType) (k : Nat) : hw_sv I1 L1 P1 ty a k = hw_sv I L P ty a k := by
  unfold hw_sv
  rw [hI, hL, hP]
theorem hw_cell_kept {D : va_G} {z : Nat} {s : State} {I I1 : hw_IM} {L L1 : hw_LM} {P P1 : hw_PM} {H H1 : Heap} {a : Nat} {kd : hw_Kd} (h : hw_cell D z s I L P H a kd) (hH : H1[a]? = H[a]?) (hI : I1 a = I a) (hL : L1 a = L a) (hP : P1 a = P a) : hw_cell D z s I1 L1 P1 H1 a kd := by
  match kd, h with
  | .inl c, h =>
    obtain ⟨h0, r, h1, h2⟩ := h
    exact ⟨h0, r, h1, (h2.kept hH).to (fun k _ => (hw_sv_kept hI hL hP _ k).symm)⟩
  | .inr (ty, len), h =>
    by_cases hty : ty = .float
    · subst hty
      obtain ⟨h0, scr, h1, h2, h3, h4, h5⟩ := h
      exact ⟨h0, scr, by rw [hH]; exact h1, h2, h3, h4, fun j hj => by rw [hI]; exact h5 j hj⟩
    · rw [hw_cell_arr hty] at h ⊢
      obtain ⟨h0, cA, h1, h2, h3⟩ := h
      refine ⟨h0, cA, h1, h2, ?_⟩
      rw [hH, h3]
      congr 2
      funext j
      exact (hw_sv_kept hI hL hP _ j).symm
theorem hw_cell_moved {D : va_G} {z : Nat} {s U : State} {I : hw_IM} {L : hw_LM} {P : hw_PM} {H : Heap} {a : Nat} {kd : hw_Kd} (hvm : s.vm.Alike U.vm) (h : hw_cell D z s I L P H a kd) : hw_cell D z U I L P H a kd := by
  match kd, h with
  | .inl c, h => exact h
  | .inr (ty, len), h =>
    by_cases hty : ty = .float
    · subst hty
      obtain ⟨h0, scr, h1, h2, h3⟩ := h
      exact ⟨h0, scr, h1, State.isArrayOf_alike hvm h2, h3⟩
    · rw [hw_cell_arr hty] at h ⊢
      obtain ⟨h0, cA, h1, h2, h3⟩ := h
      exact ⟨h0, cA, arrOfT_moved hvm h1, h2.moved hvm, h3⟩
def hw_H (D : va_G) (z : Nat) (s : State) (K : hw_KM) (n : Nat) (I : hw_IM) (L : hw_LM) (P : hw_PM) (H : Heap) : Prop :=
  H.size = n ∧ z ≤ n ∧ ∀ (a : Nat) (kd : hw_Kd), K a = some kd → hw_cell D z s I L P H a kd
theorem hw_H_moved {D : va_G} {z : Nat} {s U : State} {K : hw_KM} {n : Nat} {I : hw_IM} {L : hw_LM} {P : hw_PM} {H : Heap} (hvm : s.vm.Alike U.vm) (h : hw_H D z s K n I L P H) : hw_H D z U K n I L P H := ⟨h.1, h.2.1, fun a kd hk => hw_cell_moved hvm (h.2.2 a kd hk)⟩
/-- one cell is written -/
theorem hw_H_put {D : va_G} {z : Nat} {s : State} {K : hw_KM} {n a : Nat} {I I1 : hw_IM} {L L1 : hw_LM} {P P1 : hw_PM} {H H1 : Heap} (h : hw_H D z s K n I L P H) (hz : H1.size = H.size) (oq : ∀ q : Nat, q ≠ a → H1[q]? = H[q]?) (hI : ∀ x, x ≠ a → I1 x = I x) (hL : ∀ x, x ≠ a → L1 x = L x) (hP : ∀ x, x ≠ a → P1 x = P x) (hk : ∀ kd, K a = some kd → hw_cell D z s I1 L1 P1 H1 a kd) : hw_H D z s K n I1 L1 P1 H1 := by
  refine ⟨hz.trans h.1, h.2.1, fun x kd hx => ?_⟩
  by_cases hxa : x = a
  · subst hxa
    exact hk kd hx
  · exact hw_cell_kept (h.2.2 x kd hx) (oq x hxa) (hI x hxa) (hL x hxa) (hP x hxa)
theorem hw_lt {D : va_G} {z : Nat} {s : State} {I : hw_IM} {L : hw_LM} {P : hw_PM} {H : Heap} {a : Nat} {kd : hw_Kd} (h : hw_cell D z s I L P H a kd) : a < H.size := by
  match kd, h with
  | .inl c, h =>
    obtain ⟨_, r, _, cell, h2, -⟩ := h
    exact (Array.getElem?_eq_some_iff.mp h2).1
  | .inr (ty, len), h =>
    by_cases hty : ty = .float
    · subst hty
      obtain ⟨h0, scr, h1, -⟩ := h
      exact (Array.getElem?_eq_some_iff.mp h1).1
    · rw [hw_cell_arr hty] at h
      obtain ⟨h0, cA, h1, h2, h3⟩ := h
      exact (Array.getElem?_eq_some_iff.mp h3).1
/-- a cell is made -/
theorem hw_H_push {D : va_G} {z : Nat} {s : State} {K : hw_KM} {n : Nat} {I I1 : hw_IM} {L L1 : hw_LM} {P P1 : hw_PM} {H H1 : Heap} {kd0 : hw_Kd} (h : hw_H D z s K n I L P H) (hz : H1.size = n + 1) (oq : ∀ q : Nat, q < n → H1[q]? = H[q]?) (hI : ∀ x, x ≠ n → I1 x = I x) (hL : ∀ x, x ≠ n → L1 x = L x) (hP : ∀ x, x ≠ n → P1 x = P x) (hk : hw_cell D z s I1 L1 P1 H1 n kd0) : hw_H D z s (va_up K n (some kd0)) (n + 1) I1 L1 P1 H1 := by
  refine ⟨hz, Nat.le_succ_of_le h.2.1, fun x kd hx => ?_⟩
  unfold va_up at hx
  by_cases hxa : x = n
  · subst hxa
    rw [if_pos rfl] at hx
    cases hx
    exact hk
  · rw [if_neg hxa] at hx
    have hc := h.2.2 x kd hx
    have hl := hw_lt hc
    rw [h.1] at hl
    exact hw_cell_kept hc (oq x hl) (hI x hxa) (hL x hxa) (hP x hxa)
/-- what of the class tables a method takes as given -/
def hw_K (D : va_G) (s : State) : Prop := va_K D vwCl [] s ∧ (∀ w ∈ hw_N, va_Nw w s) ∧ va_AO "HornRuleWorkbench$Buffer" s
theorem hw_isN_cases {w : Cond} (h : hw_isN w = true) : (∃ a i b n d t, w = .fieldLinkNest a i b n d t) ∨ ∃ a i y t, w = .methodLinkNest a i y t := by
  unfold hw_isN at h
  split at h
  · exact Or.inl ⟨_, _, _, _, _, _, rfl⟩
  · exact Or.inr ⟨_, _, _, _, rfl⟩
  · cases h
theorem hw_N_is {w : Cond} (h : w ∈ hw_N) : hw_isN w = true := (List.mem_filter.mp h).2
theorem hw_K_warm {D : va_G} {s U : State} (hW : s.WarmedH U.vm) (h : hw_K D s) : hw_K D U := by
  refine ⟨va_K.moved hW.alike h.1, fun w hw => ?_, h.2.2.moved hW.alike⟩
  rcases hw_isN_cases (hw_N_is hw) with ⟨a, i, b, n, d, t, rfl⟩ | ⟨a, i, y, t, rfl⟩
  · exact va_Nw.warmF hW (h.2.1 _ hw)
  · exact va_Nw.warmM hW (h.2.1 _ hw)
theorem hw_K_same {D : va_G} {s U : State} (hvm : s.vm = U.vm) (h : hw_K D s) : hw_K D U := by
  have ha : s.vm.Alike U.vm := by rw [hvm]; exact Vm.Alike.refl _
  refine ⟨va_K.moved ha h.1, fun w hw => ?_, h.2.2.moved ha⟩
  rcases hw_isN_cases (hw_N_is hw) with ⟨a, i, b, n, d, t, rfl⟩ | ⟨a, i, y, t, rfl⟩
  · exact va_Nw.same rfl hvm (h.2.1 _ hw)
  · exact va_Nw.same rfl hvm (h.2.1 _ hw)
/-! the locals: by place; none: not known -/
def hw_pl : Nat → List (Option Value) → List (Nat × Value)
  | _, [] => []
  | i, none :: t => hw_pl (i + 1) t
  | i, some v :: t => (i, v) :: hw_pl (i + 1) t
theorem hw_pl_mem : ∀ (ls : List (Option Value)) (i j : Nat) (v : Value), (j, v) ∈ hw_pl i ls ↔ ∃ k, j = i + k ∧ ls[k]? = some (some v)
  | [], i, j, v => by simp [hw_pl]
  | none :: t, i, j, v => by
    rw [hw_pl, hw_pl_mem t (i + 1) j v]
    constructor
    · rintro ⟨k, h1, h2⟩
      exact ⟨k + 1, by omega, by simpa using h2⟩
    · rintro ⟨k, h1, h2⟩
      cases k with
      | zero => simp at h2
      | succ k => exact ⟨k, by omega, by simpa using h2⟩
  | some w :: t, i, j, v => by
    rw [hw_pl, List.mem_cons, hw_pl_mem t (i + 1) j v]
    constructor
    · rintro (h | ⟨k, h1, h2⟩)
      · cases h
        exact ⟨0, rfl, rfl⟩
      · exact ⟨k + 1, by omega, by simpa using h2⟩
    · rintro ⟨k, h1, h2⟩
      cases k with
      | zero =>
        simp only [List.getElem?_cons_zero, Option.some.injEq] at h2
        exact Or.inl (by rw [h1, h2]; rfl)
      | succ k => exact Or.inr ⟨k, by omega, by simpa using h2⟩
def hw_L (la : Array Slot) (nL : Nat) (ls : List (Option Value)) : Prop := ls.length = nL ∧ lv_has la nL (hw_pl 0 ls)
theorem hw_L_at {la : Array Slot} {nL : Nat} {ls : List (Option Value)} (h : hw_L la nL ls) {k : Nat} {v : Value} (hk : ls[k]? = some (some v)) : la[k]? = some (.val v) :=
  h.2.2.2 (k, v) ((hw_pl_mem ls 0 k v).mpr ⟨k, by omega, hk⟩)
def hw_st : List (Option Value) → Nat → Value → List (Option Value)
  | [], _, _ => []
  | _ :: t, 0, v => some v :: t
  | x :: t, 1, v => (match x with | some (.long _) => none | some (.double _) => none | y => y) :: hw_st t 0 v
  | x :: t, k + 2, v => x :: hw_st t (k + 1) v
theorem hw_st_len : ∀ (ls : List (Option Value)) (i : Nat) (v : Value), (hw_st ls i v).length = ls.length
  | [], _, _ => rfl
  | _ :: t, 0, v => rfl
  | x :: t, 1, v => by simp [hw_st, hw_st_len t 0 v]
  | x :: t, k + 2, v => by simp [hw_st, hw_st_len t (k + 1) v]
theorem hw_st_get : ∀ (ls : List (Option Value)) (i : Nat) (v : Value) (j : Nat) (w : Value), (hw_st ls i v)[j]? = some (some w) → (j = i ∧ w = v) ∨ (j ≠ i ∧ ls[j]? = some (some w) ∧ ¬ (j + 1 = i ∧ w.category = 2))
  | [], _, _, j, w, h => by simp [hw_st] at h
  | x :: t, 0, v, j, w, h => by
    cases j with
    | zero => simp [hw_st] at h; exact Or.inl ⟨rfl, h.symm⟩
    | succ j => exact Or.inr ⟨by omega, by simpa [hw_st] using h, by omega⟩
  | x :: t, 1, v, j, w, h => by
    cases j with
    | zero =>
      refine Or.inr ⟨by omega, ?_, ?_⟩
      · match x, h with
        | none, h => simp [hw_st] at h
        | some (.long _), h => simp [hw_st] at h
        | some (.double _), h => simp [hw_st] at h
        | some (.int _), h => simpa [hw_st] using h
        | some (.float _), h => simpa [hw_st] using h
        | some .null, h => simpa [hw_st] using h
        | some (.ref _), h => simpa [hw_st] using h
        | some (.retAddr _), h => simpa [hw_st] using h
      · match x, h with
        | none, h => simp [hw_st] at h
        | some (.long _), h => simp [hw_st] at h
        | some (.double _), h => simp [hw_st] at h
        | some (.int _), h => simp [hw_st] at h; subst h; simp [Value.category]
        | some (.float _), h => simp [hw_st] at h; subst h; simp [Value.category]
        | some .null, h => simp [hw_st] at h; subst h; simp [Value.category]
        | some (.ref _), h => simp [hw_st] at h; subst h; simp [Value.category]
        | some (.retAddr _), h => simp [hw_st] at h; subst h; simp [Value.category]
    | succ j =>
      have h' : (hw_st t 0 v)[j]? = some (some w) := by simpa [hw_st] using h
      rcases hw_st_get t 0 v j w h' with ⟨h1, h2⟩ | ⟨h1, h2, h3⟩
      · exact Or.inl ⟨by omega, h2⟩
      · exact Or.inr ⟨by omega, by simpa using h2, by omega⟩
  | x :: t, k + 2, v, j, w, h => by
    cases j with
    | zero => exact Or.inr ⟨by omega, by simpa [hw_st] using h, by omega⟩
    | succ j =>
      have h' : (hw_st t (k + 1) v)[j]? = some (some w) := by simpa [hw_st] using h
      rcases hw_st_get t (k + 1) v j w h' with ⟨h1, h2⟩ | ⟨h1, h2, h3⟩
      · exact Or.inl ⟨by omega, h2⟩
      · exact Or.inr ⟨by omega, by simpa using h2, fun q => h3 ⟨by omega, q.2⟩⟩
/-- what a store of one word leaves -/
theorem hw_L_st {la : Array Slot} {nL i : Nat} {v : Value} {ls : List (Option Value)} (hn : ls.length = nL) (h : lv_has la nL ((i, v) :: (hw_pl 0 ls).filter (fun q => !(q.1 == i) && !(q.1 + 1 == i && q.2.category == 2)))) : hw_L la nL (hw_st ls i v) := by
  refine ⟨(hw_st_len ls i v).trans hn, h.1, h.2.1, fun q hq => h.2.2 q ?_⟩
  obtain ⟨j, w⟩ := q
  obtain ⟨k, h1, h2⟩ := (hw_pl_mem _ 0 j w).mp hq
  have hjk : j = k := by omega
  subst hjk
  rcases hw_st_get ls i v j w h2 with ⟨e1, e2⟩ | ⟨e1, e2, e3⟩
  · rw [e1, e2]; exact List.mem_cons_self
  · refine List.mem_cons_of_mem _ (List.mem_filter.mpr ⟨(hw_pl_mem _ 0 j w).mpr ⟨j, by omega, e2⟩, ?_⟩)
    simp only [Bool.and_eq_true, Bool.not_eq_true', beq_eq_false_iff_ne, ne_eq, Bool.and_eq_false_iff]
    refine ⟨e1, ?_⟩
    by_cases q : j + 1 = i
    · exact Or.inr (fun c => e3 ⟨q, c⟩)
    · exact Or.inl q
def hw_st2 (ls : List (Option Value)) (i : Nat) (v : Value) : List (Option Value) := (hw_st ls i v).set (i + 1) none
theorem hw_L_st2 {la : Array Slot} {nL i : Nat} {v : Value} {ls : List (Option Value)} (hn : ls.length = nL) (h : lv_has la nL ((i, v) :: (hw_pl 0 ls).filter (fun q => !(q.1 == i) && (!(q.1 == i + 1) && !(q.1 + 1 == i && q.2.category == 2))))) : hw_L la nL (hw_st2 ls i v) := by
  refine ⟨by rw [hw_st2, List.length_set, hw_st_len]; exact hn, h.1, h.2.1, fun q hq => h.2.2 q ?_⟩
  obtain ⟨j, w⟩ := q
  obtain ⟨k, h1, h2⟩ := (hw_pl_mem _ 0 j w).mp hq
  have hjk : j = k := by omega
  subst hjk
  have hne : j ≠ i + 1 := by
    intro q
    subst q
    rw [hw_st2, List.getElem?_set] at h2
    simp at h2
  rw [hw_st2, List.getElem?_set_ne (Ne.symm hne)] at h2
  rcases hw_st_get ls i v j w h2 with ⟨e1, e2⟩ | ⟨e1, e2, e3⟩
  · rw [e1, e2]; exact List.mem_cons_self
  · refine List.mem_cons_of_mem _ (List.mem_filter.mpr ⟨(hw_pl_mem _ 0 j w).mpr ⟨j, by omega, e2⟩, ?_⟩)
    simp only [Bool.and_eq_true, Bool.not_eq_true', beq_eq_false_iff_ne, ne_eq, Bool.and_eq_false_iff]
    refine ⟨e1, hne, ?_⟩
    by_cases q : j + 1 = i
    · exact Or.inr (fun c => e3 ⟨q, c⟩)
    · exact Or.inl q
/-- the locals at a method's entry -/
def hw_sl : List Value → List (Option Value)
  | [] => []
  | v :: t => if v.category = 2 then some v :: none :: hw_sl t else some v :: hw_sl t
def hw_en (nL : Nat) (vs : List Value) : List (Option Value) := hw_sl vs ++ List.replicate (nL - (hw_sl vs).length) none
theorem hw_sl_len : ∀ vs : List Value, (hw_sl vs).length = (lg_sl vs).length
  | [] => rfl
  | v :: t => by
    have := hw_sl_len t
    by_cases hc : v.category = 2 <;> simp [hw_sl, lg_sl, hc] at this ⊢ <;> omega
theorem hw_sl_mem : ∀ (vs : List Value) (i j : Nat) (w : Value), (hw_sl vs)[j]? = some (some w) → (i + j, w) ∈ lv_args i vs
  | [], i, j, w, h => by simp [hw_sl] at h
  | v :: t, i, j, w, h => by
    by_cases hc : v.category = 2
    · rw [hw_sl, if_pos hc] at h
      rw [lv_args, if_pos hc]
      match j, h with
      | 0, h => simp at h; subst h; exact List.mem_cons_self
      | 1, h => simp at h
      | j + 2, h =>
        have := hw_sl_mem t (i + 2) j w (by simpa using h)
        exact List.mem_cons_of_mem _ (by rw [show i + (j + 2) = i + 2 + j by omega]; exact this)
    · rw [hw_sl, if_neg hc] at h
      rw [lv_args, if_neg hc]
      match j, h with
      | 0, h => simp at h; subst h; exact List.mem_cons_self
      | j + 1, h =>
        have := hw_sl_mem t (i + 1) j w (by simpa using h)
        exact List.mem_cons_of_mem _ (by rw [show i + (j + 1) = i + 1 + j by omega]; exact this)
theorem hw_L_en {vs : List Value} {nL : Nat} (h : (lg_sl vs).length ≤ nL) : hw_L ((lg_sl vs ++ List.replicate (nL - (lg_sl vs).length) Slot.unset).toArray) nL (hw_en nL vs) := by
  have h0 := lv_entry vs h
  refine ⟨by rw [hw_en, List.length_append, List.length_replicate, hw_sl_len]; omega, h0.1, h0.2.1, fun q hq => h0.2.2 q ?_⟩
  obtain ⟨j, w⟩ := q
  obtain ⟨k, h1, h2⟩ := (hw_pl_mem _ 0 j w).mp hq
  have hjk : j = k := by omega
  subst hjk
  rw [hw_en] at h2
  by_cases hl : j < (hw_sl vs).length
  · rw [List.getElem?_append_left hl] at h2
    have := hw_sl_mem vs 0 j w h2
    rwa [Nat.zero_add] at this
  · rw [List.getElem?_append_right (by omega)] at h2
    have := List.eq_of_mem_replicate (List.mem_of_getElem? h2)
    cases this
