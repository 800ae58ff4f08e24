/-! the learner, as numbers -/
def isC (N : Nat) (T : Nat → Nat) : Prop := (∀ s, s < N → T s < N ∧ sub s (T s) = true ∧ T (T s) = T s) ∧ ∀ s t, s < N → t < N → sub s t = true → sub (T s) (T t) = true
def sat (ps : List (Nat × Nat)) (x : Nat) : Bool := ps.all (fun q => !(sub q.1 x && !sub q.2 x))
def eqv (N : Nat) (T : Nat → Nat) (ps : List (Nat × Nat)) : Option Nat := (List.range N).find? (fun s => (T s == s) != sat ps s)
def posl (ps : List (Nat × Nat)) (x : Nat) : List (Nat × Nat) := ps.map (fun q => if sub q.1 x then (q.1, q.2 &&& x) else q)
/-- a membership query that is remembered -/
def ask (qs : List Nat) (c : Nat) : List Nat := if qs.contains c then qs else qs ++ [c]
def ngs (T : Nat → Nat) (fu x : Nat) : List (Nat × Nat) → List Nat → List (Nat × Nat) × List Nat
  | [], qs => ([(x, dif fu x)], qs)
  | q :: t, qs => if q.1 &&& x == q.1 then (q :: (ngs T fu x t qs).1, (ngs T fu x t qs).2)
    else if T (q.1 &&& x) == q.1 &&& x then (q :: (ngs T fu x t (ask qs (q.1 &&& x))).1, (ngs T fu x t (ask qs (q.1 &&& x))).2)
    else ((q.1 &&& x, dif fu (q.1 &&& x)) :: t, ask qs (q.1 &&& x))
abbrev LSt : Type := List (Nat × Nat) × List Nat × List Nat × Nat
def lst1 (N : Nat) (T : Nat → Nat) (st : LSt) (x : Nat) : LSt :=
  if T x == x then (posl st.1 x, st.2.1, st.2.2.1 ++ [x], st.2.2.2 + 1)
  else ((ngs T (N - 1) x st.1 st.2.1).1, (ngs T (N - 1) x st.1 st.2.1).2, st.2.2.1 ++ [x], st.2.2.2)
def lrn (N : Nat) (T : Nat → Nat) : Nat → LSt → LSt
  | 0, st => st
  | f + 1, st => match eqv N T st.1 with
    | none => st
    | some x => lrn N T f (lst1 N T st x)
theorem and_sub_l (a b : Nat) : sub (a &&& b) a = true := sub_iff.mpr (fun i h => by rw [Nat.testBit_and, Bool.and_eq_true] at h; exact h.1)
theorem and_sub_r (a b : Nat) : sub (a &&& b) b = true := sub_iff.mpr (fun i h => by rw [Nat.testBit_and, Bool.and_eq_true] at h; exact h.2)
theorem sub_and {a b c : Nat} (h1 : sub c a = true) (h2 : sub c b = true) : sub c (a &&& b) = true := sub_iff.mpr (fun i h => by rw [Nat.testBit_and, sub_iff.mp h1 i h, sub_iff.mp h2 i h]; rfl)
theorem sub_lt {a b : Nat} (h : sub a b = true) (hne : a ≠ b) : a < b := by have := sub_le h; omega
def disj (a b : Nat) : Prop := ∀ i, a.testBit i = true → b.testBit i = false
/-- what the learner keeps to: pairs' premises aren't closed, conclusions hold what the closure adds, and every smaller set that isn't closed is told by an earlier pair that is exact -/
def okp (T : Nat → Nat) (q : Nat × Nat) : Prop := T q.1 ≠ q.1 ∧ sub (dif (T q.1) q.1) q.2 = true ∧ disj q.2 q.1
def okw (T : Nat → Nat) (pre : List (Nat × Nat)) (s : Nat) : Prop := ∀ y, sub y s = true → y ≠ s → T y ≠ y → ∃ q ∈ pre, sub q.1 y = true ∧ sub q.2 y = false ∧ q.2 = dif (T q.1) q.1 ∧ sub q.2 s = true
def LI (N : Nat) (T : Nat → Nat) (ps : List (Nat × Nat)) : Prop := (∀ q ∈ ps, q.1 < N ∧ q.2 < N ∧ okp T q) ∧ ∀ (i : Nat) (q : Nat × Nat), ps[i]? = some q → okw T (ps.take i) q.1
theorem eqv_some {N : Nat} {T : Nat → Nat} {ps : List (Nat × Nat)} {x : Nat} (h : eqv N T ps = some x) : x < N ∧ (T x == x) ≠ sat ps x ∧ ∀ y, y < x → (T y == y) = sat ps y := by
  unfold eqv at h
  rw [List.find?_range_eq_some] at h
  obtain ⟨h1, h2, h3⟩ := h
  refine ⟨List.mem_range.mp h2, by simpa using h1, fun y hy => ?_⟩
  have := h3 y hy
  simpa using this
theorem eqv_none {N : Nat} {T : Nat → Nat} {ps : List (Nat × Nat)} : eqv N T ps = none ↔ ∀ y, y < N → (T y == y) = sat ps y := by
  unfold eqv
  rw [List.find?_range_eq_none]
  constructor
  · intro h y hy; have := h y hy; simpa using this
  · intro h y hy; have := h y hy; simpa using this
theorem sat_false {ps : List (Nat × Nat)} {x : Nat} (h : sat ps x = false) : ∃ q ∈ ps, sub q.1 x = true ∧ sub q.2 x = false := by
  unfold sat at h
  rw [List.all_eq_false] at h
  obtain ⟨q, hq, h⟩ := h
  refine ⟨q, hq, ?_⟩
  simpa using h
theorem sat_true {ps : List (Nat × Nat)} {x : Nat} (h : sat ps x = true) {q : Nat × Nat} (hq : q ∈ ps) (hs : sub q.1 x = true) : sub q.2 x = true := by
  unfold sat at h
  have := List.all_eq_true.mp h q hq
  rw [hs] at this
  simpa using this
theorem clos_in {N : Nat} {T : Nat → Nat} {q : Nat × Nat} {x : Nat} (h : okp T q) (h1 : sub q.1 x = true) (h2 : sub q.2 x = true) : sub (T q.1) x = true := sub_iff.mpr (fun i hi => by
  cases hb : q.1.testBit i with
  | true => exact sub_iff.mp h1 i hb
  | false =>
    refine sub_iff.mp h2 i (sub_iff.mp h.2.1 i ?_)
    rw [dif_bit, hi, hb]; rfl)
/-- a negative counterexample meets no pair that could be replaced -/
theorem neg_no {N : Nat} {T : Nat → Nat} {ps : List (Nat × Nat)} {x : Nat} (hL : LI N T ps) (hs : sat ps x = true) : ∀ (i : Nat) (q : Nat × Nat), ps[i]? = some q → q.1 &&& x ≠ q.1 → T (q.1 &&& x) = q.1 &&& x := by
  intro i q hi hne
  rcases Classical.em (T (q.1 &&& x) = q.1 &&& x) with h | h
  · exact h
  · obtain ⟨u, hu, h1, h2, h3, h4⟩ := hL.2 i q hi _ (and_sub_l q.1 x) hne h
    have hm : u ∈ ps := List.mem_of_mem_take hu
    have h5 := sat_true hs hm (sub_trans h1 (and_sub_r q.1 x))
    rw [sub_and h4 h5] at h2
    cases h2
theorem ngs_app {T : Nat → Nat} {fu x : Nat} : ∀ (ps : List (Nat × Nat)) (qs : List Nat), (∀ q ∈ ps, q.1 &&& x ≠ q.1 → T (q.1 &&& x) = q.1 &&& x) → (ngs T fu x ps qs).1 = ps ++ [(x, dif fu x)]
  | [], qs, _ => rfl
  | q :: t, qs, h => by
    rw [ngs]
    have ht := fun u hu => h u (List.mem_cons_of_mem _ hu)
    by_cases e : (q.1 &&& x == q.1) = true
    · rw [if_pos e]
      show q :: (ngs T fu x t qs).1 = _
      rw [ngs_app t qs ht]; rfl
    · rw [if_neg e]
      have e2 := h q List.mem_cons_self (by simpa using e)
      rw [if_pos (by simpa using e2)]
      show q :: (ngs T fu x t (ask qs (q.1 &&& x))).1 = _
      rw [ngs_app t _ ht]; rfl
theorem dif_lt {a b N : Nat} (h : a < N) : dif a b < N := Nat.lt_of_le_of_lt (dif_le a b) h
theorem dif_disj (a b : Nat) : disj (dif a b) b := fun i h => by
  rw [dif_bit, Bool.and_eq_true] at h
  simpa using h.2
theorem and_lt_l {a b N : Nat} (h : a < N) : a &&& b < N := Nat.lt_of_le_of_lt Nat.and_le_left h
theorem LI_neg {k : Nat} {T : Nat → Nat} {ps : List (Nat × Nat)} {x : Nat} (hC : isC (2 ^ k) T) (hL : LI (2 ^ k) T ps) (hx : eqv (2 ^ k) T ps = some x) (hn : T x ≠ x) : LI (2 ^ k) T (ps ++ [(x, dif (2 ^ k - 1) x)]) := by
  obtain ⟨hxN, hd, hy⟩ := eqv_some hx
  have hs : sat ps x = true := by
    rw [beq_eq_false_iff_ne.mpr hn] at hd
    cases h : sat ps x with
    | true => rfl
    | false => exact absurd h.symm hd
  have hp0 : 0 < 2 ^ k := Nat.two_pow_pos k
  refine ⟨fun q hq => ?_, fun i q hq => ?_⟩
  · rcases List.mem_append.mp hq with h | h
    · exact hL.1 q h
    · rw [List.mem_singleton.mp h]
      refine ⟨hxN, dif_lt (by omega), hn, ?_, dif_disj _ _⟩
      refine sub_iff.mpr (fun i hi => ?_)
      rw [dif_bit] at hi ⊢
      rw [Bool.and_eq_true] at hi
      rw [sub_iff.mp (sub_full.mpr (hC.1 x hxN).1) i hi.1, hi.2]; rfl
  · by_cases hi : i < ps.length
    · rw [List.getElem?_append_left hi] at hq
      rw [List.take_append_of_le_length (by omega)]
      exact hL.2 i q hq
    · have hil : i = ps.length := by
        have := (List.getElem?_eq_some_iff.mp hq).1
        simp at this
        omega
      subst hil
      rw [List.getElem?_append_right (Nat.le_refl _), Nat.sub_self] at hq
      cases hq
      rw [List.take_append_of_le_length (Nat.le_refl _), List.take_length]
      intro y hys hyne hyc
      have hylt := sub_lt hys hyne
      have h1 := hy y hylt
      rw [beq_eq_false_iff_ne.mpr hyc] at h1
      obtain ⟨q, hq, q1, q2⟩ := sat_false h1.symm
      have hqx := sub_trans q1 hys
      have hrx := sat_true hs hq hqx
      obtain ⟨b1, b2, b3⟩ := hL.1 q hq
      have hcx := clos_in (N := 2 ^ k) b3 hqx hrx
      have hTq := hC.1 q.1 b1
      have hne : T q.1 ≠ x := fun e => hn (by rw [← e]; exact hTq.2.2)
      have h2 := hy (T q.1) (sub_lt hcx hne)
      rw [hTq.2.2, beq_self_eq_true] at h2
      have h3 := sat_true h2.symm hq hTq.2.1
      refine ⟨q, hq, q1, q2, sub_anti ?_ b3.2.1, hrx⟩
      refine sub_iff.mpr (fun i hi => ?_)
      rw [dif_bit, sub_iff.mp h3 i hi, b3.2.2 i hi]; rfl
theorem posl_get {ps : List (Nat × Nat)} {x i : Nat} : (posl ps x)[i]? = (ps[i]?).map (fun q => if sub q.1 x then (q.1, q.2 &&& x) else q) := by
  unfold posl
  rw [List.getElem?_map]
theorem LI_pos {N : Nat} {T : Nat → Nat} {ps : List (Nat × Nat)} {x : Nat} (hC : isC N T) (hL : LI N T ps) (hxN : x < N) (hx : T x = x) : LI N T (posl ps x) := by
  have exact_kept : ∀ q ∈ ps, q.2 = dif (T q.1) q.1 → (if sub q.1 x then (q.1, q.2 &&& x) else q) = q := by
    intro q hq he
    split
    · rename_i hs
      obtain ⟨b1, b2, b3⟩ := hL.1 q hq
      have h1 : sub (T q.1) x = true := by have := hC.2 q.1 x b1 hxN hs; rwa [hx] at this
      have h2 : sub q.2 x = true := by
        rw [he]
        exact sub_trans (sub_iff.mpr (fun i hi => by rw [dif_bit, Bool.and_eq_true] at hi; exact hi.1)) h1
      have h3 : q.2 &&& x = q.2 := sub_anti (and_sub_l _ _) (sub_and (sub_refl _) h2)
      rw [h3]
    · rfl
  refine ⟨fun q hq => ?_, fun i q hq => ?_⟩
  · unfold posl at hq
    obtain ⟨u, hu, rfl⟩ := List.mem_map.mp hq
    obtain ⟨b1, b2, b3⟩ := hL.1 u hu
    split
    · rename_i hs
      refine ⟨b1, and_lt_l b2, b3.1, ?_, fun i hi => b3.2.2 i (sub_iff.mp (and_sub_l _ _) i hi)⟩
      have h1 : sub (T u.1) x = true := by have := hC.2 u.1 x b1 hxN hs; rwa [hx] at this
      exact sub_and b3.2.1 (sub_trans (sub_iff.mpr (fun i hi => by rw [dif_bit, Bool.and_eq_true] at hi; exact hi.1)) h1)
    · exact ⟨b1, b2, b3⟩
  · rw [posl_get] at hq
    cases hp : ps[i]? with
    | none => rw [hp] at hq; cases hq
    | some u =>
      rw [hp] at hq
      simp only [Option.map_some, Option.some.injEq] at hq
      have hu1 : q.1 = u.1 := by rw [← hq]; split <;> rfl
      intro y h1 h2 h3
      rw [hu1] at h1 h2 ⊢
      obtain ⟨w, hw, g1, g2, g3, g4⟩ := hL.2 i u hp y h1 h2 h3
      have hwm : w ∈ ps := List.mem_of_mem_take hw
      refine ⟨w, ?_, g1, g2, g3, g4⟩
      unfold posl
      rw [← List.map_take]
      exact List.mem_map.mpr ⟨w, hw, exact_kept w hwm g3⟩
/-! how long it can go on -/
def wt (q : Nat × Nat) : Nat := 7 - (pcn q.1 + pcn q.2)
def wts (ps : List (Nat × Nat)) : Nat := (ps.map wt).sum
theorem sum_le_of_nodup (w : Nat → Nat) : ∀ (N : Nat) (l : List Nat), l.Nodup → (∀ v ∈ l, v < N) → (l.map w).sum ≤ ((List.range N).map w).sum
  | 0, l, _, h => by
    cases l with
    | nil => simp
    | cons a t => have := h a List.mem_cons_self; omega
  | N + 1, l, hn, h => by
    rw [List.range_succ, List.map_append, List.sum_append]
    by_cases hm : N ∈ l
    · have hp := (List.perm_cons_erase hm)
      have hs : (l.map w).sum = w N + ((l.erase N).map w).sum := by
        have := (hp.map w).sum_nat
        simpa using this
      have h1 := sum_le_of_nodup w N (l.erase N) (hn.erase N) (fun v hv => by
        have h2 := h v (List.mem_of_mem_erase hv)
        have h3 : v ≠ N := fun e => by
          rw [e] at hv
          exact (List.Nodup.not_mem_erase hn) hv
        omega)
      rw [hs]
      simp
      omega
    · have h1 := sum_le_of_nodup w N l hn (fun v hv => by
        have h2 := h v hv
        have h3 : v ≠ N := fun e => hm (e ▸ hv)
        omega)
      simp
      omega
theorem sum_ones : ∀ l : List Nat, (l.map (fun _ => 1)).sum = l.length
  | [] => rfl
  | a :: t => by rw [List.map_cons, List.sum_cons, sum_ones t, List.length_cons]; omega
theorem nodup_len {l : List Nat} (hn : l.Nodup) {N : Nat} (h : ∀ v ∈ l, v < N) : l.length ≤ N := by
  have := sum_le_of_nodup (fun _ => 1) N l hn h
  rw [sum_ones, sum_ones, List.length_range] at this
  exact this
theorem wts_le {ps : List (Nat × Nat)} (hn : (ps.map Prod.fst).Nodup) (h : ∀ q ∈ ps, q.1 < 64) : wts ps ≤ 256 := by
  have h1 : wts ps ≤ ((ps.map Prod.fst).map (fun v => 7 - pcn v)).sum := by
    clear hn h
    unfold wts
    induction ps with
    | nil => simp
    | cons q t ih =>
      simp only [List.map_cons, List.sum_cons]
      have : wt q ≤ 7 - pcn q.1 := by unfold wt; omega
      omega
  have h2 := sum_le_of_nodup (fun v => 7 - pcn v) 64 (ps.map Prod.fst) hn (fun v hv => by
    obtain ⟨q, hq, rfl⟩ := List.mem_map.mp hv
    exact h q hq)
  have h3 : ((List.range 64).map (fun v => 7 - pcn v)).sum = 256 := by decide +kernel
  omega
theorem pcn_dj : ∀ a, a < 64 → ∀ b, b < 64 → (a &&& b = 0) → pcn a + pcn b ≤ 6 := by decide +kernel
theorem disj_and {a b : Nat} (h : disj a b) : b &&& a = 0 := Nat.eq_of_testBit_eq (fun i => by
  rw [Nat.testBit_and, Nat.zero_testBit]
  cases ha : a.testBit i with
  | false => simp
  | true => rw [h i ha]; rfl)
theorem wt_pos {N : Nat} {q : Nat × Nat} (hN : N ≤ 64) (h1 : q.1 < N) (h2 : q.2 < N) (h : disj q.2 q.1) : 1 ≤ wt q := by
  have := pcn_dj q.1 (by omega) q.2 (by omega) (disj_and h)
  unfold wt; omega
theorem pcn_mono : ∀ b, b < 64 → ∀ a, a < 64 → sub a b = true → pcn a ≤ pcn b := by decide +kernel
theorem wt_up {N : Nat} {q : Nat × Nat} {x : Nat} (hN : N ≤ 64) (h1 : q.1 < N) (h2 : q.2 < N) (h : disj q.2 q.1) (hs : sub q.2 x = false) : wt q + 1 ≤ wt (q.1, q.2 &&& x) := by
  have h3 := pcn_dj q.1 (by omega) q.2 (by omega) (disj_and h)
  have h4 : pcn (q.2 &&& x) < pcn q.2 := pcn_lt q.2 (by omega) (q.2 &&& x) (by have := and_lt_l (b := x) h2; omega) (and_sub_l _ _) (fun e => by
    have := and_sub_r q.2 x
    rw [e, hs] at this
    cases this)
  show 7 - (pcn q.1 + pcn q.2) + 1 ≤ 7 - (pcn q.1 + pcn (q.2 &&& x))
  omega
theorem wt_up0 {N : Nat} {q : Nat × Nat} {x : Nat} (hN : N ≤ 64) (h2 : q.2 < N) : wt q ≤ wt (if sub q.1 x then (q.1, q.2 &&& x) else q) := by
  split
  · have h4 : pcn (q.2 &&& x) ≤ pcn q.2 := pcn_mono q.2 (by omega) (q.2 &&& x) (by have := and_lt_l (b := x) h2; omega) (and_sub_l _ _)
    show 7 - (pcn q.1 + pcn q.2) ≤ 7 - (pcn q.1 + pcn (q.2 &&& x))
    omega
  · exact Nat.le_refl _
theorem wts_pos {N : Nat} {x : Nat} (hN : N ≤ 64) : ∀ (ps : List (Nat × Nat)), (∀ q ∈ ps, q.1 < N ∧ q.2 < N ∧ disj q.2 q.1) → wts ps ≤ wts (posl ps x) ∧ (sat ps x = false → wts ps + 1 ≤ wts (posl ps x))
  | [], _ => ⟨Nat.le_refl _, fun h => by simp [sat] at h⟩
  | q :: t, h => by
    have ht := wts_pos (x := x) hN t (fun u hu => h u (List.mem_cons_of_mem _ hu))
    obtain ⟨b1, b2, b3⟩ := h q List.mem_cons_self
    have e1 : wts (q :: t) = wt q + wts t := by simp [wts]
    have e2 : wts (posl (q :: t) x) = wt (if sub q.1 x then (q.1, q.2 &&& x) else q) + wts (posl t x) := by simp [wts, posl]
    have h0 := wt_up0 (q := q) (x := x) hN b2
    rw [e1, e2]
    refine ⟨by omega, fun hs => ?_⟩
    by_cases hq : sub q.1 x = true ∧ sub q.2 x = false
    · have := wt_up hN b1 b2 b3 hq.2
      rw [if_pos hq.1]
      rw [if_pos hq.1] at h0
      omega
    · have hs2 : sat t x = false := by
        unfold sat at hs ⊢
        rw [List.all_cons] at hs
        have : (!(sub q.1 x && !sub q.2 x)) = true := by
          cases g1 : sub q.1 x with
          | false => rfl
          | true => cases g2 : sub q.2 x with
            | true => rfl
            | false => exact absurd ⟨g1, g2⟩ hq
        rw [this] at hs
        simpa using hs
      have := ht.2 hs2
      omega
/-- all that holds of the learner's state between two rounds -/
def LOK (N : Nat) (T : Nat → Nat) (st : LSt) : Prop := LI N T st.1 ∧ (st.1.map Prod.fst).Nodup ∧ st.2.2.1.length ≤ wts st.1 ∧ st.2.1.Nodup ∧ (∀ c ∈ st.2.1, c < N) ∧ st.2.2.2 ≤ st.2.2.1.length ∧ ∀ c ∈ st.2.2.1, c < N
theorem ask_ok {N c : Nat} {qs : List Nat} (hn : qs.Nodup) (hq : ∀ v ∈ qs, v < N) (hc : c < N) : (ask qs c).Nodup ∧ ∀ v ∈ ask qs c, v < N := by
  unfold ask
  split
  · exact ⟨hn, hq⟩
  · rename_i h
    have hm : c ∉ qs := by simpa using h
    refine ⟨List.nodup_append.mpr ⟨hn, by simp, fun a ha b hb e => hm (by rw [List.mem_singleton.mp hb] at e; exact e ▸ ha)⟩, fun v hv => ?_⟩
    rcases List.mem_append.mp hv with g | g
    · exact hq v g
    · rw [List.mem_singleton.mp g]; exact hc
theorem ngs_qs {N : Nat} {T : Nat → Nat} {fu x : Nat} : ∀ (ps : List (Nat × Nat)) (qs : List Nat), (∀ q ∈ ps, q.1 < N) → qs.Nodup → (∀ v ∈ qs, v < N) → (ngs T fu x ps qs).2.Nodup ∧ ∀ v ∈ (ngs T fu x ps qs).2, v < N
  | [], qs, _, h1, h2 => ⟨h1, h2⟩
  | q :: t, qs, h, h1, h2 => by
    rw [ngs]
    have ht := fun u hu => h u (List.mem_cons_of_mem _ hu)
    have ha := ask_ok h1 h2 (and_lt_l (b := x) (h q List.mem_cons_self))
    split
    · exact ngs_qs t qs ht h1 h2
    · split
      · exact ngs_qs t _ ht ha.1 ha.2
      · exact ha
theorem LOK_step {k : Nat} {T : Nat → Nat} {st : LSt} {x : Nat} (hk : k ≤ 6) (hC : isC (2 ^ k) T) (h : LOK (2 ^ k) T st) (hx : eqv (2 ^ k) T st.1 = some x) : LOK (2 ^ k) T (lst1 (2 ^ k) T st x) := by
  obtain ⟨g1, g2, g3, g4, g5, g6, g7⟩ := h
  obtain ⟨hxN, hd, hy⟩ := eqv_some hx
  have hN := pow6 hk
  have hp0 : 0 < 2 ^ k := Nat.two_pow_pos k
  have hcx : ∀ c ∈ st.2.2.1 ++ [x], c < 2 ^ k := fun c hc => by
    rcases List.mem_append.mp hc with g | g
    · exact g7 c g
    · rw [List.mem_singleton.mp g]; exact hxN
  unfold lst1
  by_cases hc : (T x == x) = true
  · rw [if_pos hc]
    have hTx : T x = x := by simpa using hc
    rw [hc] at hd
    have hsat : sat st.1 x = false := by
      cases hq : sat st.1 x with
      | false => rfl
      | true => exact absurd hq.symm hd
    have hw := (wts_pos (x := x) hN st.1 (fun q hq => ⟨(g1.1 q hq).1, (g1.1 q hq).2.1, (g1.1 q hq).2.2.2.2⟩)).2 hsat
    refine ⟨LI_pos hC g1 hxN hTx, ?_, ?_, g4, g5, ?_, hcx⟩
    · have e : (posl st.1 x).map Prod.fst = st.1.map Prod.fst := by
        unfold posl
        rw [List.map_map]
        refine List.map_congr_left (fun q _ => ?_)
        show (if sub q.1 x then (q.1, q.2 &&& x) else q).1 = q.1
        split <;> rfl
      rw [e]; exact g2
    · simp only [List.length_append, List.length_singleton]
      omega
    · simp only [List.length_append, List.length_singleton]
      omega
  · rw [if_neg hc]
    have hTx : T x ≠ x := by simpa using hc
    have hs : sat st.1 x = true := by
      rw [beq_eq_false_iff_ne.mpr hTx] at hd
      cases hq : sat st.1 x with
      | true => rfl
      | false => exact absurd hq.symm hd
    have hno : ∀ q ∈ st.1, q.1 &&& x ≠ q.1 → T (q.1 &&& x) = q.1 &&& x := fun q hq => by
      obtain ⟨i, hi⟩ := List.getElem?_of_mem hq
      exact neg_no g1 hs i q hi
    have e := ngs_app (fu := 2 ^ k - 1) st.1 st.2.1 hno
    have hq := ngs_qs (T := T) (fu := 2 ^ k - 1) (x := x) st.1 st.2.1 (fun q hq => (g1.1 q hq).1) g4 g5
    have hLI := LI_neg hC g1 hx hTx
    refine ⟨by rw [e]; exact hLI, ?_, ?_, hq.1, hq.2, ?_, hcx⟩
    · rw [e, List.map_append]
      refine List.nodup_append.mpr ⟨g2, by simp, fun a ha b hb => ?_⟩
      have hbx : b = x := by simpa using hb
      subst hbx
      obtain ⟨q, hq, rfl⟩ := List.mem_map.mp ha
      intro e2
      obtain ⟨b1, b2, b3⟩ := g1.1 q hq
      have h1 := sat_true hs hq (by rw [e2]; exact sub_refl _)
      have h2 := sub_trans b3.2.1 h1
      rw [← e2] at h2
      have h3 : sub (T q.1) q.1 = true := sub_iff.mpr (fun i hi => by
        cases hb : q.1.testBit i with
        | true => rfl
        | false =>
          have h4 : (dif (T q.1) q.1).testBit i = true := by rw [dif_bit, hi, hb]; rfl
          rw [sub_iff.mp h2 i h4] at hb
          cases hb)
      exact b3.1 (sub_anti h3 (hC.1 q.1 b1).2.1)
    · have hw : wts (st.1 ++ [(x, dif (2 ^ k - 1) x)]) = wts st.1 + wt (x, dif (2 ^ k - 1) x) := by simp [wts]
      have := wt_pos (q := (x, dif (2 ^ k - 1) x)) hN hxN (dif_lt (by omega)) (dif_disj _ _)
      rw [e, hw]
      simp only [List.length_append, List.length_singleton]
      omega
    · simp only [List.length_append, List.length_singleton]
      omega
theorem LOK_len {k : Nat} {T : Nat → Nat} {st : LSt} (hk : k ≤ 6) (h : LOK (2 ^ k) T st) : st.1.length ≤ 64 ∧ st.2.1.length ≤ 64 ∧ st.2.2.1.length ≤ 256 := by
  have hN := pow6 hk
  refine ⟨?_, ?_, ?_⟩
  · have := nodup_len h.2.1 (N := 64) (fun v hv => by
      obtain ⟨q, hq, rfl⟩ := List.mem_map.mp hv
      have := (h.1.1 q hq).1
      omega)
    simpa using this
  · exact nodup_len h.2.2.2.1 (N := 64) (fun v hv => by have := h.2.2.2.2.1 v hv; omega)
  · have := wts_le h.2.1 (fun q hq => by have := (h.1.1 q hq).1; omega)
    have := h.2.2.1
    omega
def LSt0 : LSt := ([], [], [], 0)
theorem LOK_0 (N : Nat) (T : Nat → Nat) : LOK N T LSt0 := ⟨⟨fun q hq => (by cases hq), fun i q hq => (by simp [LSt0] at hq)⟩, by simp [LSt0], by simp [LSt0], by simp [LSt0], (fun c hc => by simp [LSt0] at hc), by simp [LSt0], (fun c hc => by simp [LSt0] at hc)⟩
/-- the learner stops: after 257 rounds nothing differs -/
theorem lrn_stop {k : Nat} {T : Nat → Nat} (hk : k ≤ 6) (hC : isC (2 ^ k) T) : ∀ (f : Nat) (st : LSt), LOK (2 ^ k) T st → 257 ≤ f + st.2.2.1.length → eqv (2 ^ k) T (lrn (2 ^ k) T f st).1 = none
  | 0, st, h, hf => by have := (LOK_len hk h).2.2; omega
  | f + 1, st, h, hf => by
    rw [lrn]
    cases hx : eqv (2 ^ k) T st.1 with
    | none => exact hx
    | some x =>
      refine lrn_stop hk hC f _ (LOK_step hk hC h hx) ?_
      have : (lst1 (2 ^ k) T st x).2.2.1 = st.2.2.1 ++ [x] := by unfold lst1; split <;> rfl
      rw [this]
      simp only [List.length_append, List.length_singleton]
      omega
def LRN (N : Nat) (T : Nat → Nat) : LSt := lrn N T 280 LSt0
theorem clo_isC {k : Nat} {rs : List Nat} {m : Nat} (hk : k ≤ 6) (h : rok k rs) : isC (2 ^ k) (clo rs m) := by
  have hN := pow6 hk
  exact ⟨fun s hs => ⟨clo_full h hs, clo_sub rs m s, clo_idem (by omega)⟩, fun s t hs ht hst => clo_mono (by omega) hst⟩
