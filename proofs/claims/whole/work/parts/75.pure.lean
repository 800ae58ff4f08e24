/-! the lattice: covers counted two ways, chains measured two ways -/
theorem nodup_sub {α : Type} [BEq α] [LawfulBEq α] : ∀ {l l' : List α}, l.Nodup → (∀ x ∈ l, x ∈ l') → l.length ≤ l'.length
  | [], _, _, _ => Nat.zero_le _
  | a :: t, l', hn, h => by
    have hm := h a List.mem_cons_self
    have hn' := List.nodup_cons.mp hn
    have := nodup_sub (l := t) (l' := l'.erase a) hn'.2 (fun x hx => (List.mem_erase_of_ne (show x ≠ a from fun e => hn'.1 (by rw [← e]; exact hx))).mpr (h x (List.mem_cons_of_mem _ hx)))
    rw [List.length_erase_of_mem hm] at this
    have hpos : 0 < l'.length := List.length_pos_of_mem hm
    simp only [List.length_cons]
    omega
def ucb (T : Nat → Nat) (s u b : Nat) : Bool := !((T b == b) && (sub s b && sub b u))
/-- u covers s among the sets that T closes -/
def ucv (T : Nat → Nat) (s u : Nat) : Bool := ((T u == u) && sub s u) && (List.range (u - (s + 1))).all (fun j => ucb T s u (s + 1 + j))
theorem ucv_iff {k : Nat} {T : Nat → Nat} {s u : Nat} (hC : isC (2 ^ k) T) (hs : s < 2 ^ k) (hu : u < 2 ^ k) (hsu : s < u) (hcs : T s = s) : ucv T s u = true ↔ T u = u ∧ sub s u = true ∧ ∀ a, a < k → (dif u s).testBit a = true → T (s ||| 2 ^ a) = u := by
  unfold ucv ucb
  simp only [Bool.and_eq_true, beq_iff_eq, List.all_eq_true, List.mem_range]
  constructor
  · rintro ⟨⟨h1, h2⟩, h3⟩
    refine ⟨h1, h2, fun a ha hb => ?_⟩
    rw [dif_bit, Bool.and_eq_true, Bool.not_eq_true'] at hb
    have hsa : s ||| 2 ^ a < 2 ^ k := bit_lt hs ha
    have hsub : sub (s ||| 2 ^ a) u = true := or_sub h2 (sub_iff.mpr (fun i hi => by
      rw [Nat.testBit_two_pow, decide_eq_true_eq] at hi
      rw [← hi]; exact hb.1))
    obtain ⟨q1, q2, q3⟩ := hC.1 _ hsa
    have hbu : sub (T (s ||| 2 ^ a)) u = true := by
      have := hC.2 _ _ hsa hu hsub
      rwa [h1] at this
    have hsb : sub s (T (s ||| 2 ^ a)) = true := sub_trans (sub_or_l _ _) q2
    apply Classical.byContradiction
    intro hne
    have hab : (T (s ||| 2 ^ a)).testBit a = true := sub_iff.mp q2 a (by rw [Nat.testBit_or, Nat.testBit_two_pow_self, Bool.or_true])
    have hne2 : s ≠ T (s ||| 2 ^ a) := fun e => by rw [← e, hb.2] at hab; cases hab
    have l1 := sub_lt hsb hne2
    have l2 := sub_lt hbu hne
    have := h3 (T (s ||| 2 ^ a) - (s + 1)) (by omega)
    rw [show s + 1 + (T (s ||| 2 ^ a) - (s + 1)) = T (s ||| 2 ^ a) by omega, q3, hsb, hbu] at this
    simp at this
  · rintro ⟨h1, h2, h3⟩
    refine ⟨⟨h1, h2⟩, fun j hj => ?_⟩
    generalize hb : s + 1 + j = b
    cases hcb : T b == b with
    | false => rfl
    | true =>
      cases hsb : sub s b with
      | false => rfl
      | true =>
        cases hbu : sub b u with
        | false => rfl
        | true =>
          exfalso
          have hbl : b < 2 ^ k := by omega
          -- an attribute of b that isn't in s
          have hex : ∃ a, b.testBit a = true ∧ s.testBit a = false := by
            apply Classical.byContradiction
            intro hno
            have : sub b s = true := sub_iff.mpr (fun i hi => by
              cases q : s.testBit i with
              | true => rfl
              | false => exact absurd ⟨i, hi, q⟩ hno)
            have := sub_le this
            omega
          obtain ⟨a, ha1, ha2⟩ := hex
          have hak : a < k := by
            apply Nat.lt_of_not_le
            intro q
            rw [Nat.testBit_lt_two_pow (Nat.lt_of_lt_of_le hbl (Nat.pow_le_pow_right (by decide) q))] at ha1
            cases ha1
          have e := h3 a hak (by rw [dif_bit, sub_iff.mp hbu a ha1, ha2]; rfl)
          have hsa : s ||| 2 ^ a < 2 ^ k := bit_lt hs hak
          have := hC.2 _ _ hsa hbl (or_sub hsb (sub_iff.mpr (fun i hi => by
            rw [Nat.testBit_two_pow, decide_eq_true_eq] at hi
            rw [← hi]; exact ha1)))
          rw [e, beq_iff_eq.mp hcb] at this
          have := sub_le this
          omega
theorem lb_ex : ∀ g, g < 64 → g ≠ 0 → ∃ a, a < 6 ∧ lb g = 2 ^ a ∧ g.testBit a = true := by decide +kernel
theorem lb_bit : ∀ g, g < 64 → ∀ a, a < 6 → lb g = 2 ^ a → g.testBit a = true := by decide +kernel
theorem pow_inj6 : ∀ a, a < 6 → ∀ b, b < 6 → 2 ^ a = 2 ^ b → a = b := by decide +kernel
/-- the sets that cover s -/
def ucl (k : Nat) (T : Nat → Nat) (s : Nat) : List Nat := (List.range (2 ^ k)).filter (fun u => decide (s < u) && ucv T s u)
theorem cov_ucl {k : Nat} {T : Nat → Nat} {s : Nat} (hk : k ≤ 6) (hC : isC (2 ^ k) T) (hs : s < 2 ^ k) (hcs : T s = s) : cov k T s = (ucl k T s).length := by
  have hk64 := pow6 hk
  have key : ∀ u, u ∈ ucl k T s ↔ u ∈ ((List.range k).filter (cvp k T s)).map (fun a => T (s ||| 2 ^ a)) := by
    intro u
    unfold ucl
    rw [List.mem_filter, List.mem_range, List.mem_map]
    constructor
    · rintro ⟨hu, h⟩
      rw [Bool.and_eq_true, decide_eq_true_eq] at h
      obtain ⟨h1, h2, h3⟩ := (ucv_iff hC hs hu h.1 hcs).mp h.2
      have hg0 : dif u s ≠ 0 := fun e => by
        have : sub u s = true := by unfold sub; rw [e]; rfl
        have := sub_le this
        omega
      obtain ⟨a, ha, q1, q2⟩ := lb_ex (dif u s) (by have := dif_le u s; omega) hg0
      have hak : a < k := by
        apply Nat.lt_of_not_le
        intro q
        rw [dif_bit, Bool.and_eq_true] at q2
        rw [Nat.testBit_lt_two_pow (Nat.lt_of_lt_of_le hu (Nat.pow_le_pow_right (by decide) q))] at q2
        cases q2.1
      have e := h3 a hak q2
      refine ⟨a, List.mem_filter.mpr ⟨List.mem_range.mpr hak, ?_⟩, e⟩
      unfold cvp icov
      rw [e, q1, beq_self_eq_true, Bool.true_and, List.all_eq_true]
      intro b hb
      cases hb2 : (dif u s).testBit b with
      | false => rfl
      | true => rw [h3 b (List.mem_range.mp hb) hb2, beq_self_eq_true]; rfl
    · rintro ⟨a, ha, rfl⟩
      rw [List.mem_filter, List.mem_range] at ha
      obtain ⟨hak, hcv⟩ := ha
      unfold cvp at hcv
      rw [Bool.and_eq_true, beq_iff_eq] at hcv
      have hsa : s ||| 2 ^ a < 2 ^ k := bit_lt hs hak
      obtain ⟨q1, q2, q3⟩ := hC.1 _ hsa
      have hsb : sub s (T (s ||| 2 ^ a)) = true := sub_trans (sub_or_l _ _) q2
      have hbit := lb_bit _ (by have := dif_le (T (s ||| 2 ^ a)) s; omega) a (by omega) hcv.1
      have hne : s ≠ T (s ||| 2 ^ a) := fun e => by
        rw [← e, dif_bit] at hbit
        cases s.testBit a <;> simp at hbit
      have hlt := sub_lt hsb hne
      refine ⟨q1, ?_⟩
      rw [decide_eq_true hlt, Bool.true_and]
      refine (ucv_iff hC hs q1 hlt hcs).mpr ⟨q3, hsb, fun b hb hb2 => ?_⟩
      have := List.all_eq_true.mp (show (List.range k).all (fun b => !((dif (T (s ||| 2 ^ a)) s).testBit b && !(T (s ||| 2 ^ b) == T (s ||| 2 ^ a)))) = true from hcv.2) b (List.mem_range.mpr hb)
      rw [hb2] at this
      simpa using this
  have hn1 : (ucl k T s).Nodup := List.nodup_range.filter _
  have hn2 : (((List.range k).filter (cvp k T s)).map (fun a => T (s ||| 2 ^ a))).Nodup := by
    have hnr : ((List.range k).filter (cvp k T s)).Nodup := List.nodup_range.filter _
    rw [List.nodup_iff_pairwise_ne] at hnr ⊢
    rw [List.pairwise_map]
    refine List.Pairwise.imp_of_mem ?_ hnr
    intro a b ha hb hne e
    rw [List.mem_filter, List.mem_range] at ha hb
    have h1 := ha.2
    have h2 := hb.2
    unfold cvp at h1 h2
    rw [Bool.and_eq_true, beq_iff_eq] at h1 h2
    have e2 : (2 : Nat) ^ a = 2 ^ b := by rw [← h1.1, ← h2.1, e]
    exact hne (pow_inj6 a (by omega) b (by omega) e2)
  have l1 := nodup_sub hn1 (fun u hu => (key u).mp hu)
  have l2 := nodup_sub hn2 (fun u hu => (key u).mpr hu)
  rw [List.length_map] at l1 l2
  have l3 : ((List.range k).filter (cvp k T s)).length = cov k T s := by
    unfold cov
    exact List.countP_eq_length_filter.symm
  omega
/-! chains -/
theorem mx_at {g : Nat → Nat} : ∀ k, mx g k = 0 ∨ ∃ i, i < k ∧ mx g k = g i
  | 0 => Or.inl rfl
  | k + 1 => by
    rw [mx]
    rcases Nat.le_total (mx g k) (g k) with h | h
    · exact Or.inr ⟨k, by omega, Nat.max_eq_right h⟩
    · rw [Nat.max_eq_left h]
      rcases mx_at (g := g) k with q | ⟨i, hi, q⟩
      · exact Or.inl q
      · exact Or.inr ⟨i, by omega, q⟩
theorem dif1_sub {t s a : Nat} (h : sub t s = true) (ha : t.testBit a = false) : sub t (dif s (2 ^ a)) = true := sub_iff.mpr (fun i hi => by
  rw [dif_bit, Nat.testBit_two_pow, sub_iff.mp h i hi]
  have : a ≠ i := fun e => by rw [e, hi] at ha; cases ha
  rw [decide_eq_false this]; rfl)
theorem ex_bit {t s : Nat} (h : sub t s = true) (hne : t ≠ s) : ∃ a, s.testBit a = true ∧ t.testBit a = false := by
  apply Classical.byContradiction
  intro hno
  refine hne (sub_anti h (sub_iff.mpr (fun i hi => ?_)))
  cases q : t.testBit i with
  | true => rfl
  | false => exact absurd ⟨i, hi, q⟩ hno
theorem bit_k {s a k : Nat} (h : s < 2 ^ k) (hb : s.testBit a = true) : a < k := by
  apply Nat.lt_of_not_le
  intro q
  rw [Nat.testBit_lt_two_pow (Nat.lt_of_lt_of_le h (Nat.pow_le_pow_right (by decide) q))] at hb
  cases hb
theorem lc_sub1 {k : Nat} {T : Nat → Nat} {s a : Nat} (hs : s < 64) (ha : a < k) (hb : s.testBit a = true) : lc k T (dif s (2 ^ a)) + (if T s == s then 1 else 0) ≤ lc k T s := by
  rw [lc_eq hs]
  have := mx_ge (g := fun a => if s.testBit a then lc k T (dif s (2 ^ a)) else 0) ha
  simp only [hb, if_true] at this
  omega
theorem lc_mono {k : Nat} {T : Nat → Nat} (hk : k ≤ 6) : ∀ (f s t : Nat), s ≤ f → s < 2 ^ k → sub t s = true → lc k T t ≤ lc k T s
  | 0, s, t, h, _, hs => by
    have := sub_le hs
    rw [show t = s by omega]; exact Nat.le_refl _
  | f + 1, s, t, h, hlt, hs => by
    by_cases e : t = s
    · rw [e]; exact Nat.le_refl _
    · obtain ⟨a, h1, h2⟩ := ex_bit hs e
      have hlt2 := dif_bit_lt h1
      have := lc_mono (T := T) hk f (dif s (2 ^ a)) t (by omega) (by omega) (dif1_sub hs h2)
      have h64 := pow6 hk
      have := lc_sub1 (T := T) (show s < 64 by omega) (bit_k hlt h1) h1
      omega
/-- the longest chain ends with a closed set -/
theorem lc_top {k : Nat} {T : Nat → Nat} (hk : k ≤ 6) : ∀ (f t : Nat), t ≤ f → t < 2 ^ k → lc k T t = 0 ∨ ∃ u, sub u t = true ∧ T u = u ∧ lc k T u = lc k T t := by
  intro f
  induction f with
  | zero =>
    intro t h hlt
    have h0 : t = 0 := by omega
    subst h0
    by_cases hc : T 0 = 0
    · exact Or.inr ⟨0, sub_refl 0, hc, rfl⟩
    · left
      rw [lc_eq (by decide), beq_eq_false_iff_ne.mpr hc]
      have : mx (fun a => if (0 : Nat).testBit a then lc k T (dif 0 (2 ^ a)) else 0) k ≤ 0 := mx_le (fun i _ => by simp)
      simp only [Bool.false_eq_true, if_false]
      omega
  | succ f ih =>
    intro t h hlt
    have h64 := pow6 hk
    by_cases hc : T t = t
    · exact Or.inr ⟨t, sub_refl t, hc, rfl⟩
    · have e : lc k T t = mx (fun a => if t.testBit a then lc k T (dif t (2 ^ a)) else 0) k := by
        rw [lc_eq (by omega), beq_eq_false_iff_ne.mpr hc]; rfl
      rcases mx_at (g := fun a => if t.testBit a then lc k T (dif t (2 ^ a)) else 0) k with q | ⟨i, hi, q⟩
      · left; rw [e, q]
      · cases hb : t.testBit i with
        | false =>
          left
          rw [e, q]
          simp only [hb]; rfl
        | true =>
          simp only [hb, if_true] at q
          have hlt2 := dif_bit_lt hb
          rcases ih (dif t (2 ^ i)) (by omega) (by omega) with w | ⟨u, w1, w2, w3⟩
          · left; rw [e, q, w]
          · exact Or.inr ⟨u, sub_trans w1 (sub_iff.mpr (fun j hj => by rw [dif_bit, Bool.and_eq_true] at hj; exact hj.1)), w2, by rw [w3, e, q]⟩
theorem lc_closed {k : Nat} {T : Nat → Nat} (hk : k ≤ 6) {s v : Nat} (hs : s < 2 ^ k) (hc : T s = s) (h1 : ∀ t, t < s → T t = t → sub t s = true → lc k T t + 1 ≤ v) (h2 : v = 1 ∨ ∃ t, t < s ∧ T t = t ∧ sub t s = true ∧ v = lc k T t + 1) : v = lc k T s := by
  have h64 := pow6 hk
  have e : lc k T s = mx (fun a => if s.testBit a then lc k T (dif s (2 ^ a)) else 0) k + 1 := by
    rw [lc_eq (by omega), hc, beq_self_eq_true]; rfl
  apply Nat.le_antisymm
  · rcases h2 with h2 | ⟨t, q1, q2, q3, q4⟩
    · omega
    · obtain ⟨a, w1, w2⟩ := ex_bit q3 (by omega)
      have hlt2 := dif_bit_lt w1
      have l1 := lc_mono (T := T) hk (dif s (2 ^ a)) (dif s (2 ^ a)) t (Nat.le_refl _) (by omega) (dif1_sub q3 w2)
      have l2 := lc_sub1 (T := T) (show s < 64 by omega) (bit_k hs w1) w1
      rw [hc, beq_self_eq_true] at l2
      simp only [if_true] at l2
      omega
  · have hv1 : 1 ≤ v := by
      rcases h2 with h2 | ⟨t, _, _, _, q4⟩ <;> omega
    rw [e]
    have : mx (fun a => if s.testBit a then lc k T (dif s (2 ^ a)) else 0) k ≤ v - 1 := by
      refine mx_le (fun i hi => ?_)
      show (if s.testBit i then lc k T (dif s (2 ^ i)) else 0) ≤ v - 1
      cases hb : s.testBit i with
      | false => exact Nat.zero_le _
      | true =>
        have hlt2 := dif_bit_lt hb
        simp only [if_true]
        rcases lc_top (T := T) hk (dif s (2 ^ i)) (dif s (2 ^ i)) (Nat.le_refl _) (by omega) with w | ⟨u, w1, w2, w3⟩
        · omega
        · have hu := sub_le w1
          have := h1 u (by omega) w2 (sub_trans w1 (sub_iff.mpr (fun j hj => by rw [dif_bit, Bool.and_eq_true] at hj; exact hj.1)))
          omega
    omega
