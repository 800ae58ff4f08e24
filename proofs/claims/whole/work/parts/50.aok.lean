/-! what edits keep to -/
theorem AOK.rec {A : AS} (g : AOK A) {rs : List Nat} (h : rok A.k rs) (hl : rs.length ≤ 10) : AOK (A.rec rs) := by
  have hcl := g.cl
  unfold AS.rec
  by_cases hc : A.cur < 12
  · rw [if_pos hc]
    refine ⟨g.k1, g.k6, h, hl, g.es, g.el, g.ts, g.tl, g.fl, ⟨Nat.le_refl _, by show A.cur + 1 ≤ 12; omega⟩, fun i hi => ?_, hw_ups, g.sn, g.bs⟩
    have hi' : i ≤ A.cur + 1 := hi
    show rok A.k (va_up A.H (A.cur + 1) rs i) ∧ (va_up A.H (A.cur + 1) rs i).length ≤ 10
    by_cases e : i = A.cur + 1
    · subst e; rw [hw_ups]; exact ⟨h, hl⟩
    · rw [hw_upn e]; exact g.hi i (by omega)
  · rw [if_neg hc]
    refine ⟨g.k1, g.k6, h, hl, g.es, g.el, g.ts, g.tl, g.fl, ⟨Nat.le_refl _, Nat.le_refl _⟩, fun i hi => ?_, (show va_up (fun i => if i < 12 then A.H (i + 1) else if i = 12 then A.H 0 else A.H i) 12 rs 12 = rs from hw_ups), g.sn, g.bs⟩
    have hi' : i ≤ 12 := hi
    show rok A.k (va_up (fun i => if i < 12 then A.H (i + 1) else if i = 12 then A.H 0 else A.H i) 12 rs i) ∧ (va_up (fun i => if i < 12 then A.H (i + 1) else if i = 12 then A.H 0 else A.H i) 12 rs i).length ≤ 10
    by_cases e : i = 12
    · subst e; rw [hw_ups]; exact ⟨h, hl⟩
    · rw [hw_upn e]
      simp only [show i < 12 by omega, if_true]
      exact g.hi (i + 1) (by omega)
theorem AOK.fresh {A : AS} (g : AOK A) {k : Nat} {rs es : List Nat} (h1 : 1 ≤ k) (h6 : k ≤ 6) (h : rok k rs) (hl : rs.length ≤ 10) (he : ∀ e ∈ es, e < 2 ^ k) (hel : es.length ≤ 10) : AOK (A.fresh k rs es) := by
  refine ⟨h1, h6, h, hl, he, hel, g.ts, g.tl, g.fl, ⟨Nat.le_refl _, Nat.zero_le _⟩, fun i hi => ?_, (show va_up A.H 0 rs 0 = rs from hw_ups), g.sn, g.bs⟩
  have hi' : i = 0 := Nat.le_zero.mp hi
  subst hi'
  show rok k (va_up A.H 0 rs 0) ∧ (va_up A.H 0 rs 0).length ≤ 10
  rw [hw_ups]; exact ⟨h, hl⟩
