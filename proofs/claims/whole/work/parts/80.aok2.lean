/-! what every call keeps to -/
theorem dropLast_len {rs : List Nat} (h : rs.length ≤ 10) : rs.dropLast.length ≤ 10 := by rw [List.length_dropLast]; omega
theorem AOK.wEs {A : AS} (g : AOK A) {es : List Nat} (h : ∀ e ∈ es, e < 2 ^ A.k) (h2 : es.length ≤ 10) : AOK (A.wEs es) := ⟨g.k1, g.k6, g.rs, g.rl, h, h2, g.ts, g.tl, g.fl, g.cl, g.hi, g.hc, g.sn, g.bs⟩
theorem AOK.wFs {A : AS} (g : AOK A) {fs : List Nat} (h : fs.length ≤ 139) : AOK (A.wFs fs) := ⟨g.k1, g.k6, g.rs, g.rl, g.es, g.el, g.ts, g.tl, h, g.cl, g.hi, g.hc, g.sn, g.bs⟩
theorem AOK.putB {A : AS} (g : AOK A) {b ty sz : Nat} {ex : Bool} {cs : Nat → Int64} (h1 : sz ≤ 64) (h2 : ty < 3) : AOK (A.putB b ex ty sz cs) := by
  refine ⟨g.k1, g.k6, g.rs, g.rl, g.es, g.el, g.ts, g.tl, g.fl, g.cl, g.hi, g.hc, g.sn, fun i hi => ?_⟩
  show va_up A.bs b sz i ≤ 64 ∧ va_up A.bt b ty i < 3
  by_cases e : i = b
  · subst e; rw [hw_ups, hw_ups]; exact ⟨h1, h2⟩
  · rw [hw_upn e, hw_upn e]; exact g.bs i hi
theorem a_reset {A : AS} (g : AOK A) (p : Int32) : AOK (y_reset A p).2 := by
  unfold y_reset
  split
  · exact g
  · rename_i hb
    obtain ⟨j, hj, rfl⟩ := nI_of (x := p) (by rw [Int32.lt_iff_toInt_lt]; rw [Int32.lt_iff_toInt_lt, Int32.lt_iff_toInt_lt, show (1 : Int32).toInt = 1 by decide] at hb; rw [show (0 : Int32).toInt = 0 by decide]; omega)
    have hj1 : 1 ≤ j := Nat.le_of_not_lt (fun q => hb (Or.inl ((nI_ltI (b := 1) hj (by decide)).mpr q)))
    have hj6 : j ≤ 6 := Nat.le_of_not_lt (fun q => hb (Or.inr ((nI_ltI (a := 6) (by decide) hj).mpr q)))
    show AOK (A.fresh (cl (nI j)) [] [])
    rw [show cl (nI j) = j from nI_clamp hj]
    exact g.fresh hj1 hj6 (rok_nil _) (by decide) (fun e he => by cases he) (by decide)
theorem a_addRule {A : AS} (g : AOK A) (p q : Int32) : AOK (y_addRule A p q).2 := by
  unfold y_addRule
  split
  · rename_i h
    rw [Bool.and_eq_true] at h
    split
    · rename_i hl
      obtain ⟨i, a1, a2, rfl, a3⟩ := inr_t h.1
      obtain ⟨j, b1, b2, rfl, b3⟩ := inr_t h.2
      show AOK (A.rec (A.rs ++ [mkr (cl (nI i)) (cl (nI j)) 1]))
      rw [a3, b3]
      exact g.rec (rok_app g.rs (rok_mk g.k6 a1 b1 (by decide))) (by rw [List.length_append, List.length_singleton]; omega)
    · exact g
  · exact g
theorem a_removeLastRule {A : AS} (g : AOK A) : AOK (y_removeLastRule A).2 := by
  unfold y_removeLastRule
  split
  · exact g
  · exact g.rec (rok_drop g.rs) (dropLast_len g.rl)
theorem a_setEnabled {A : AS} (g : AOK A) (r e : Int32) : AOK (y_setEnabled A r e).2 := by
  unfold y_setEnabled
  split
  · rename_i h
    obtain ⟨j, a1, a2, rfl, a3⟩ := inr_t h
    split
    · rename_i he
      split
      · exact g
      · obtain ⟨hat1, hat2, hat3⟩ := rok_at g.rs a1
        have hce : cl e < 2 := by rcases he with rfl | rfl <;> decide
        rw [a3]
        exact g.rec (rok_set g.rs (rok_mk g.k6 hat2 hat3 hce)) (by rw [List.length_set]; exact g.rl)
    · exact g
  · exact g
theorem a_setRule {A : AS} (g : AOK A) (r p q : Int32) : AOK (y_setRule A r p q).2 := by
  unfold y_setRule
  split
  · rename_i h
    obtain ⟨t, a1, a2, rfl, a3⟩ := inr_t h
    split
    · rename_i h2
      rw [Bool.and_eq_true] at h2
      obtain ⟨i, b1, b2, rfl, b3⟩ := inr_t h2.1
      obtain ⟨j, c1, c2, rfl, c3⟩ := inr_t h2.2
      split
      · exact g
      · obtain ⟨hat1, hat2, hat3⟩ := rok_at g.rs a1
        rw [a3, b3, c3]
        exact g.rec (rok_set g.rs (rok_mk g.k6 b1 c1 (fr_lt hat1))) (by rw [List.length_set]; exact g.rl)
    · exact g
  · exact g
theorem a_addExample {A : AS} (g : AOK A) (s : Int32) : AOK (y_addExample A s).2 := by
  unfold y_addExample
  split
  · rename_i h
    obtain ⟨j, a1, a2, rfl, a3⟩ := inr_t h
    split
    · rw [a3]
      refine g.wEs (fun e he => ?_) (by rw [List.length_append, List.length_singleton]; omega)
      rcases List.mem_append.mp he with q | q
      · exact g.es e q
      · rw [List.mem_singleton.mp q]; exact a1
    · exact g
  · exact g
theorem a_clearExamples {A : AS} (g : AOK A) : AOK (y_clearExamples A).2 := g.wEs (fun e he => by cases he) (by show ([] : List Nat).length ≤ 10; decide)
theorem a_clearText {A : AS} (g : AOK A) : AOK (y_clearText A).2 := g.wTs (fun e he => by cases he) (by show ([] : List Nat).length ≤ 80; decide)
theorem a_appendText {A : AS} (g : AOK A) (c : Int32) : AOK (y_appendText A c).2 := by
  unfold y_appendText
  split
  · exact g
  · rename_i hb
    split
    · obtain ⟨j, hj, rfl⟩ := nI_of (x := c) (by rw [Int32.lt_iff_toInt_lt]; rw [Int32.lt_iff_toInt_lt, Int32.lt_iff_toInt_lt, show (32 : Int32).toInt = 32 by decide] at hb; rw [show (0 : Int32).toInt = 0 by decide]; omega)
      have h1 : 32 ≤ j := Nat.le_of_not_lt (fun q => hb (Or.inl ((nI_ltI (b := 32) hj (by decide)).mpr q)))
      have h2 : j ≤ 126 := Nat.le_of_not_lt (fun q => hb (Or.inr ((nI_ltI (a := 126) (by decide) hj).mpr q)))
      rw [show cl (nI j) = j from nI_clamp hj]
      refine g.wTs (fun e he => ?_) (by rw [List.length_append, List.length_singleton]; omega)
      rcases List.mem_append.mp he with q | q
      · exact g.ts e q
      · rw [List.mem_singleton.mp q]; omega
    · exact g
theorem a_parseRules {A : AS} (g : AOK A) : AOK (y_parseRules A).2 := by
  have g0 : AOK (A.wTs []) := g.wTs (fun e he => by cases he) (by decide)
  unfold y_parseRules
  cases h : pread A.k A.ts with
  | inl p => exact g0
  | inr ps =>
    show AOK (if A.rs.length + ps.length ≤ 10 then (nI ps.length, (A.wTs []).rec (A.rs ++ ps)) else (-3, A.wTs [])).2
    split
    · exact g0.rec (rok_app g.rs (pread_rok g.k6 h)) (by rw [List.length_append]; assumption)
    · exact g0
theorem a_formatRules {A : AS} (g : AOK A) : AOK (y_formatRules A).2 := by
  refine g.wFs ?_
  have := fmt_len A.rs A.rs.length
  have := g.rl
  by_cases h : 0 < A.rs.length
  · simp only [h, if_true] at *; omega
  · have h0 : A.rs.length = 0 := by omega
    rw [h0]; exact (by decide : 0 ≤ 139)
theorem a_undo {A : AS} (g : AOK A) : AOK (y_undo A).2 := by
  have := g.cl
  unfold y_undo
  split
  · exact g
  · have h := g.hi (A.cur - 1) (by omega)
    exact ⟨g.k1, g.k6, h.1, h.2, g.es, g.el, g.ts, g.tl, g.fl, ⟨by show A.cur - 1 ≤ A.lat; omega, g.cl.2⟩, g.hi, rfl, g.sn, g.bs⟩
theorem a_redo {A : AS} (g : AOK A) : AOK (y_redo A).2 := by
  have := g.cl
  unfold y_redo
  split
  · exact g
  · have h := g.hi (A.cur + 1) (by omega)
    exact ⟨g.k1, g.k6, h.1, h.2, g.es, g.el, g.ts, g.tl, g.fl, ⟨by show A.cur + 1 ≤ A.lat; omega, g.cl.2⟩, g.hi, rfl, g.sn, g.bs⟩
theorem a_save {A : AS} (g : AOK A) : AOK (y_save A).2 := by
  refine ⟨g.k1, g.k6, g.rs, g.rl, g.es, g.el, g.ts, g.tl, g.fl, g.cl, g.hi, g.hc, fun k r e h => ?_, g.bs⟩
  have h' : some (A.k, A.rs, A.es) = some (k, r, e) := h
  cases h'
  exact ⟨g.k1, g.k6, g.rs, g.rl, g.es, g.el⟩
theorem a_restore {A : AS} (g : AOK A) : AOK (y_restore A).2 := by
  unfold y_restore
  cases h : A.sn with
  | none => exact g
  | some t =>
    obtain ⟨h1, h2, h3, h4, h5, h6⟩ := g.sn t.1 t.2.1 t.2.2 h
    exact g.fresh h1 h2 h3 h4 h5 h6
theorem isT_lt {t : Int32} (h : isT t = true) : cl t < 3 := by
  unfold isT at h
  rw [decide_eq_true_eq] at h
  rcases h with rfl | rfl | rfl <;> decide
theorem a_createBuffer {A : AS} (g : AOK A) (b t s : Int32) : AOK (y_createBuffer A b t s).2 := by
  unfold y_createBuffer
  split
  · rename_i h
    rw [Bool.and_eq_true, Bool.and_eq_true, decide_eq_true_eq] at h
    split
    · exact g
    · rename_i hn
      obtain ⟨j, hj, rfl⟩ := nI_of hn
      have : j ≤ 64 := (nI_leI (b := 64) hj (by decide)).mp h.2
      exact g.putB (by rw [show cl (nI j) = j from nI_clamp hj]; exact this) (isT_lt h.1.2)
  · exact g
theorem a_writeBuffer {A : AS} (g : AOK A) (b p : Int32) (v : Int64) : AOK (y_writeBuffer A b p v).2 := by
  unfold y_writeBuffer
  split
  · rename_i h
    obtain ⟨j, a1, a2, rfl, a3⟩ := inr_t h
    rw [a3]
    split
    · split
      · exact g.putB (g.bs j a1).1 (g.bs j a1).2
      · exact g
    · exact g
  · exact g
theorem a_copyBuffer {A : AS} (g : AOK A) (b p c q w : Int32) : AOK (y_copyBuffer A b p c q w).2 := by
  unfold y_copyBuffer
  split
  · rename_i h
    rw [Bool.and_eq_true] at h
    obtain ⟨j, a1, a2, rfl, a3⟩ := inr_t h.2
    rw [a3]
    split
    · split
      · split
        · exact g.putB (g.bs j a1).1 (g.bs j a1).2
        · exact g
      · exact g
    · exact g
  · exact g
theorem a_exportClosures {A : AS} (g : AOK A) (b t : Int32) : AOK (y_exportClosures A b t).2 := by
  unfold y_exportClosures
  split
  · rename_i h
    rw [Bool.and_eq_true] at h
    exact g.putB (pow6 g.k6) (isT_lt h.2)
  · exact g
/-! the workbench stays when cells are made behind it -/
theorem WB.keptK {K K' : hw_KM} {I : hw_IM} {L : hw_LM} {P : hw_PM} {x : Nat} {A : AS} {ls xs : Bool} (g : WB K I L P x A ls xs) (h : ∀ y, x ≤ y → y < x + 60 → K' y = K y) : WB K' I L P x A ls xs := by
  have hr : ∀ {a cap : Nat} {ys : List Int32}, Row K I P a cap ys → x ≤ a → a + 1 < x + 60 → Row K' I P a cap ys := fun q w1 w2 => q.keptK (h _ (by omega) (by omega)) (h _ (by omega) (by omega)) rfl rfl rfl
  refine ⟨fun _ => ?_, fun _ => ?_, fun _ => ?_, fun _ => ?_, fun _ => ?_, fun _ => ?_, fun _ => ?_, fun _ => ?_, fun _ => ?_, fun _ => ?_, fun _ => ?_, fun _ => ?_, fun _ => ?_, fun _ => ?_, fun _ => ?_⟩
  · have := g.ob (by decide)
    unfold WOb at this ⊢
    rw [h x (by omega) (by omega)]; exact this
  · exact (g.ru (by decide)).keptK (fun y q1 q2 => h y (by omega) (by omega)) (fun _ _ _ => rfl) (fun _ _ _ => rfl)
  · exact hr (g.ex (by decide)) (by omega) (by omega)
  · obtain ⟨h1, h2, h3, h4, h5, h6, h7, h8⟩ := g.tb (by decide)
    exact ⟨by rw [h _ (by omega) (by omega)]; exact h1, h2, h3, h4, h5, hr h6 (by omega) (by omega), hr h7 (by omega) (by omega), h8⟩
  · have := g.la (by decide)
    unfold Lat at this ⊢
    rw [h _ (by omega) (by omega)]; exact this
  · exact (g.l1 (by decide)).elim (fun ys q => ⟨ys, hr q (by omega) (by omega)⟩)
  · exact (g.l2 (by decide)).elim (fun ys q => ⟨ys, hr q (by omega) (by omega)⟩)
  · exact (g.le (by decide)).elim (fun st q => by
      obtain ⟨h1, h2, h3, h4, h5, h6, h7, h8, h9, h10⟩ := q.1
      exact ⟨st, ⟨by rw [h _ (by omega) (by omega)]; exact h1, h2, h3, h4, h5, hr h6 (by omega) (by omega), hr h7 (by omega) (by omega), hr h8 (by omega) (by omega), hr h9 (by omega) (by omega), h10⟩, q.2⟩)
  · exact (g.xp (by decide)).elim (fun st q => by
      obtain ⟨h1, h2, h3, h4, h5, h6, h7, h8, h9⟩ := q.1
      exact ⟨st, ⟨by rw [h _ (by omega) (by omega)]; exact h1, h2, h3, h4, h5, hr h6 (by omega) (by omega), hr h7 (by omega) (by omega), hr h8 (by omega) (by omega), hr h9 (by omega) (by omega)⟩, q.2⟩)
  · exact (g.hi (by decide)).keptK (fun y q1 q2 => h y (by omega) (by omega)) (fun _ _ _ => rfl) (fun _ _ _ => rfl)
  · obtain ⟨h1, h2, h3, h4, r, e, h5, h6, h7⟩ := g.sn (by decide)
    exact ⟨by rw [h _ (by omega) (by omega)]; exact h1, h2, h3, h4, r, e, h5.keptK (fun y q1 q2 => h y (by omega) (by omega)) (fun _ _ _ => rfl) (fun _ _ _ => rfl), hr h6 (by omega) (by omega), h7⟩
  · exact hr (g.te (by decide)) (by omega) (by omega)
  · exact hr (g.fm (by decide)) (by omega) (by omega)
  · exact (g.ps (by decide)).elim (fun s q => by
      obtain ⟨h1, h2, h3, h4⟩ := q
      exact ⟨s, by rw [h _ (by omega) (by omega)]; exact h1, h2, h3.keptK (fun y q1 q2 => h y (by omega) (by omega)) (fun _ _ _ => rfl) (fun _ _ _ => rfl), h4⟩)
  · obtain ⟨h1, h2⟩ := g.bu (by decide)
    exact ⟨by rw [h _ (by omega) (by omega)]; exact h1, fun i hi => ⟨(h2 i hi).1, (h2 i hi).2.keptK (fun y q1 q2 => h y (by omega) (by omega)) rfl rfl rfl⟩⟩
