/-! the workbench: its state as numbers, and where its parts lie -/
abbrev AS : Type := Nat × List Nat × List Nat × (Nat → List Nat) × Nat × Nat × List Nat × List Nat × Option (Nat × List Nat × List Nat) × (Nat → Bool) × (Nat → Nat) × (Nat → Nat) × (Nat → Nat → Int64)
abbrev AS.k (A : AS) : Nat := A.1
abbrev AS.rs (A : AS) : List Nat := A.2.1
abbrev AS.es (A : AS) : List Nat := A.2.2.1
abbrev AS.H (A : AS) : Nat → List Nat := A.2.2.2.1
abbrev AS.cur (A : AS) : Nat := A.2.2.2.2.1
abbrev AS.lat (A : AS) : Nat := A.2.2.2.2.2.1
abbrev AS.ts (A : AS) : List Nat := A.2.2.2.2.2.2.1
abbrev AS.fs (A : AS) : List Nat := A.2.2.2.2.2.2.2.1
abbrev AS.sn (A : AS) : Option (Nat × List Nat × List Nat) := A.2.2.2.2.2.2.2.2.1
abbrev AS.bx (A : AS) : Nat → Bool := A.2.2.2.2.2.2.2.2.2.1
abbrev AS.bt (A : AS) : Nat → Nat := A.2.2.2.2.2.2.2.2.2.2.1
abbrev AS.bs (A : AS) : Nat → Nat := A.2.2.2.2.2.2.2.2.2.2.2.1
abbrev AS.bc (A : AS) : Nat → Nat → Int64 := A.2.2.2.2.2.2.2.2.2.2.2.2
abbrev AS.wTs (A : AS) (ts : List Nat) : AS := (AS.k A, AS.rs A, AS.es A, AS.H A, AS.cur A, AS.lat A, ts, AS.fs A, AS.sn A, AS.bx A, AS.bt A, AS.bs A, AS.bc A)
abbrev AS.wFs (A : AS) (fs : List Nat) : AS := (AS.k A, AS.rs A, AS.es A, AS.H A, AS.cur A, AS.lat A, AS.ts A, fs, AS.sn A, AS.bx A, AS.bt A, AS.bs A, AS.bc A)
abbrev AS.wEs (A : AS) (es : List Nat) : AS := (AS.k A, AS.rs A, es, AS.H A, AS.cur A, AS.lat A, AS.ts A, AS.fs A, AS.sn A, AS.bx A, AS.bt A, AS.bs A, AS.bc A)
abbrev AS.wRu (A : AS) (rs : List Nat) (H : Nat → List Nat) (cur : Nat) (lat : Nat) : AS := (AS.k A, rs, AS.es A, H, cur, lat, AS.ts A, AS.fs A, AS.sn A, AS.bx A, AS.bt A, AS.bs A, AS.bc A)
abbrev AS.wKe (A : AS) (k : Nat) (rs : List Nat) (es : List Nat) (H : Nat → List Nat) (cur : Nat) (lat : Nat) : AS := (k, rs, es, H, cur, lat, AS.ts A, AS.fs A, AS.sn A, AS.bx A, AS.bt A, AS.bs A, AS.bc A)
abbrev AS.wSn (A : AS) (sn : Option (Nat × List Nat × List Nat)) : AS := (AS.k A, AS.rs A, AS.es A, AS.H A, AS.cur A, AS.lat A, AS.ts A, AS.fs A, sn, AS.bx A, AS.bt A, AS.bs A, AS.bc A)
abbrev AS.wBu (A : AS) (bx : Nat → Bool) (bt : Nat → Nat) (bs : Nat → Nat) (bc : Nat → Nat → Int64) : AS := (AS.k A, AS.rs A, AS.es A, AS.H A, AS.cur A, AS.lat A, AS.ts A, AS.fs A, AS.sn A, bx, bt, bs, bc)
abbrev AS.T (A : AS) : Nat → Nat := clo A.rs (em A.rs)
abbrev AS.F (A : AS) : Nat → Int32 := fun s => fi (fire A.rs (em A.rs) s)
def AOK (A : AS) : Prop :=
  (1 ≤ A.k) ∧ (A.k ≤ 6) ∧ (rok A.k A.rs) ∧ (A.rs.length ≤ 10) ∧ (∀ e ∈ A.es, e < 2 ^ A.k) ∧ (A.es.length ≤ 10) ∧ (∀ c ∈ A.ts, 32 ≤ c ∧ c < 127) ∧ (A.ts.length ≤ 80) ∧ (A.fs.length ≤ 139) ∧ (A.cur ≤ A.lat ∧ A.lat ≤ 12) ∧ (∀ i, i ≤ A.lat → rok A.k (A.H i) ∧ (A.H i).length ≤ 10) ∧ (A.H A.cur = A.rs) ∧ (∀ k r e, A.sn = some (k, r, e) → 1 ≤ k ∧ k ≤ 6 ∧ rok k r ∧ r.length ≤ 10 ∧ (∀ c ∈ e, c < 2 ^ k) ∧ e.length ≤ 10) ∧ (∀ i, i < 3 → A.bs i ≤ 64 ∧ A.bt i < 3)
theorem AOK.k1 {A : AS} (g : AOK A) : 1 ≤ A.k := g.1
theorem AOK.k6 {A : AS} (g : AOK A) : A.k ≤ 6 := g.2.1
theorem AOK.rs {A : AS} (g : AOK A) : rok A.k A.rs := g.2.2.1
theorem AOK.rl {A : AS} (g : AOK A) : A.rs.length ≤ 10 := g.2.2.2.1
theorem AOK.es {A : AS} (g : AOK A) : ∀ e ∈ A.es, e < 2 ^ A.k := g.2.2.2.2.1
theorem AOK.el {A : AS} (g : AOK A) : A.es.length ≤ 10 := g.2.2.2.2.2.1
theorem AOK.ts {A : AS} (g : AOK A) : ∀ c ∈ A.ts, 32 ≤ c ∧ c < 127 := g.2.2.2.2.2.2.1
theorem AOK.tl {A : AS} (g : AOK A) : A.ts.length ≤ 80 := g.2.2.2.2.2.2.2.1
theorem AOK.fl {A : AS} (g : AOK A) : A.fs.length ≤ 139 := g.2.2.2.2.2.2.2.2.1
theorem AOK.cl {A : AS} (g : AOK A) : A.cur ≤ A.lat ∧ A.lat ≤ 12 := g.2.2.2.2.2.2.2.2.2.1
theorem AOK.hi {A : AS} (g : AOK A) : ∀ i, i ≤ A.lat → rok A.k (A.H i) ∧ (A.H i).length ≤ 10 := g.2.2.2.2.2.2.2.2.2.2.1
theorem AOK.hc {A : AS} (g : AOK A) : A.H A.cur = A.rs := g.2.2.2.2.2.2.2.2.2.2.2.1
theorem AOK.sn {A : AS} (g : AOK A) : ∀ k r e, A.sn = some (k, r, e) → 1 ≤ k ∧ k ≤ 6 ∧ rok k r ∧ r.length ≤ 10 ∧ (∀ c ∈ e, c < 2 ^ k) ∧ e.length ≤ 10 := g.2.2.2.2.2.2.2.2.2.2.2.2.1
theorem AOK.bs {A : AS} (g : AOK A) : ∀ i, i < 3 → A.bs i ≤ 64 ∧ A.bt i < 3 := g.2.2.2.2.2.2.2.2.2.2.2.2.2
def WOb (K : hw_KM) (I : hw_IM) (P : hw_PM) (x k : Nat) (ls xs : Bool) : Prop :=
  K x = some (.inl 10) ∧ (P x 1 = some (x + 1) ∧ P x 2 = some (x + 4) ∧ P x 3 = some (x + 6) ∧ P x 4 = some (x + 11) ∧ P x 5 = some (x + 16) ∧ P x 6 = some (x + 25) ∧ P x 9 = some (x + 34) ∧ P x 10 = some (x + 39) ∧ P x 11 = some (x + 45) ∧ P x 12 = some (x + 47) ∧ P x 13 = some (x + 49) ∧ P x 14 = some (x + 53)) ∧ I x 0 = nI k ∧ I x 7 = bi ls ∧ I x 8 = bi xs
def WSn (K : hw_KM) (I : hw_IM) (P : hw_PM) (a : Nat) (sn : Option (Nat × List Nat × List Nat)) : Prop :=
  K a = some (.inl 9) ∧ P a 2 = some (a + 1) ∧ P a 3 = some (a + 4) ∧ I a 0 = bi sn.isSome ∧ ∃ r e, Rls K I P (a + 1) r ∧ Row K I P (a + 4) 10 (e.map nI) ∧ ∀ t, sn = some t → I a 1 = nI t.1 ∧ r = t.2.1 ∧ e = t.2.2
def WBu (K : hw_KM) (I : hw_IM) (L : hw_LM) (P : hw_PM) (a : Nat) (A : AS) : Prop :=
  K a = some (.inr (.object (hw_nm 0), 3)) ∧ ∀ i, i < 3 → P a i = some (a + 1 + 2 * i) ∧ Bf K I L P (a + 1 + 2 * i) (A.bx i) (A.bt i) (A.bs i) (A.bc i)
def WBx (K : hw_KM) (I : hw_IM) (L : hw_LM) (P : hw_PM) (x : Nat) (A : AS) (ls xs : Bool) (lo hi : Nat) : Prop :=
  ((1 ≤ lo ∨ hi ≤ 0) → WOb K I P x A.k ls xs) ∧ ((4 ≤ lo ∨ hi ≤ 1) → Rls K I P (x + 1) A.rs) ∧ ((6 ≤ lo ∨ hi ≤ 4) → Row K I P (x + 4) 10 (A.es.map nI)) ∧ ((11 ≤ lo ∨ hi ≤ 6) → Tbl K I P (x + 6) A.k A.T A.F) ∧ ((12 ≤ lo ∨ hi ≤ 11) → Lat K P (x + 11)) ∧ ((14 ≤ lo ∨ hi ≤ 12) → ∃ ys, Row K I P (x + 12) 64 ys) ∧ ((16 ≤ lo ∨ hi ≤ 14) → ∃ ys, Row K I P (x + 14) 64 ys) ∧ ((25 ≤ lo ∨ hi ≤ 16) → ∃ st, Lrn K I P (x + 16) st ∧ (ls = false → st = LRN (2 ^ A.k) A.T)) ∧ ((34 ≤ lo ∨ hi ≤ 25) → ∃ st, Exp K I P (x + 25) st ∧ (xs = false → st = EXL (2 ^ A.k) A.T A.es)) ∧ ((39 ≤ lo ∨ hi ≤ 34) → Hist K I P (x + 34) A.H A.cur A.lat) ∧ ((45 ≤ lo ∨ hi ≤ 39) → WSn K I P (x + 39) A.sn) ∧ ((47 ≤ lo ∨ hi ≤ 45) → Row K I P (x + 45) 80 (A.ts.map nI)) ∧ ((49 ≤ lo ∨ hi ≤ 47) → Row K I P (x + 47) 139 (A.fs.map nI)) ∧ ((53 ≤ lo ∨ hi ≤ 49) → ∃ s, Prs K I P (x + 49) s) ∧ ((60 ≤ lo ∨ hi ≤ 53) → WBu K I L P (x + 53) A)
theorem WBx.ob {K : hw_KM} {I : hw_IM} {L : hw_LM} {P : hw_PM} {x : Nat} {A : AS} {ls xs : Bool} {lo hi : Nat} (g : WBx K I L P x A ls xs lo hi) : (1 ≤ lo ∨ hi ≤ 0) → WOb K I P x A.k ls xs := g.1
theorem WBx.ru {K : hw_KM} {I : hw_IM} {L : hw_LM} {P : hw_PM} {x : Nat} {A : AS} {ls xs : Bool} {lo hi : Nat} (g : WBx K I L P x A ls xs lo hi) : (4 ≤ lo ∨ hi ≤ 1) → Rls K I P (x + 1) A.rs := g.2.1
theorem WBx.ex {K : hw_KM} {I : hw_IM} {L : hw_LM} {P : hw_PM} {x : Nat} {A : AS} {ls xs : Bool} {lo hi : Nat} (g : WBx K I L P x A ls xs lo hi) : (6 ≤ lo ∨ hi ≤ 4) → Row K I P (x + 4) 10 (A.es.map nI) := g.2.2.1
theorem WBx.tb {K : hw_KM} {I : hw_IM} {L : hw_LM} {P : hw_PM} {x : Nat} {A : AS} {ls xs : Bool} {lo hi : Nat} (g : WBx K I L P x A ls xs lo hi) : (11 ≤ lo ∨ hi ≤ 6) → Tbl K I P (x + 6) A.k A.T A.F := g.2.2.2.1
theorem WBx.la {K : hw_KM} {I : hw_IM} {L : hw_LM} {P : hw_PM} {x : Nat} {A : AS} {ls xs : Bool} {lo hi : Nat} (g : WBx K I L P x A ls xs lo hi) : (12 ≤ lo ∨ hi ≤ 11) → Lat K P (x + 11) := g.2.2.2.2.1
theorem WBx.l1 {K : hw_KM} {I : hw_IM} {L : hw_LM} {P : hw_PM} {x : Nat} {A : AS} {ls xs : Bool} {lo hi : Nat} (g : WBx K I L P x A ls xs lo hi) : (14 ≤ lo ∨ hi ≤ 12) → ∃ ys, Row K I P (x + 12) 64 ys := g.2.2.2.2.2.1
theorem WBx.l2 {K : hw_KM} {I : hw_IM} {L : hw_LM} {P : hw_PM} {x : Nat} {A : AS} {ls xs : Bool} {lo hi : Nat} (g : WBx K I L P x A ls xs lo hi) : (16 ≤ lo ∨ hi ≤ 14) → ∃ ys, Row K I P (x + 14) 64 ys := g.2.2.2.2.2.2.1
theorem WBx.le {K : hw_KM} {I : hw_IM} {L : hw_LM} {P : hw_PM} {x : Nat} {A : AS} {ls xs : Bool} {lo hi : Nat} (g : WBx K I L P x A ls xs lo hi) : (25 ≤ lo ∨ hi ≤ 16) → ∃ st, Lrn K I P (x + 16) st ∧ (ls = false → st = LRN (2 ^ A.k) A.T) := g.2.2.2.2.2.2.2.1
theorem WBx.xp {K : hw_KM} {I : hw_IM} {L : hw_LM} {P : hw_PM} {x : Nat} {A : AS} {ls xs : Bool} {lo hi : Nat} (g : WBx K I L P x A ls xs lo hi) : (34 ≤ lo ∨ hi ≤ 25) → ∃ st, Exp K I P (x + 25) st ∧ (xs = false → st = EXL (2 ^ A.k) A.T A.es) := g.2.2.2.2.2.2.2.2.1
theorem WBx.hi {K : hw_KM} {I : hw_IM} {L : hw_LM} {P : hw_PM} {x : Nat} {A : AS} {ls xs : Bool} {lo hi : Nat} (g : WBx K I L P x A ls xs lo hi) : (39 ≤ lo ∨ hi ≤ 34) → Hist K I P (x + 34) A.H A.cur A.lat := g.2.2.2.2.2.2.2.2.2.1
theorem WBx.sn {K : hw_KM} {I : hw_IM} {L : hw_LM} {P : hw_PM} {x : Nat} {A : AS} {ls xs : Bool} {lo hi : Nat} (g : WBx K I L P x A ls xs lo hi) : (45 ≤ lo ∨ hi ≤ 39) → WSn K I P (x + 39) A.sn := g.2.2.2.2.2.2.2.2.2.2.1
theorem WBx.te {K : hw_KM} {I : hw_IM} {L : hw_LM} {P : hw_PM} {x : Nat} {A : AS} {ls xs : Bool} {lo hi : Nat} (g : WBx K I L P x A ls xs lo hi) : (47 ≤ lo ∨ hi ≤ 45) → Row K I P (x + 45) 80 (A.ts.map nI) := g.2.2.2.2.2.2.2.2.2.2.2.1
theorem WBx.fm {K : hw_KM} {I : hw_IM} {L : hw_LM} {P : hw_PM} {x : Nat} {A : AS} {ls xs : Bool} {lo hi : Nat} (g : WBx K I L P x A ls xs lo hi) : (49 ≤ lo ∨ hi ≤ 47) → Row K I P (x + 47) 139 (A.fs.map nI) := g.2.2.2.2.2.2.2.2.2.2.2.2.1
theorem WBx.ps {K : hw_KM} {I : hw_IM} {L : hw_LM} {P : hw_PM} {x : Nat} {A : AS} {ls xs : Bool} {lo hi : Nat} (g : WBx K I L P x A ls xs lo hi) : (53 ≤ lo ∨ hi ≤ 49) → ∃ s, Prs K I P (x + 49) s := g.2.2.2.2.2.2.2.2.2.2.2.2.2.1
theorem WBx.bu {K : hw_KM} {I : hw_IM} {L : hw_LM} {P : hw_PM} {x : Nat} {A : AS} {ls xs : Bool} {lo hi : Nat} (g : WBx K I L P x A ls xs lo hi) : (60 ≤ lo ∨ hi ≤ 53) → WBu K I L P (x + 53) A := g.2.2.2.2.2.2.2.2.2.2.2.2.2.2
abbrev WB (K : hw_KM) (I : hw_IM) (L : hw_LM) (P : hw_PM) (x : Nat) (A : AS) (ls xs : Bool) : Prop := WBx K I L P x A ls xs 0 0
theorem or00 {a : Nat} : a ≤ 0 ∨ 0 ≤ 0 ∨ True := Or.inr (Or.inr trivial)
section
variable {l : Launch} {D : va_G} {z d : Nat} {K : hw_KM} {n : Nat} {I I' : hw_IM} {L L' : hw_LM} {P P' : hw_PM} {x : Nat} {A : AS} {ls xs : Bool} {lo hi : Nat}
theorem WOb.kept {k : Nat} (g : WOb K I P x k ls xs) (h : I' x = I x) (h2 : P' x = P x) : WOb K I' P' x k ls xs := by
  unfold WOb at g ⊢; rw [h, h2]; exact g
theorem WSn.kept {a : Nat} {sn : Option (Nat × List Nat × List Nat)} (g : WSn K I P a sn) (h : ∀ y, a ≤ y → y < a + 6 → I' y = I y) (h2 : ∀ y, a ≤ y → y < a + 6 → P' y = P y) : WSn K I' P' a sn := by
  obtain ⟨g1, g2, g3, g4, r, e, g5, g6, g7⟩ := g
  refine ⟨g1, by rw [h2 a (by omega) (by omega)]; exact g2, by rw [h2 a (by omega) (by omega)]; exact g3, by rw [h a (by omega) (by omega)]; exact g4, r, e, g5.kept (h _ (by omega) (by omega)) (h _ (by omega) (by omega)) (h2 _ (by omega) (by omega)) (h2 _ (by omega) (by omega)), g6.kept (h _ (by omega) (by omega)) (h _ (by omega) (by omega)) (h2 _ (by omega) (by omega)), fun t ht => ?_⟩
  rw [h a (by omega) (by omega)]; exact g7 t ht
theorem WBu.kept {a : Nat} (g : WBu K I L P a A) (h : ∀ y, a ≤ y → y < a + 7 → I' y = I y) (h3 : ∀ y, a ≤ y → y < a + 7 → L' y = L y) (h2 : ∀ y, a ≤ y → y < a + 7 → P' y = P y) : WBu K I' L' P' a A := by
  refine ⟨g.1, fun i hi => ⟨by rw [h2 a (by omega) (by omega)]; exact (g.2 i hi).1, (g.2 i hi).2.kept (h _ (by omega) (by omega)) (h3 _ (by omega) (by omega)) (h2 _ (by omega) (by omega))⟩⟩
/-- what lies outside of what is written stays -/
theorem WBx.hole (g : WB K I L P x A ls xs) (lo hi : Nat) (f : ∀ y, x ≤ y → y < x + 60 → (y < x + lo ∨ x + hi ≤ y) → I' y = I y ∧ L' y = L y ∧ P' y = P y) : WBx K I' L' P' x A ls xs lo hi := by
  refine ⟨?_, ?_, ?_, ?_, ?_, ?_, ?_, ?_, ?_, ?_, ?_, ?_, ?_, ?_, ?_⟩
  · exact fun h => (g.ob (by decide)).kept (f x (by omega) (by omega) (by omega)).1 (f x (by omega) (by omega) (by omega)).2.2
  · exact fun h => (g.ru (by decide)).kept (f _ (by omega) (by omega) (by omega)).1 (f _ (by omega) (by omega) (by omega)).1 (f _ (by omega) (by omega) (by omega)).2.2 (f _ (by omega) (by omega) (by omega)).2.2
  · exact fun h => (g.ex (by decide)).kept (f _ (by omega) (by omega) (by omega)).1 (f _ (by omega) (by omega) (by omega)).1 (f _ (by omega) (by omega) (by omega)).2.2
  · exact fun h => (g.tb (by decide)).kept (fun y q1 q2 => (f y (by omega) (by omega) (by omega)).1) (fun y q1 q2 => (f y (by omega) (by omega) (by omega)).2.2)
  · exact fun h => by
        have := g.la (by decide)
        unfold Lat at this ⊢
        rw [(f (x + 11) (by omega) (by omega) (by omega)).2.2]; exact this
  · exact fun h => (g.l1 (by decide)).elim (fun ys q => ⟨ys, q.kept (f _ (by omega) (by omega) (by omega)).1 (f _ (by omega) (by omega) (by omega)).1 (f _ (by omega) (by omega) (by omega)).2.2⟩)
  · exact fun h => (g.l2 (by decide)).elim (fun ys q => ⟨ys, q.kept (f _ (by omega) (by omega) (by omega)).1 (f _ (by omega) (by omega) (by omega)).1 (f _ (by omega) (by omega) (by omega)).2.2⟩)
  · exact fun h => (g.le (by decide)).elim (fun ys q => ⟨ys, q.1.kept (fun y q1 q2 => (f y (by omega) (by omega) (by omega)).1) (fun y q1 q2 => (f y (by omega) (by omega) (by omega)).2.2), q.2⟩)
  · exact fun h => (g.xp (by decide)).elim (fun ys q => ⟨ys, q.1.kept (fun y q1 q2 => (f y (by omega) (by omega) (by omega)).1) (fun y q1 q2 => (f y (by omega) (by omega) (by omega)).2.2), q.2⟩)
  · exact fun h => (g.hi (by decide)).kept (fun y q1 q2 => (f y (by omega) (by omega) (by omega)).1) (fun y q1 q2 => (f y (by omega) (by omega) (by omega)).2.2)
  · exact fun h => (g.sn (by decide)).kept (fun y q1 q2 => (f y (by omega) (by omega) (by omega)).1) (fun y q1 q2 => (f y (by omega) (by omega) (by omega)).2.2)
  · exact fun h => (g.te (by decide)).kept (f _ (by omega) (by omega) (by omega)).1 (f _ (by omega) (by omega) (by omega)).1 (f _ (by omega) (by omega) (by omega)).2.2
  · exact fun h => (g.fm (by decide)).kept (f _ (by omega) (by omega) (by omega)).1 (f _ (by omega) (by omega) (by omega)).1 (f _ (by omega) (by omega) (by omega)).2.2
  · exact fun h => (g.ps (by decide)).elim (fun s q => by
        obtain ⟨q1, q2, q3, q4, q5, q6, q7, q8⟩ := q
        have e1 := (f (x + 49) (by omega) (by omega) (by omega)).1
        have e2 := (f (x + 49) (by omega) (by omega) (by omega)).2.2
        exact ⟨s, q1, by rw [e2]; exact q2, q3.kept (f _ (by omega) (by omega) (by omega)).1 (f _ (by omega) (by omega) (by omega)).1 (f _ (by omega) (by omega) (by omega)).2.2 (f _ (by omega) (by omega) (by omega)).2.2, by rw [e1]; exact q4, fun w => by rw [e1]; exact q5 w, by rw [e1]; exact q6, by rw [e1]; exact q7, q8⟩)
  · exact fun h => (g.bu (by decide)).kept (fun y q1 q2 => (f y (by omega) (by omega) (by omega)).1) (fun y q1 q2 => (f y (by omega) (by omega) (by omega)).2.1) (fun y q1 q2 => (f y (by omega) (by omega) (by omega)).2.2)
/-- what a method of the workbench leaves -/
def Wr (K : hw_KM) (n : Nat) (I : hw_IM) (L : hw_LM) (P : hw_PM) (x : Nat) (A : AS) (v : Value) (r : Option Value) (S : hw_S) : Prop :=
  r = some v ∧ ∃ (I' : hw_IM) (L' : hw_LM) (P' : hw_PM), S = (K, n, I', L', P') ∧ (∃ ls xs, WB K I' L' P' x A ls xs) ∧ ∀ y, y < x ∨ x + 60 ≤ y → I' y = I y ∧ L' y = L y ∧ P' y = P y
theorem Wr.same (g : WB K I L P x A ls xs) {v : Value} : Wr K n I L P x A v (some v) (K, n, I, L, P) := ⟨rfl, I, L, P, rfl, ⟨ls, xs, g⟩, fun _ _ => ⟨rfl, rfl, rfl⟩⟩
end
