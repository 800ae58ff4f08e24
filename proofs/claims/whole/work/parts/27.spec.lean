/-! what each method answers, and the state behind it -/
abbrev cl (p : Int32) : Nat := p.toNatClampNeg
def vs (A : AS) (s : Int32) : Bool := inr (2 ^ A.k) s
theorem inr_t {N : Nat} {s : Int32} (h : inr N s = true) : ∃ j, j < N ∧ j < 2 ^ 31 ∧ s = nI j ∧ cl s = j := by
  simp only [inr, decide_eq_true_eq] at h
  obtain ⟨j, hj, rfl⟩ := nI_of h.1
  exact ⟨j, by rw [nI_clamp hj] at h; exact h.2, hj, rfl, nI_clamp hj⟩
abbrev AS.full (A : AS) : Nat := 2 ^ A.k - 1
def closedl (A : AS) : List Nat := lfil (2 ^ A.k) (fun s => A.T s == s)
def irrl (A : AS) : List Nat := lfil (2 ^ A.k) (fun s => A.T s == s && cov A.k A.T s == 1)
def minl (A : AS) (w al : Nat) : List Nat := lfil (2 ^ A.k) (fun s => sub s al && (sub w (A.T s) && mini A.k A.T w s))
def redu (rs : List Nat) : Nat → Nat
  | 0 => 0
  | i + 1 => if (em rs).testBit i && sub (cq rs i) (clo rs (dif (em rs) (2 ^ i)) (cp rs i)) then redu rs i ||| 2 ^ i else redu rs i
def irrc (rs : List Nat) : Nat → Nat
  | 0 => em rs
  | i + 1 => if (irrc rs i).testBit i && sub (cq rs i) (clo rs (dif (irrc rs i) (2 ^ i)) (cp rs i)) then dif (irrc rs i) (2 ^ i) else irrc rs i
def rdp (T : Nat → Nat) (q p : Nat) : Nat → Nat
  | 0 => p
  | a + 1 => if sub q (T (dif (rdp T q p a) (2 ^ a))) then dif (rdp T q p a) (2 ^ a) else rdp T q p a
abbrev AS.lr (A : AS) : LSt := LRN (2 ^ A.k) A.T
abbrev AS.xl (A : AS) : XSt := EXL (2 ^ A.k) A.T A.es
def fset (s : Nat) : Nat → List Nat
  | 0 => []
  | a + 1 => if s.testBit a then fset s a ++ [97 + a] else fset s a
def fmt (rs : List Nat) : Nat → List Nat
  | 0 => []
  | i + 1 => fmt rs i ++ ((if 0 < i then [44] else []) ++ fset (cp rs i) 6 ++ [62] ++ fset (cq rs i) 6)
/-- an edit -/
def AS.rec (A : AS) (rs : List Nat) : AS := if A.cur < 12 then A.wRu rs (va_up A.H (A.cur + 1) rs) (A.cur + 1) (A.cur + 1) else A.wRu rs (va_up (fun i => if i < 12 then A.H (i + 1) else if i = 12 then A.H 0 else A.H i) 12 rs) 12 12
def AS.fresh (A : AS) (k : Nat) (rs es : List Nat) : AS := A.wKe k rs es (va_up A.H 0 rs) 0 0
def isT (t : Int32) : Bool := decide (t = 0 ∨ t = 1 ∨ t = 2)
def AS.putB (A : AS) (b : Nat) (ex : Bool) (ty sz : Nat) (cs : Nat → Int64) : AS := A.wBu (va_up A.bx b ex) (va_up A.bt b ty) (va_up A.bs b sz) (va_up A.bc b cs)
abbrev Out : Type := Int32 × AS
def y_reset (A : AS) (m : Int32) : Out := if m < 1 ∨ 6 < m then (-5, A) else (nI A.k, A.fresh (cl m) [] [])
def y_addRule (A : AS) (p q : Int32) : Out := if vs A p && vs A q then (if A.rs.length < 10 then (nI A.rs.length, A.rec (A.rs ++ [mkr (cl p) (cl q) 1])) else (-3, A)) else (-1, A)
def y_removeLastRule (A : AS) : Out := if A.rs.length = 0 then (-4, A) else (nI (A.rs.length - 1), A.rec A.rs.dropLast)
def y_setEnabled (A : AS) (r e : Int32) : Out := if inr A.rs.length r then (if e = 0 ∨ e = 1 then (if nI (fr (A.rs.getD (cl r) 0)) = e then (e, A) else (nI (fr (A.rs.getD (cl r) 0)), A.rec (A.rs.set (cl r) (mkr (cp A.rs (cl r)) (cq A.rs (cl r)) (cl e))))) else (-5, A)) else (-2, A)
def y_setRule (A : AS) (r p q : Int32) : Out := if inr A.rs.length r then (if vs A p && vs A q then (if nI (cp A.rs (cl r)) = p ∧ nI (cq A.rs (cl r)) = q then (0, A) else (1, A.rec (A.rs.set (cl r) (mkr (cl p) (cl q) (fr (A.rs.getD (cl r) 0)))))) else (-1, A)) else (-2, A)
def y_ruleCount (A : AS) : Out := (nI A.rs.length, A)
def y_attributeCount (A : AS) : Out := (nI A.k, A)
def y_premise (A : AS) (r : Int32) : Out := (rget (A.rs.map (fun c => nI (pr c))) r, A)
def y_conclusion (A : AS) (r : Int32) : Out := (rget (A.rs.map (fun c => nI (qr c))) r, A)
def y_isEnabled (A : AS) (r : Int32) : Out := (rget (A.rs.map (fun c => nI (fr c))) r, A)
def y_closure (A : AS) (s : Int32) : Out := (if vs A s then nI (A.T (cl s)) else -1, A)
def y_isClosed (A : AS) (s : Int32) : Out := (if vs A s then bi (A.T (cl s) == cl s) else -1, A)
def y_entails (A : AS) (p q : Int32) : Out := (if vs A p && vs A q then bi (sub (cl q) (A.T (cl p))) else -1, A)
def y_firingCount (A : AS) (s : Int32) : Out := (if vs A s then nI (chn A.rs (em A.rs) 10 (cl s)).length else -1, A)
def y_firedRule (A : AS) (s t : Int32) : Out := (if vs A s then rget ((chn A.rs (em A.rs) 10 (cl s)).map nI) t else -1, A)
def y_closedSetCount (A : AS) : Out := (nI (closedl A).length, A)
def y_closedSet (A : AS) (p : Int32) : Out := (rget ((closedl A).map nI) p, A)
def y_chainLength (A : AS) : Out := (nI (lc A.k A.T A.full), A)
def y_upperCoverCount (A : AS) (s : Int32) : Out := (if vs A s then (if A.T (cl s) == cl s then nI (cov A.k A.T (cl s)) else -2) else -1, A)
def y_irreducibleCount (A : AS) : Out := (nI (irrl A).length, A)
def y_irreducible (A : AS) (p : Int32) : Out := (rget ((irrl A).map nI) p, A)
def y_minimalKeyCount (A : AS) : Out := (nI (minl A A.full A.full).length, A)
def y_minimalKey (A : AS) (p : Int32) : Out := (rget ((minl A A.full A.full).map nI) p, A)
def y_generatorCount (A : AS) (a : Int32) : Out := (if inr A.k a then nI (minl A (2 ^ cl a) (dif A.full (2 ^ cl a))).length else -2, A)
def y_generator (A : AS) (a p : Int32) : Out := (if inr A.k a then rget ((minl A (2 ^ cl a) (dif A.full (2 ^ cl a))).map nI) p else -2, A)
def y_basisSize (A : AS) : Out := (nI (psl A.T (2 ^ A.k)).length, A)
def y_basisPremise (A : AS) (p : Int32) : Out := (rget ((psl A.T (2 ^ A.k)).map nI) p, A)
def y_basisConclusion (A : AS) (p : Int32) : Out := (if inr (psl A.T (2 ^ A.k)).length p then nI (A.T ((psl A.T (2 ^ A.k)).getD (cl p) 0)) else -2, A)
def y_redundantRules (A : AS) : Out := (nI (redu A.rs A.rs.length), A)
def y_irredundantCover (A : AS) : Out := (nI (irrc A.rs A.rs.length), A)
def y_reducedPremise (A : AS) (r : Int32) : Out := (if inr A.rs.length r then nI (rdp A.T (cq A.rs (cl r)) (cp A.rs (cl r)) A.k) else -2, A)
def y_learnerRounds (A : AS) : Out := (nI A.lr.2.2.1.length, A)
def y_counterexample (A : AS) (p : Int32) : Out := (rget (A.lr.2.2.1.map nI) p, A)
def y_positiveCounterexamples (A : AS) : Out := (nI A.lr.2.2.2, A)
def y_learnedCount (A : AS) : Out := (nI A.lr.1.length, A)
def y_learnedPremise (A : AS) (p : Int32) : Out := (rget (A.lr.1.map (fun q => nI q.1)) p, A)
def y_learnedConclusion (A : AS) (p : Int32) : Out := (rget (A.lr.1.map (fun q => nI q.2)) p, A)
def y_membershipQueries (A : AS) : Out := (nI A.lr.2.1.length, A)
def y_queriedSet (A : AS) (p : Int32) : Out := (rget (A.lr.2.1.map nI) p, A)
def y_queryPosition (A : AS) (s : Int32) : Out := (if vs A s then rpos (A.lr.2.1.map nI) s else -1, A)
def y_queryBound (A : AS) (f : Int32) : Out := (if f < 0 ∨ 2000000000 < f then -5 else if 2147483647 < (psl A.T (2 ^ A.k)).length * (A.k + 1) * cl f then -6 else nI ((psl A.T (2 ^ A.k)).length * (A.k + 1) * cl f), A)
def y_addExample (A : AS) (s : Int32) : Out := if vs A s then (if A.es.length < 10 then (nI A.es.length, A.wEs (A.es ++ [cl s])) else (-3, A)) else (-1, A)
def y_clearExamples (A : AS) : Out := (nI A.es.length, A.wEs [])
def y_exampleCount (A : AS) : Out := (nI A.es.length, A)
def y_example (A : AS) (p : Int32) : Out := (rget (A.es.map nI) p, A)
def y_contextClosure (A : AS) (s : Int32) : Out := (if vs A s then nI (meet A.es (cl s) A.full) else -1, A)
def y_support (A : AS) (s : Int32) : Out := (if vs A s then nI (cnt A.es (cl s)) else -1, A)
def y_exceptionCount (A : AS) (p q : Int32) : Out := (if vs A p && vs A q then nI (cnt A.es (cl p)) - nI (cnt A.es (cl p ||| cl q)) else -1, A)
def y_confidencePercent (A : AS) (p q : Int32) : Out := (if vs A p && vs A q then (if cnt A.es (cl p) = 0 then -2 else nI (100 * cnt A.es (cl p ||| cl q) / cnt A.es (cl p))) else -1, A)
def y_questionCount (A : AS) : Out := (nI A.xl.2.length, A)
def y_questionPremise (A : AS) (p : Int32) : Out := (rget (A.xl.2.map (fun q => nI q.1)) p, A)
def y_questionConclusion (A : AS) (p : Int32) : Out := (rget (A.xl.2.map (fun q => nI q.2.1)) p, A)
def y_isAccepted (A : AS) (p : Int32) : Out := (rget (A.xl.2.map (fun q => bi q.2.2)) p, A)
def y_appendText (A : AS) (c : Int32) : Out := if c < 32 ∨ 126 < c then (-5, A) else if A.ts.length < 80 then (nI (A.ts.length + 1), A.wTs (A.ts ++ [cl c])) else (-3, A)
def y_clearText (A : AS) : Out := (nI A.ts.length, A.wTs [])
def y_parseRules (A : AS) : Out := match pread A.k A.ts with
  | .inl p => (-100 - nI p, A.wTs [])
  | .inr ps => if A.rs.length + ps.length ≤ 10 then (nI ps.length, (A.wTs []).rec (A.rs ++ ps)) else (-3, A.wTs [])
def y_formatRules (A : AS) : Out := (nI (fmt A.rs A.rs.length).length, A.wFs (fmt A.rs A.rs.length))
def y_formattedCharacter (A : AS) (p : Int32) : Out := (rget (A.fs.map nI) p, A)
def y_undo (A : AS) : Out := if A.cur = 0 then (-4, A) else (nI (A.cur - 1), A.wRu (A.H (A.cur - 1)) A.H (A.cur - 1) A.lat)
def y_redo (A : AS) : Out := if A.lat = A.cur then (-4, A) else (nI (A.lat - (A.cur + 1)), A.wRu (A.H (A.cur + 1)) A.H (A.cur + 1) A.lat)
def y_save (A : AS) : Out := (nI A.rs.length, A.wSn (some (A.k, A.rs, A.es)))
def y_equalsSnapshot (A : AS) : Out := (match A.sn with
  | none => -4
  | some t => bi (decide (t.1 = A.k ∧ t.2.1 = A.rs ∧ t.2.2 = A.es)), A)
def y_restore (A : AS) : Out := match A.sn with
  | none => (-4, A)
  | some t => (nI t.2.1.length, A.fresh t.1 t.2.1 t.2.2)
def y_createBuffer (A : AS) (b t s : Int32) : Out := if inr 3 b && isT t && decide (s ≤ 64) then (if s < 0 then (-14, A) else (1, A.putB (cl b) true (cl t) (cl s) (fun _ => 0))) else (-5, A)
def y_writeBuffer (A : AS) (b p : Int32) (v : Int64) : Out := if inr 3 b then (if A.bx (cl b) then (if bfit (A.bs (cl b)) p 1 then (1, A.putB (cl b) true (A.bt (cl b)) (A.bs (cl b)) (va_up (A.bc (cl b)) (cl p) (bfix (A.bt (cl b)) v))) else (-13, A)) else (-11, A)) else (-5, A)
def y_readBuffer (A : AS) (b p : Int32) : Int64 × AS := (if inr 3 b && A.bx (cl b) then bget (A.bs (cl b)) (A.bc (cl b)) p else -9223372036854775808, A)
def y_copyBuffer (A : AS) (b p c q m : Int32) : Out := if inr 3 b && inr 3 c then (if A.bx (cl b) && A.bx (cl c) then (if A.bt (cl b) = A.bt (cl c) then (if bfit (A.bs (cl b)) p m && bfit (A.bs (cl c)) q m then (m, A.putB (cl c) true (A.bt (cl c)) (A.bs (cl c)) (va_cpy (A.bc (cl b)) (A.bc (cl c)) (cl p) (cl q) (cl m))) else (-13, A)) else (-12, A)) else (-11, A)) else (-5, A)
def y_exportClosures (A : AS) (b t : Int32) : Out := if inr 3 b && isT t then (nI (2 ^ A.k), A.putB (cl b) true (cl t) (2 ^ A.k) (fun i => if i < 2 ^ A.k then lN (A.T i) else 0)) else (-5, A)
def fdif (T : Nat → Nat) (cs : Nat → Int64) (N : Nat) : Option Nat := (List.range N).find? (fun s => cs s != lN (T s))
def y_firstDifference (A : AS) (b : Int32) : Out := (if inr 3 b then (if A.bx (cl b) then fi (fdif A.T (A.bc (cl b)) (min (A.bs (cl b)) (2 ^ A.k))) else -11) else -5, A)
def rnd (k : Nat) (T : Nat → Nat) (s : Int32) : Nat → Int32 × Nat
  | 0 => (s, 0)
  | i + 1 => let w := (rnd k T s i).1 * 1103515245 + 12345
    (w, (rnd k T s i).2 + pcn (T (w.toBitVec.toNat % 2 ^ 31 / 65536 % 2 ^ k)))
def y_randomClosureSum (A : AS) (m s : Int32) : Out := (if m < 1 ∨ 20 < m then -5 else nI (rnd A.k A.T s (cl m)).2, A)
def y_undoCount (A : AS) : Out := (nI A.cur, A)
def y_redoCount (A : AS) : Out := (nI (A.lat - A.cur), A)
