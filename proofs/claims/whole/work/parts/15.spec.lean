/-! what the class's methods answer, as functions of its state -/
theorem sq_bd {a n : Int} (h : -n ≤ a) (h2 : a ≤ n) : 0 ≤ a * a ∧ a * a ≤ n * n := by
  have h0 : 0 ≤ a * a := by
    rcases Int.le_total 0 a with q | q
    · exact Int.mul_nonneg q q
    · exact Int.mul_nonneg_of_nonpos_of_nonpos q q
  refine ⟨h0, ?_⟩
  have h3 : 0 ≤ (n - a) * (n + a) := Int.mul_nonneg (by omega) (by omega)
  have h4 : (n - a) * (n + a) = n * n - a * a := by
    rw [Int.sub_mul, Int.mul_add, Int.mul_add, Int.mul_comm a n]; omega
  omega
/-- the board's numbers are in their ranges -/
def IB (σ : St) : Prop := (0 ≤ σ 7 0 ∧ σ 7 0 ≤ 12) ∧ (0 ≤ σ 8 0 ∧ σ 8 0 ≤ 36) ∧ (0 ≤ σ 9 0 ∧ σ 9 0 ≤ 1000000) ∧ (∀ i, -1000000 ≤ σ 3 i ∧ σ 3 i ≤ 1000000) ∧ (∀ i, -1000000 ≤ σ 4 i ∧ σ 4 i ≤ 1000000) ∧ (∀ i, 0 ≤ σ 5 i ∧ σ 5 i ≤ 100000) ∧ (∀ i, 0 ≤ σ 6 i ∧ σ 6 i ≤ 1000000) ∧ (∀ i, 0 ≤ σ 1 i ∧ σ 1 i ≤ 3) ∧ (∀ i, 0 ≤ σ 2 i ∧ σ 2 i ≤ 35) ∧ (∀ i, σ 0 i = 0 ∨ σ 0 i = 1)
def sqW (σ : St) (p x y : Int) : Int := (σ 3 p - x) * (σ 3 p - x) + (σ 4 p - y) * (σ 4 p - y)
theorem sqW_bd {σ : St} (h : IB σ) (p : Int) {x y : Int} (hx : -1000000 ≤ x ∧ x ≤ 1000000) (hy : -1000000 ≤ y ∧ y ≤ 1000000) : 0 ≤ sqW σ p x y ∧ sqW σ p x y ≤ 8000000000000 := by
  obtain ⟨-, -, -, h3, h4, -⟩ := h
  have a := sq_bd (a := σ 3 p - x) (n := 2000000) (by have := h3 p; omega) (by have := h3 p; omega)
  have b := sq_bd (a := σ 4 p - y) (n := 2000000) (by have := h4 p; omega) (by have := h4 p; omega)
  unfold sqW
  omega
abbrev canB (σ : St) (a b : Int) : Prop := (σ 9 0 + σ 5 a + σ 5 b) * (σ 9 0 + σ 5 a + σ 5 b) ≤ sqW σ a (σ 3 b) (σ 4 b)
abbrev befP (σ : St) (a b : Int) : Prop := σ 3 a < σ 3 b ∨ (σ 3 a = σ 3 b ∧ (σ 4 a < σ 4 b ∨ (σ 4 a = σ 4 b ∧ a < b)))
def bNet (σ : St) (b : Int) : St := if 12 ≤ σ 7 0 then σ else up (up σ 0 (σ 7 0) b) 7 0 (σ 7 0 + 1)
def bPoint (σ : St) (n x y r : Int) : St := if 3 ≤ σ 1 n ∨ 36 ≤ σ 8 0 then σ else
  up (up (up (up (up (up σ 3 (σ 8 0) x) 4 (σ 8 0) y) 5 (σ 8 0) r) 2 (n * 3 + σ 1 n) (σ 8 0)) 1 n (σ 1 n + 1)) 8 0 (σ 8 0 + 1)
/-- how many of the first n nets must be reached -/
def cntM (σ : St) : Nat → Int
  | 0 => 0
  | n + 1 => cntM σ n + σ 0 n
theorem cntM_bd {σ : St} (h : ∀ i, σ 0 i = 0 ∨ σ 0 i = 1) (n : Nat) : 0 ≤ cntM σ n ∧ cntM σ n ≤ n := by
  induction n with
  | zero => simp [cntM]
  | succ n ih => have := h n; simp only [cntM]; omega
theorem Met.ofWF {l : Launch} {y : MethodName} {ws ws' : List Cond} {rm : Room} {Pc : Array Value → State → Prop} {Qc : Array Value → State → Outcome → State → Prop} {mc ms : Nat} {free : Addr → Prop} {cc : ByteArray} {maxL : Nat} {ret : Option FieldType}
    (hy : plainFor y = true) (hw : ws = Cond.code y cc maxL ret :: ws')
    (body : ∀ p e s m args below meth c s₁, BodyLoose p l y (headSpec ws rm) cc maxL ret e s m args below meth c s₁ → c.maxLocals = maxL → Pc args s →
      W p l e (headSpec ws rm).room s m args below meth c s.heap [] 0 0 (MQ below Qc args s mc ms free) (entryFrame m args maxL)) : Met l y ws rm Pc Qc mc ms free := by
  refine MetFree.of_bodySF (code := cc) (maxLocals := maxL) (ret := ret) hy ?_ ?_
  · intro args s m h hn
    obtain ⟨meth, c, h1, h2, h3, h4, h5, h6, -, -⟩ := Cond.code_spec hn (atoms_spec (ws := ws) h _ (by rw [hw]; exact List.mem_cons_self))
    exact ⟨meth, c, h1, h2, h3, h4, h5, h6⟩
  · intro p e s m args below meth c s₁ B hml hP _
    have hh0 : s₁.heap = s.heap := by rw [B.state]; rfl
    obtain ⟨t, a1, o, b1, b2, b3⟩ := body p e s m args below meth c s₁ B hml hP s₁ hh0 (Stand.of_body B)
    exact ⟨t, o, a1, b1, b2, ⟨b3.1, b3.2⟩⟩
theorem Cw.enterF {S0 : Type} {l : Launch} {D : va_G} {cl : List vw_C} {tys : List (ClassId × FieldType)} {wf : S0 → va_W} {y : MethodName} {cc : ByteArray} {nL : Nat} {ret : Option FieldType} {h : Nat} {as : List Value} {σ : S0} {Post : Option Value → S0 → Prop} (hy : plainFor y = true) (hn : (lg_sl as).length ≤ nL)
    (body : ∀ (A : Nat → Prop) (p : Program) (e : Env) (s : State) (m : MethodId) (below : List Frame) (meth : Method) (c : Code), Cx p s m as.toArray c cc nL y.cls meth ret D cl tys → ∀ ls : Array Slot, lv_has ls nL (lv_args 0 as) → Wd D cl wf A s.heap σ s.heap [] →
      W p l e (Rmh h) s m as.toArray below meth c s.heap [] 0 0 (MQ below (Qw D cl wf A Post) as.toArray s 0 0 A) (F0 m 0 ls [])) : Cw l D cl tys wf y cc nL ret h as σ Post := by
  intro A
  refine Met.ofWF (cc := cc) (maxL := nL) (ret := ret) hy rfl ?_
  intro p e s m args below meth c s₁ B hml hv
  obtain ⟨rfl, hTB, hK, hP, hD⟩ := hv
  have hl := lv_entry as (n := nL) hn
  rw [lg_entry_eq]
  exact body A p e s m below meth c ⟨B.exec, B.bytes, hml, findClass_of_methodNamed B.named, hTB, hK, B.returns, B.notSynchronized⟩ _ hl ⟨hP, hD, va_S.rf⟩
