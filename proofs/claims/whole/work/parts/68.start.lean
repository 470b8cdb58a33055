/-! THE CLAIM OUT OF ONE WALK OF THE LAW'S BODY. Your part is whole_start (and what it stands on); all else here is the same for every law, but numbers. -/
def R_law : String := "ProbeChoiceLaw"
def lw_P (b : Addr) (xs : List Int32) (args : Array Value) (s : State) : Prop := args = #[.ref b] ∧ s.IntsAt b xs ∧ xs.length ≤ 4096 ∧ (Jvm.Cond.and given_1 narrow_1).before args s = true
def lw_Q (_ : Array Value) (s : State) (o : Outcome) (t : State) : Prop := o = .returned (some (.int 1)) ∧ Framed s o t [] 601024 7293034
def lw_Z (below : List Frame) (a : Array Value) (s : State) : State → Prop := fun t => ∃ o, t.status = .running ∧ Ended t below o ∧ lw_Q a s o t
/-- the law's own end, with 1 on the stack, nothing written that was there before, its room as the claim has it -/
theorem lw_ret {p : Program} {l : Launch} {e : Env} {s : State} {m : MethodId} {below : List Frame} {meth : Method} {c : Code} {b : Nat} (hx : p.tables.exec = Jvm.exec) (hb : c.code = code) (hr : meth.sig.returnType = ret) (hlocks : meth.locks = false) {pc : Nat} {H : Heap} {ls : Array Slot} (hdg : decode code pc = .ok (.ireturn, 1)) : W p l e room_1 s m #[Value.ref b] below meth c H [] 601024 7293034 (lw_Z below #[Value.ref b] s) (F0 m pc ls [.int 1]) := by
  intro T hT X
  obtain ⟨fs, hret, hrun, hended, hW, hframe⟩ := X.leave (v := some (.int 1)) (hlocks := hlocks) (fun h => by rw [hr] at h; cases h)
  have hmeth' : T.vm.method? m = some meth := X.method'
  refine ⟨T.setFrames fs, ?_, .returned (some (.int 1)), hrun, hended, rfl, ⟨_, rfl⟩, hW, hframe⟩
  jvm_step X.here [X.here.top, hx, hb, hdg, hmeth', hr, ret, narrow_b1]
  (try refine ⟨rfl, ?_⟩); (try refine ⟨rfl, ?_⟩)
  first | (intro acts; rw [hret _ acts rfl rfl rfl]) | rw [hret _ _ rfl rfl rfl]
  exact Steps.refl _
/-- what holds at the law's entry: the machine, the code, the tables' words (any of lw_tbl by 'hts w (by decide +kernel)'), the script of L ints xs at the cell b, what the Statement gives of the start (any of its parts by flat_of_before) -/
def lw_At (p : Program) (s : State) (m : MethodId) (meth : Method) (c : Code) (b L : Nat) (xs : Nat → Int32) : Prop :=
  p.tables.exec = Jvm.exec ∧ c.code = code ∧ meth.sig.returnType = ret ∧ c.maxLocals = 8 ∧ s.vm.findClass R_law = some m.cls ∧ (∀ w ∈ lw_tbl, w.before #[Value.ref b] s = true) ∧ va_X b L xs s s.heap ∧ b < s.heap.size ∧ meth.locks = false ∧ (Jvm.Cond.and given_1 narrow_1).before #[Value.ref b] s = true
/-! the law's loop and its start, over an invariant and a fact for each call. Written by wip/whole/gen/m_start.py -/
def HS (Inv : St → St → Prop) (l : Launch) (D : va_G) (am : Nat → Nat) (cm : Nat → ClassId) (ad : Nat → Nat) (ca : Nat → ClassId) (ao : Nat) (co : ClassId) : Prop := (∀ (σ μ : St) (v0 : Int), Inv σ μ → b01 v0 → SAI Inv l D am cm ad ca y_X_net c_X_net 2 (some .int) y_M_net c_M_net 2 (some .int) [.int (zI v0)] σ μ) ∧ (∀ (σ μ ω : St) (v0 v1 v2 v3 : Int), Inv σ μ → r32 v0 → r64 v1 → r64 v2 → r64 v3 → SHI Inv l D am cm ad ca ao co y_L_point c_L_point 10 [(0, 15, 18, 13), (0, 15, 22, 15)] y_M_point c_M_point 9 (some .int) [.int (zI v0), .long (zL v1), .long (zL v2), .long (zL v3)] r32 σ ω μ) ∧ (∀ (σ μ ω : St) (v0 : Int), Inv σ μ → r64 v0 → SHI Inv l D am cm ad ca ao co y_L_gap c_L_gap 5 [(0, 16, 19, 15)] y_M_gap c_M_gap 3 (some .boolean) [.long (zL v0)] b01 σ ω μ) ∧ (∀ (σ μ ω : St) (v0 : Int), Inv σ μ → r64 v0 → SHI Inv l D am cm ad ca ao co y_L_run c_L_run 5 [(0, 9, 12, 15)] y_M_run c_M_run 5 (some .int) [.long (zL v0)] r32 σ ω μ) ∧ (∀ (σ μ : St) (v0 : Int), Inv σ μ → r32 v0 → SAI Inv l D am cm ad ca y_X_probe c_X_probe 2 (some .int) y_M_probe c_M_probe 2 (some .int) [.int (zI v0)] σ μ) ∧ (∀ (σ μ : St), Inv σ μ → SAI Inv l D am cm ad ca y_X_proved c_X_proved 1 (some .boolean) y_M_proved c_M_proved 1 (some .boolean) [] σ μ) ∧ (∀ (σ μ : St) (v0 : Int), Inv σ μ → r32 v0 → SAI Inv l D am cm ad ca y_X_out c_X_out 2 (some .int) y_M_out c_M_out 4 (some .int) [.int (zI v0)] σ μ) ∧ (∀ (σ μ ω : St) (v0 v1 v2 v3 : Int), Inv σ μ → r32 v0 → r32 v1 → r64 v2 → r64 v3 → SHI Inv l D am cm ad ca ao co y_L_part c_L_part 9 [(0, 21, 24, 13), (0, 21, 28, 15)] y_M_part c_M_part 9 (some .boolean) [.int (zI v0), .int (zI v1), .long (zL v2), .long (zL v3)] b01 σ ω μ) ∧ (∀ (σ μ ω : St) (v0 v1 v2 v3 : Int), Inv σ μ → r32 v0 → r32 v1 → r32 v2 → r32 v3 → SHL Inv l D am cm ad ca ao co y_L_span c_L_span 7 [(0, 13, 16, 13), (0, 13, 20, 33)] y_M_span c_M_span 17 (some .long) [.int (zI v0), .int (zI v1), .int (zI v2), .int (zI v3)] σ ω μ) ∧ (∀ (σ μ ω : St) (v0 v1 v2 : Int), Inv σ μ → r32 v0 → r32 v1 → r32 v2 → SHI Inv l D am cm ad ca ao co y_L_guard c_L_guard 6 [(0, 12, 15, 13)] y_M_guard c_M_guard 6 (some .int) [.int (zI v0), .int (zI v1), .int (zI v2)] r32 σ ω μ) ∧ (∀ (σ μ ω : St) (v0 : Int), Inv σ μ → r32 v0 → SHI Inv l D am cm ad ca ao co y_L_fail c_L_fail 4 [(0, 16, 19, 13)] y_M_fail c_M_fail 4 (some .boolean) [.int (zI v0)] b01 σ ω μ) ∧ (∀ (σ μ : St), Inv σ μ → SAI Inv l D am cm ad ca y_X_suspects c_X_suspects 1 (some .int) y_M_suspects c_M_suspects 1 (some .int) [] σ μ) ∧ (∀ (σ μ ω : St) (v0 v1 : Int), Inv σ μ → r32 v0 → r32 v1 → SHI Inv l D am cm ad ca ao co y_L_suspect c_L_suspect 5 [(0, 10, 13, 13)] y_M_suspect c_M_suspect 6 (some .int) [.int (zI v0), .int (zI v1)] r32 σ ω μ) ∧ (∀ (σ μ ω : St) (v0 : Int), Inv σ μ → r32 v0 → SHI Inv l D am cm ad ca ao co y_L_faults c_L_faults 4 [(0, 9, 12, 13)] y_M_faults c_M_faults 2 (some .int) [.int (zI v0)] r32 σ ω μ) ∧ (∀ (σ μ : St) (v0 : Int), Inv σ μ → r32 v0 → SAI Inv l D am cm ad ca y_X_fly c_X_fly 2 (some .int) y_M_fly c_M_fly 2 (some .int) [.int (zI v0)] σ μ) ∧ (∀ (σ μ : St), Inv σ μ → SAL Inv l D am cm ad ca y_X_seconds c_X_seconds 1 (some .long) y_M_seconds c_M_seconds 1 (some .long) [] σ μ) ∧ (∀ (σ μ ω : St) (v0 v1 : Int), Inv σ μ → r32 v0 → r64 v1 → SHI Inv l D am cm ad ca ao co y_L_force c_L_force 6 [(0, 18, 21, 13), (0, 18, 25, 15)] y_M_force c_M_force 4 (some .boolean) [.int (zI v0), .long (zL v1)] b01 σ ω μ) ∧ (∀ (σ μ : St), Inv σ μ → SAL Inv l D am cm ad ca y_X_forces c_X_forces 1 (some .long) y_M_forces c_M_forces 4 (some .long) [] σ μ) ∧ (∀ (σ μ ω : St) (v0 : Int), Inv σ μ → r32 v0 → SHI Inv l D am cm ad ca ao co y_L_text c_L_text 4 [(0, 9, 12, 13)] y_M_text c_M_text 4 (some .int) [.int (zI v0)] r32 σ ω μ) ∧ (∀ (σ μ : St) (v0 : Int), Inv σ μ → r32 v0 → SAI Inv l D am cm ad ca y_X_order c_X_order 2 (some .int) y_M_order c_M_order 2 (some .int) [.int (zI v0)] σ μ)
theorem HS.net {Inv : St → St → Prop} {l : Launch} {D : va_G} {am : Nat → Nat} {cm : Nat → ClassId} {ad : Nat → Nat} {ca : Nat → ClassId} {ao : Nat} {co : ClassId} (h : HS Inv l D am cm ad ca ao co) : ∀ (σ μ : St) (v0 : Int), Inv σ μ → b01 v0 → SAI Inv l D am cm ad ca y_X_net c_X_net 2 (some .int) y_M_net c_M_net 2 (some .int) [.int (zI v0)] σ μ := h.1
theorem HS.point {Inv : St → St → Prop} {l : Launch} {D : va_G} {am : Nat → Nat} {cm : Nat → ClassId} {ad : Nat → Nat} {ca : Nat → ClassId} {ao : Nat} {co : ClassId} (h : HS Inv l D am cm ad ca ao co) : ∀ (σ μ ω : St) (v0 v1 v2 v3 : Int), Inv σ μ → r32 v0 → r64 v1 → r64 v2 → r64 v3 → SHI Inv l D am cm ad ca ao co y_L_point c_L_point 10 [(0, 15, 18, 13), (0, 15, 22, 15)] y_M_point c_M_point 9 (some .int) [.int (zI v0), .long (zL v1), .long (zL v2), .long (zL v3)] r32 σ ω μ := h.2.1
theorem HS.gap {Inv : St → St → Prop} {l : Launch} {D : va_G} {am : Nat → Nat} {cm : Nat → ClassId} {ad : Nat → Nat} {ca : Nat → ClassId} {ao : Nat} {co : ClassId} (h : HS Inv l D am cm ad ca ao co) : ∀ (σ μ ω : St) (v0 : Int), Inv σ μ → r64 v0 → SHI Inv l D am cm ad ca ao co y_L_gap c_L_gap 5 [(0, 16, 19, 15)] y_M_gap c_M_gap 3 (some .boolean) [.long (zL v0)] b01 σ ω μ := h.2.2.1
theorem HS.run {Inv : St → St → Prop} {l : Launch} {D : va_G} {am : Nat → Nat} {cm : Nat → ClassId} {ad : Nat → Nat} {ca : Nat → ClassId} {ao : Nat} {co : ClassId} (h : HS Inv l D am cm ad ca ao co) : ∀ (σ μ ω : St) (v0 : Int), Inv σ μ → r64 v0 → SHI Inv l D am cm ad ca ao co y_L_run c_L_run 5 [(0, 9, 12, 15)] y_M_run c_M_run 5 (some .int) [.long (zL v0)] r32 σ ω μ := h.2.2.2.1
theorem HS.probe {Inv : St → St → Prop} {l : Launch} {D : va_G} {am : Nat → Nat} {cm : Nat → ClassId} {ad : Nat → Nat} {ca : Nat → ClassId} {ao : Nat} {co : ClassId} (h : HS Inv l D am cm ad ca ao co) : ∀ (σ μ : St) (v0 : Int), Inv σ μ → r32 v0 → SAI Inv l D am cm ad ca y_X_probe c_X_probe 2 (some .int) y_M_probe c_M_probe 2 (some .int) [.int (zI v0)] σ μ := h.2.2.2.2.1
theorem HS.proved {Inv : St → St → Prop} {l : Launch} {D : va_G} {am : Nat → Nat} {cm : Nat → ClassId} {ad : Nat → Nat} {ca : Nat → ClassId} {ao : Nat} {co : ClassId} (h : HS Inv l D am cm ad ca ao co) : ∀ (σ μ : St), Inv σ μ → SAI Inv l D am cm ad ca y_X_proved c_X_proved 1 (some .boolean) y_M_proved c_M_proved 1 (some .boolean) [] σ μ := h.2.2.2.2.2.1
theorem HS.out {Inv : St → St → Prop} {l : Launch} {D : va_G} {am : Nat → Nat} {cm : Nat → ClassId} {ad : Nat → Nat} {ca : Nat → ClassId} {ao : Nat} {co : ClassId} (h : HS Inv l D am cm ad ca ao co) : ∀ (σ μ : St) (v0 : Int), Inv σ μ → r32 v0 → SAI Inv l D am cm ad ca y_X_out c_X_out 2 (some .int) y_M_out c_M_out 4 (some .int) [.int (zI v0)] σ μ := h.2.2.2.2.2.2.1
theorem HS.part {Inv : St → St → Prop} {l : Launch} {D : va_G} {am : Nat → Nat} {cm : Nat → ClassId} {ad : Nat → Nat} {ca : Nat → ClassId} {ao : Nat} {co : ClassId} (h : HS Inv l D am cm ad ca ao co) : ∀ (σ μ ω : St) (v0 v1 v2 v3 : Int), Inv σ μ → r32 v0 → r32 v1 → r64 v2 → r64 v3 → SHI Inv l D am cm ad ca ao co y_L_part c_L_part 9 [(0, 21, 24, 13), (0, 21, 28, 15)] y_M_part c_M_part 9 (some .boolean) [.int (zI v0), .int (zI v1), .long (zL v2), .long (zL v3)] b01 σ ω μ := h.2.2.2.2.2.2.2.1
theorem HS.span {Inv : St → St → Prop} {l : Launch} {D : va_G} {am : Nat → Nat} {cm : Nat → ClassId} {ad : Nat → Nat} {ca : Nat → ClassId} {ao : Nat} {co : ClassId} (h : HS Inv l D am cm ad ca ao co) : ∀ (σ μ ω : St) (v0 v1 v2 v3 : Int), Inv σ μ → r32 v0 → r32 v1 → r32 v2 → r32 v3 → SHL Inv l D am cm ad ca ao co y_L_span c_L_span 7 [(0, 13, 16, 13), (0, 13, 20, 33)] y_M_span c_M_span 17 (some .long) [.int (zI v0), .int (zI v1), .int (zI v2), .int (zI v3)] σ ω μ := h.2.2.2.2.2.2.2.2.1
theorem HS.guard {Inv : St → St → Prop} {l : Launch} {D : va_G} {am : Nat → Nat} {cm : Nat → ClassId} {ad : Nat → Nat} {ca : Nat → ClassId} {ao : Nat} {co : ClassId} (h : HS Inv l D am cm ad ca ao co) : ∀ (σ μ ω : St) (v0 v1 v2 : Int), Inv σ μ → r32 v0 → r32 v1 → r32 v2 → SHI Inv l D am cm ad ca ao co y_L_guard c_L_guard 6 [(0, 12, 15, 13)] y_M_guard c_M_guard 6 (some .int) [.int (zI v0), .int (zI v1), .int (zI v2)] r32 σ ω μ := h.2.2.2.2.2.2.2.2.2.1
theorem HS.fail {Inv : St → St → Prop} {l : Launch} {D : va_G} {am : Nat → Nat} {cm : Nat → ClassId} {ad : Nat → Nat} {ca : Nat → ClassId} {ao : Nat} {co : ClassId} (h : HS Inv l D am cm ad ca ao co) : ∀ (σ μ ω : St) (v0 : Int), Inv σ μ → r32 v0 → SHI Inv l D am cm ad ca ao co y_L_fail c_L_fail 4 [(0, 16, 19, 13)] y_M_fail c_M_fail 4 (some .boolean) [.int (zI v0)] b01 σ ω μ := h.2.2.2.2.2.2.2.2.2.2.1
theorem HS.suspects {Inv : St → St → Prop} {l : Launch} {D : va_G} {am : Nat → Nat} {cm : Nat → ClassId} {ad : Nat → Nat} {ca : Nat → ClassId} {ao : Nat} {co : ClassId} (h : HS Inv l D am cm ad ca ao co) : ∀ (σ μ : St), Inv σ μ → SAI Inv l D am cm ad ca y_X_suspects c_X_suspects 1 (some .int) y_M_suspects c_M_suspects 1 (some .int) [] σ μ := h.2.2.2.2.2.2.2.2.2.2.2.1
theorem HS.suspect {Inv : St → St → Prop} {l : Launch} {D : va_G} {am : Nat → Nat} {cm : Nat → ClassId} {ad : Nat → Nat} {ca : Nat → ClassId} {ao : Nat} {co : ClassId} (h : HS Inv l D am cm ad ca ao co) : ∀ (σ μ ω : St) (v0 v1 : Int), Inv σ μ → r32 v0 → r32 v1 → SHI Inv l D am cm ad ca ao co y_L_suspect c_L_suspect 5 [(0, 10, 13, 13)] y_M_suspect c_M_suspect 6 (some .int) [.int (zI v0), .int (zI v1)] r32 σ ω μ := h.2.2.2.2.2.2.2.2.2.2.2.2.1
theorem HS.faults {Inv : St → St → Prop} {l : Launch} {D : va_G} {am : Nat → Nat} {cm : Nat → ClassId} {ad : Nat → Nat} {ca : Nat → ClassId} {ao : Nat} {co : ClassId} (h : HS Inv l D am cm ad ca ao co) : ∀ (σ μ ω : St) (v0 : Int), Inv σ μ → r32 v0 → SHI Inv l D am cm ad ca ao co y_L_faults c_L_faults 4 [(0, 9, 12, 13)] y_M_faults c_M_faults 2 (some .int) [.int (zI v0)] r32 σ ω μ := h.2.2.2.2.2.2.2.2.2.2.2.2.2.1
theorem HS.fly {Inv : St → St → Prop} {l : Launch} {D : va_G} {am : Nat → Nat} {cm : Nat → ClassId} {ad : Nat → Nat} {ca : Nat → ClassId} {ao : Nat} {co : ClassId} (h : HS Inv l D am cm ad ca ao co) : ∀ (σ μ : St) (v0 : Int), Inv σ μ → r32 v0 → SAI Inv l D am cm ad ca y_X_fly c_X_fly 2 (some .int) y_M_fly c_M_fly 2 (some .int) [.int (zI v0)] σ μ := h.2.2.2.2.2.2.2.2.2.2.2.2.2.2.1
theorem HS.seconds {Inv : St → St → Prop} {l : Launch} {D : va_G} {am : Nat → Nat} {cm : Nat → ClassId} {ad : Nat → Nat} {ca : Nat → ClassId} {ao : Nat} {co : ClassId} (h : HS Inv l D am cm ad ca ao co) : ∀ (σ μ : St), Inv σ μ → SAL Inv l D am cm ad ca y_X_seconds c_X_seconds 1 (some .long) y_M_seconds c_M_seconds 1 (some .long) [] σ μ := h.2.2.2.2.2.2.2.2.2.2.2.2.2.2.2.1
theorem HS.force {Inv : St → St → Prop} {l : Launch} {D : va_G} {am : Nat → Nat} {cm : Nat → ClassId} {ad : Nat → Nat} {ca : Nat → ClassId} {ao : Nat} {co : ClassId} (h : HS Inv l D am cm ad ca ao co) : ∀ (σ μ ω : St) (v0 v1 : Int), Inv σ μ → r32 v0 → r64 v1 → SHI Inv l D am cm ad ca ao co y_L_force c_L_force 6 [(0, 18, 21, 13), (0, 18, 25, 15)] y_M_force c_M_force 4 (some .boolean) [.int (zI v0), .long (zL v1)] b01 σ ω μ := h.2.2.2.2.2.2.2.2.2.2.2.2.2.2.2.2.1
theorem HS.forces {Inv : St → St → Prop} {l : Launch} {D : va_G} {am : Nat → Nat} {cm : Nat → ClassId} {ad : Nat → Nat} {ca : Nat → ClassId} {ao : Nat} {co : ClassId} (h : HS Inv l D am cm ad ca ao co) : ∀ (σ μ : St), Inv σ μ → SAL Inv l D am cm ad ca y_X_forces c_X_forces 1 (some .long) y_M_forces c_M_forces 4 (some .long) [] σ μ := h.2.2.2.2.2.2.2.2.2.2.2.2.2.2.2.2.2.1
theorem HS.text {Inv : St → St → Prop} {l : Launch} {D : va_G} {am : Nat → Nat} {cm : Nat → ClassId} {ad : Nat → Nat} {ca : Nat → ClassId} {ao : Nat} {co : ClassId} (h : HS Inv l D am cm ad ca ao co) : ∀ (σ μ ω : St) (v0 : Int), Inv σ μ → r32 v0 → SHI Inv l D am cm ad ca ao co y_L_text c_L_text 4 [(0, 9, 12, 13)] y_M_text c_M_text 4 (some .int) [.int (zI v0)] r32 σ ω μ := h.2.2.2.2.2.2.2.2.2.2.2.2.2.2.2.2.2.2.1
theorem HS.order {Inv : St → St → Prop} {l : Launch} {D : va_G} {am : Nat → Nat} {cm : Nat → ClassId} {ad : Nat → Nat} {ca : Nat → ClassId} {ao : Nat} {co : ClassId} (h : HS Inv l D am cm ad ca ao co) : ∀ (σ μ : St) (v0 : Int), Inv σ μ → r32 v0 → SAI Inv l D am cm ad ca y_X_order c_X_order 2 (some .int) y_M_order c_M_order 2 (some .int) [.int (zI v0)] σ μ := h.2.2.2.2.2.2.2.2.2.2.2.2.2.2.2.2.2.2.2
section LS
variable {Inv : St → St → Prop} {p : Program} {l : Launch} {e : Env} {s : State} {m : MethodId} {below : List Frame} {meth : Method} {c : Code} {D : va_G} {am : Nat → Nat} {cm : Nat → ClassId} {ad : Nat → Nat} {ca : Nat → ClassId} {ao : Nat} {co : ClassId} {b L : Nat} {xs : Nat → Int32}
/-- what the law may change: what it makes -/
abbrev An (s : State) : Nat → Prop := fun q => s.heap.size ≤ q
theorem law_loop (hS : HS Inv l D am cm ad ca ao co) (hc : LX p s m #[Value.ref b] c meth D cm ca co (An s) b L xs) : ∀ (n : Nat) (i : Int) (σ μ ω : St) (H : Heap) (locs : List Loc) (ls : Array Slot) (cells slots : Nat), 0 ≤ i → (L : Int) < i + 8 * (n + 1) → i ≤ 100000 → cells + n ≤ 600000 → slots + 6 * n ≤ 7000000 → Inv σ μ → LW D (An s) s.heap am cm ad ca ao co μ σ ω H locs → lv_has ls 8 (Lv b ad am ao i) → W p l e room_1 s m #[Value.ref b] below meth c H locs cells slots (lw_Z below #[Value.ref b] s) (F0 m 23 ls []) := by
  have hx := hc.1.1
  have hb := hc.1.2.1
  have hL4 := hc.2.2.2.2.2
  intro n
  induction n with
  | zero =>
    intro i σ μ ω H locs ls cells slots h0 hn hi1 hcs hsl hI hw hl
    refine lv_iload hx hb d_L_23 (lv_at hl 4 rfl) ?_
    refine lv_aload_n hx hb d_L_25 rfl (lv_at hl 0 rfl) ?_
    refine l_len hc hw d_L_26 ?_
    refine z_bi hx hb d_L_27 (by decide) ?_
    refine z_isub hx hb d_L_29 ?_
    refine z_icmp_gt hx hb 1398 d_L_30 (by omega) (by omega) (by decide) (fun c0 => ?_) (fun c0 => (by exfalso; omega))
    refine z_ic hx hb d_L_1398 ?_
    exact va_forget (fun q hq => hw.2.2.2.2 q hq) (W.widen (k := 601024) (n := 7293034) (by omega) (by omega) (lw_ret hx hb hc.1.2.2.2.2.2.2.1 hc.1.2.2.2.2.2.2.2 d_L_1399))
  | succ n ih =>
    intro i σ μ ω H locs ls cells slots h0 hn hi1 hcs hsl hI hw hl
    refine lv_iload hx hb d_L_23 (lv_at hl 4 rfl) ?_
    refine lv_aload_n hx hb d_L_25 rfl (lv_at hl 0 rfl) ?_
    refine l_len hc hw d_L_26 ?_
    refine z_bi hx hb d_L_27 (by decide) ?_
    refine z_isub hx hb d_L_29 ?_
    refine z_icmp_gt hx hb 1398 d_L_30 (by omega) (by omega) (by decide) (fun c0 => ?_) (fun c0 => ?_)
    · refine z_ic hx hb d_L_1398 ?_
      exact va_forget (fun q hq => hw.2.2.2.2 q hq) (W.widen (k := 601024) (n := 7293034) (by omega) (by omega) (lw_ret hx hb hc.1.2.2.2.2.2.2.1 hc.1.2.2.2.2.2.2.2 d_L_1399))
    · have hi : 0 ≤ i ∧ i + 8 ≤ (L : Int) := by omega
      have hcell : cells + 1 ≤ 601024 ∧ slots + 6 ≤ 7293034 := by omega
      have kk : ∀ (μ' σ' ω' : St) (H1 : Heap) (locs1 : List Loc) (ls' : Array Slot), Inv σ' μ' → LW D (An s) s.heap am cm ad ca ao co μ' σ' ω' H1 locs1 → lv_has ls' 8 (Lv b ad am ao i) → W p l e room_1 s m #[Value.ref b] below meth c H1 locs1 (cells + 1) (slots + 6) (lw_Z below #[Value.ref b] s) (F0 m 1392 ls' []) := by
        intro μ' σ' ω' H1 locs1 ls' hI' hw' hl'
        refine z_iinc (k := 4) hx hb d_L_1392 hl' rfl (by decide) (fun x e1 ls2 (hl2 : lv_has ls2 8 ((4, .int (zI x)) :: [(0, .ref b), (1, .ref (ad 100)), (2, .ref (am 100)), (3, .ref ao)])) => ?_)
        refine lv_goto (tgt := 23) hx hb d_L_1395 (by decide) ?_
        exact ih x σ' μ' ω' H1 locs1 ls2 (cells + 1) (slots + 6) (by omega) (by omega) (by omega) (by omega) (by omega) hI' hw' (lv_sub hl2 [1, 2, 3, 4, 0] rfl)
      refine lv_aload_n hx hb d_L_33 rfl (lv_at hl 0 rfl) ?_
      refine lv_iload hx hb d_L_34 (lv_at hl 4 rfl) ?_
      refine l_ld hc hw (by omega) d_L_36 ?_
      refine z_bi hx hb d_L_37 (by decide) ?_
      refine lv_iand hx hb d_L_39 ?_
      generalize zI (xs i.toNat).toInt &&& zI 31 = w
      by_cases hsw : w.toInt < 0 ∨ 19 < w.toInt
      · refine lv_tableOut (tgt := 1392) hx hb d_L_40 hsw (by decide) ?_
        exact W.widen (k := cells + 1) (n := slots + 6) (by omega) (by omega) (kk μ σ ω H locs ls hI hw hl)
      have hsw2 : w.toInt = 0 ∨ w.toInt = 1 ∨ w.toInt = 2 ∨ w.toInt = 3 ∨ w.toInt = 4 ∨ w.toInt = 5 ∨ w.toInt = 6 ∨ w.toInt = 7 ∨ w.toInt = 8 ∨ w.toInt = 9 ∨ w.toInt = 10 ∨ w.toInt = 11 ∨ w.toInt = 12 ∨ w.toInt = 13 ∨ w.toInt = 14 ∨ w.toInt = 15 ∨ w.toInt = 16 ∨ w.toInt = 17 ∨ w.toInt = 18 ∨ w.toInt = 19 := by omega
      rcases hsw2 with h | h | h | h | h | h | h | h | h | h | h | h | h | h | h | h | h | h | h | h
      · refine lv_tableIn (off := 96) (tgt := 136) hx hb d_L_40 (by omega) (by omega) (by rw [h]; rfl) (by decide) ?_
        exact lc_net hc hw hl hi hcell (fun r0 h0 => hS.net _ _ r0 hI h0) kk
      · refine lv_tableIn (off := 137) (tgt := 177) hx hb d_L_40 (by omega) (by omega) (by rw [h]; rfl) (by decide) ?_
        exact lc_point hc hw hl hi hcell (hS.point _ _ _ _ _ _ _ hI (r32_of _) (r64_of _) (r64_of _) (r64_of _)) kk
      · refine lv_tableIn (off := 329) (tgt := 369) hx hb d_L_40 (by omega) (by omega) (by rw [h]; rfl) (by decide) ?_
        exact lc_gap hc hw hl hi hcell (hS.gap _ _ _ _ hI (r64_of _)) kk
      · refine lv_tableIn (off := 424) (tgt := 464) hx hb d_L_40 (by omega) (by omega) (by rw [h]; rfl) (by decide) ?_
        exact lc_run hc hw hl hi hcell (hS.run _ _ _ _ hI (r64_of _)) kk
      · refine lv_tableIn (off := 512) (tgt := 552) hx hb d_L_40 (by omega) (by omega) (by rw [h]; rfl) (by decide) ?_
        exact lc_probe hc hw hl hi hcell (hS.probe _ _ _ hI (r32_of _)) kk
      · refine lv_tableIn (off := 537) (tgt := 577) hx hb d_L_40 (by omega) (by omega) (by rw [h]; rfl) (by decide) ?_
        exact lc_proved hc hw hl hi hcell (hS.proved _ _ hI) kk
      · refine lv_tableIn (off := 550) (tgt := 590) hx hb d_L_40 (by omega) (by omega) (by rw [h]; rfl) (by decide) ?_
        exact lc_out hc hw hl hi hcell (hS.out _ _ _ hI (r32_of _)) kk
      · refine lv_tableIn (off := 575) (tgt := 615) hx hb d_L_40 (by omega) (by omega) (by rw [h]; rfl) (by decide) ?_
        exact lc_part hc hw hl hi hcell (hS.part _ _ _ _ _ _ _ hI (r32_of _) (r32_of _) (r64_of _) (r64_of _)) kk
      · refine lv_tableIn (off := 740) (tgt := 780) hx hb d_L_40 (by omega) (by omega) (by rw [h]; rfl) (by decide) ?_
        exact lc_span hc hw hl hi hcell (hS.span _ _ _ _ _ _ _ hI (r32_of _) (r32_of _) (r32_of _) (r32_of _)) kk
      · refine lv_tableIn (off := 831) (tgt := 871) hx hb d_L_40 (by omega) (by omega) (by rw [h]; rfl) (by decide) ?_
        exact lc_guard hc hw hl hi hcell (hS.guard _ _ _ _ _ _ hI (r32_of _) (r32_of _) (r32_of _)) kk
      · refine lv_tableIn (off := 911) (tgt := 951) hx hb d_L_40 (by omega) (by omega) (by rw [h]; rfl) (by decide) ?_
        exact lc_fail hc hw hl hi hcell (hS.fail _ _ _ _ hI (r32_of _)) kk
      · refine lv_tableIn (off := 974) (tgt := 1014) hx hb d_L_40 (by omega) (by omega) (by rw [h]; rfl) (by decide) ?_
        exact lc_suspects hc hw hl hi hcell (hS.suspects _ _ hI) kk
      · refine lv_tableIn (off := 987) (tgt := 1027) hx hb d_L_40 (by omega) (by omega) (by rw [h]; rfl) (by decide) ?_
        exact lc_suspect hc hw hl hi hcell (hS.suspect _ _ _ _ _ hI (r32_of _) (r32_of _)) kk
      · refine lv_tableIn (off := 1055) (tgt := 1095) hx hb d_L_40 (by omega) (by omega) (by rw [h]; rfl) (by decide) ?_
        exact lc_faults hc hw hl hi hcell (hS.faults _ _ _ _ hI (r32_of _)) kk
      · refine lv_tableIn (off := 1111) (tgt := 1151) hx hb d_L_40 (by omega) (by omega) (by rw [h]; rfl) (by decide) ?_
        exact lc_fly hc hw hl hi hcell (hS.fly _ _ _ hI (r32_of _)) kk
      · refine lv_tableIn (off := 1136) (tgt := 1176) hx hb d_L_40 (by omega) (by omega) (by rw [h]; rfl) (by decide) ?_
        exact lc_seconds hc hw hl hi hcell (hS.seconds _ _ hI) kk
      · refine lv_tableIn (off := 1150) (tgt := 1190) hx hb d_L_40 (by omega) (by omega) (by rw [h]; rfl) (by decide) ?_
        exact lc_force hc hw hl hi hcell (hS.force _ _ _ _ _ hI (r32_of _) (r64_of _)) kk
      · refine lv_tableIn (off := 1257) (tgt := 1297) hx hb d_L_40 (by omega) (by omega) (by rw [h]; rfl) (by decide) ?_
        exact lc_forces hc hw hl hi hcell (hS.forces _ _ hI) kk
      · refine lv_tableIn (off := 1271) (tgt := 1311) hx hb d_L_40 (by omega) (by omega) (by rw [h]; rfl) (by decide) ?_
        exact lc_text hc hw hl hi hcell (hS.text _ _ _ _ hI (r32_of _)) kk
      · refine lv_tableIn (off := 1327) (tgt := 1367) hx hb d_L_40 (by omega) (by omega) (by rw [h]; rfl) (by decide) ?_
        exact lc_order hc hw hl hi hcell (hS.order _ _ _ hI (r32_of _)) kk
end LS
section ST
theorem tb_start {s : State} {b : Nat} (hts : ∀ w ∈ lw_tbl, w.before #[Value.ref b] s = true) : TB s := fun w hw => by
  obtain ⟨h1, h2⟩ := List.mem_filter.mp hw
  have h3 := hts w h1
  rcases gd_spec h2 with h2 | ⟨ty, rfl⟩ | ⟨x1, x2, x3, x4, x5, x6, rfl⟩ | ⟨x1, x2, x3, x4, rfl⟩
  · exact word_at (State.WarmedH.refl s) (Or.inl h2) h3
  · exact word_at (State.WarmedH.refl s) (Or.inr ⟨ty, rfl⟩) h3
  · exact va_any rfl h3
  · exact va_any rfl h3
theorem tbl_at {w : Cond} (i : Nat) (h : tables_1[i]? = some w) : w ∈ lw_tbl := List.mem_append_right _ (List.mem_of_getElem? h)
theorem str_of {s : State} {b k : Nat} {tx : String} (h1 : (Cond.stringRef "ProbeChoice" k tx).before #[Value.ref b] s = true) (h2 : (Cond.exactly (.string "ProbeChoice" k) "java/lang/String").before #[Value.ref b] s = true) : ∃ a, vk_R "ProbeChoice" k tx a s := by
  obtain ⟨a2, c, cA, kA, q1, -⟩ := Cond.exactly_spec (args := #[Value.ref b]) (first := s) (o := none) (s := s) (idx := []) (t := .string "ProbeChoice" k) (cls := "java/lang/String") h2
  exact ⟨a2, vk_R.of h1 q1⟩
theorem tx_start {s : State} {b : Nat} (hts : ∀ w ∈ lw_tbl, w.before #[Value.ref b] s = true) (hg : (Jvm.Cond.and given_1 narrow_1).before #[Value.ref b] s = true) : TX (An s) s := by
  have hs := flat_of_before _ hg
  refine ⟨?_, ?_, ?_, ?_⟩
  · simp only [xSpec, List.forall_mem_cons]
    exact ⟨va_any rfl (hts _ (tbl_at 298 (by decide +kernel))), va_any rfl (hts _ (tbl_at 300 (by decide +kernel))), va_any rfl (hts _ (tbl_at 302 (by decide +kernel))), va_any rfl (hts _ (tbl_at 296 (by decide +kernel))), va_any rfl (hts _ (tbl_at 369 (by decide +kernel))), va_any rfl (hts _ (tbl_at 557 (by decide +kernel))), fun _ h => absurd h List.not_mem_nil⟩
  · simp only [xNot, List.forall_mem_cons]
    exact ⟨notc (hs _ (by decide +kernel)), notc (hs _ (by decide +kernel)), fun _ h => absurd h List.not_mem_nil⟩
  · simp only [xSta, List.forall_mem_cons]
    exact ⟨SX.of (hts _ (tbl_at 321 (by decide +kernel))) (hs _ (by decide +kernel)) (fun a h1 h2 => absurd h1 (Nat.not_lt.mpr h2)), SX.of (hts _ (tbl_at 323 (by decide +kernel))) (hs _ (by decide +kernel)) (fun a h1 h2 => absurd h1 (Nat.not_lt.mpr h2)), fun _ h => absurd h List.not_mem_nil⟩
  · simp only [xStr, List.forall_mem_cons]
    exact ⟨str_of (hts _ (tbl_at 335 (by decide +kernel))) (hs _ (by decide +kernel)), str_of (hts _ (tbl_at 376 (by decide +kernel))) (hs _ (by decide +kernel)), str_of (hts _ (tbl_at 384 (by decide +kernel))) (hs _ (by decide +kernel)), str_of (hts _ (tbl_at 396 (by decide +kernel))) (hs _ (by decide +kernel)), str_of (hts _ (tbl_at 409 (by decide +kernel))) (hs _ (by decide +kernel)), str_of (hts _ (tbl_at 523 (by decide +kernel))) (hs _ (by decide +kernel)), str_of (hts _ (tbl_at 549 (by decide +kernel))) (hs _ (by decide +kernel)), str_of (hts _ (tbl_at 564 (by decide +kernel))) (hs _ (by decide +kernel)), str_of (hts _ (tbl_at 601 (by decide +kernel))) (hs _ (by decide +kernel)), str_of (hts _ (tbl_at 613 (by decide +kernel))) (hs _ (by decide +kernel)), str_of (hts _ (tbl_at 636 (by decide +kernel))) (hs _ (by decide +kernel)), str_of (hts _ (tbl_at 637 (by decide +kernel))) (hs _ (by decide +kernel)), str_of (hts _ (tbl_at 649 (by decide +kernel))) (hs _ (by decide +kernel)), fun _ h => absurd h List.not_mem_nil⟩
theorem k_start {s : State} (hTB : TB s) : ∃ D : va_G, va_K D cl7 [] s := by
  have hi : ∀ {C : String} {n : Nat}, Cond.instantiable C n ∈ lw_gd → (Cond.instantiable C n).before #[] s = true := fun h => hTB _ h
  obtain ⟨c0, i0, h0⟩ := u_known (args := #[]) hTB in_B (hi nw_B.2.1)
  obtain ⟨c1, i1, h1⟩ := u_known (args := #[]) hTB in_F (hi nw_F.2.1)
  obtain ⟨c2, i2, h2⟩ := u_known (args := #[]) hTB in_P (hi nw_P.2.1)
  obtain ⟨c3, i3, h3⟩ := u_known (args := #[]) hTB in_R (hi nw_R.2.1)
  obtain ⟨c4, i4, h4⟩ := u_known (args := #[]) hTB in_S (hi nw_S.2.1)
  obtain ⟨c5, i5, h5⟩ := u_known (args := #[]) (n := 5) hTB in_X (hi (gd_at 19 (by decide +kernel) (by decide +kernel)))
  obtain ⟨c6, i6, h6⟩ := u_known (args := #[]) (n := 26) hTB in_M (hi (gd_at 655 (by decide +kernel) (by decide +kernel)))
  refine ⟨(fun k => match k with | 0 => c0 | 1 => c1 | 2 => c2 | 3 => c3 | 4 => c4 | 5 => c5 | _ => c6, fun k => match k with | 0 => i0 | 1 => i1 | 2 => i2 | 3 => i3 | 4 => i4 | 5 => i5 | _ => i6), fun c q hq => ?_, fun k q hk => by simp at hk⟩
  match c, hq with
  | 0, hq => cases hq; exact h0
  | 1, hq => cases hq; exact h1
  | 2, hq => cases hq; exact h2
  | 3, hq => cases hq; exact h3
  | 4, hq => cases hq; exact h4
  | 5, hq => cases hq; exact h5
  | 6, hq => cases hq; exact h6
theorem nwL_X : Cond.classLink "ProbeChoiceLaw" 8 R_X ∈ lw_gd ∧ Cond.instantiable R_X 5 ∈ lw_gd ∧ Cond.initialized R_X ∈ lw_gd := ⟨gd_at 18 (by decide +kernel) (by decide +kernel), gd_at 19 (by decide +kernel) (by decide +kernel), gd_at 1 (by decide +kernel) (by decide +kernel)⟩
theorem nwL_M : Cond.classLink "ProbeChoiceLaw" 59 R_M ∈ lw_gd ∧ Cond.instantiable R_M 26 ∈ lw_gd ∧ Cond.initialized R_M ∈ lw_gd := ⟨gd_at 654 (by decide +kernel) (by decide +kernel), gd_at 655 (by decide +kernel) (by decide +kernel), gd_at 7 (by decide +kernel) (by decide +kernel)⟩
theorem tn_start {s : State} {b : Nat} (hts : ∀ w ∈ lw_tbl, w.before #[Value.ref b] s = true) : TN s := by
  have h := hts _ (tbl_at (w := .arrayOver (.array .long)) 164 (by decide +kernel))
  unfold TN Cond.before Cond.holds at *
  simp only [Cond.value] at h ⊢
  exact h
theorem law_start {Inv : St → St → Prop} (h0 : Inv z0 z0) (hS : ∀ (l : Launch) (D : va_G) (am : Nat → Nat) (cm : Nat → ClassId) (ad : Nat → Nat) (ca : Nat → ClassId) (ao : Nat) (co : ClassId), l.flags = pinnedFlags ++ [noTraceFlag] → HS Inv l D am cm ad ca ao co)
    {p : Program} {e : Env} {s : State} {m : MethodId} {below : List Frame} {meth : Method} {c : Code} (l : Launch) (hfl : l.flags = pinnedFlags ++ [noTraceFlag]) {b L : Nat} {xs : Nat → Int32} (hL : L ≤ 4096) (C0 : lw_At p s m meth c b L xs) : W p l e room_1 s m #[Value.ref b] below meth c s.heap [] 0 0 (lw_Z below #[Value.ref b] s) (entryFrame m ([Value.ref b] : List Value).toArray 8) := by
  obtain ⟨hx, hb, hr, hml, hown, hts, hX, hbl, hlk, hgv⟩ := C0
  have hTB := tb_start hts
  have hTN := tn_start hts
  have hTX := tx_start hts hgv
  obtain ⟨D, hK⟩ := k_start hTB
  have hl := lv_entry ([.ref b]) (n := 8) (Nat.le_of_ble_eq_true rfl)
  rw [lg_entry_eq]
  have hA : ∀ q, s.heap.size ≤ q → An s q := fun q h => h
  have hw : Wl D (An s) s.heap s [] [] s.heap [] := ⟨hK, fun k q hk => by simp at hk, ⟨fun i j p q hi => by simp at hi, fun k q hk => by simp at hk⟩, va_S.rf, hA⟩
  refine va_new (D := D) (ci := 5) (C := R_X) (T := T_X) (N := 5) (ws := []) (fs := fs0_X) hx hb (hTB.hts _) in_X t_X t_X_ok hown (hTB.hts _ _ nwL_X.1) (hTB.hts _ _ nwL_X.2.1) (hTB.hts _ _ nwL_X.2.2) hw.1 hw.2.1 hw.2.2.1 hw.2.2.2.1 hA rfl fs0_X_ok (Nat.le_of_ble_eq_true rfl) (Nat.le_of_ble_eq_true rfl) d_L_0 (fun oX H hP hD hS1 => ?_)
  replace hw : Wl D (An s) s.heap s [] ([] ++ [(oX, .inr (5, fs0_X))]) H [] := ⟨hw.1, hP, hD, hS1, hA⟩
  refine lv_dup hx hb d_L_3 rfl ?_
  refine l_call (nL := 8) ⟨hx, hb, hml, hown, hTB, hTN⟩ (fun z => n_X_init oX z) rfl yw_X_init ii_X lk_L_58 hw hl.1 (Nat.le_of_ble_eq_true rfl) ⟨Nat.le_of_ble_eq_true rfl, Nat.le_of_ble_eq_true rfl⟩ ⟨Nat.le_of_ble_eq_true rfl, Nat.le_of_ble_eq_true rfl⟩ d_L_4 (fun w1 t1 H locs hn1 hw => ?_)
  obtain ⟨ad, ca, had, rfl, rfl⟩ := hn1
  refine lv_astore_n hx hb d_L_7 rfl hl (by decide) rfl (fun ls hl => ?_)
  refine va_new (D := D) (ci := 6) (C := R_M) (T := T_M) (N := 26) (ws := [] ++ wX ad ca z0) (fs := fs0_M) hx hb (hTB.hts _) in_M t_M t_M_ok hown (hTB.hts _ _ nwL_M.1) (hTB.hts _ _ nwL_M.2.1) (hTB.hts _ _ nwL_M.2.2) hw.1 hw.2.1 hw.2.2.1 hw.2.2.2.1 hA rfl fs0_M_ok (Nat.le_of_ble_eq_true rfl) (Nat.le_of_ble_eq_true rfl) d_L_8 (fun oM H hP hD hS1 => ?_)
  replace hw : Wl D (An s) s.heap s ([] ++ tyX ca) (([] ++ wX ad ca z0) ++ [(oM, .inr (6, fs0_M))]) H locs := ⟨hw.1, hP, hD, hS1, hA⟩
  refine lv_dup hx hb d_L_11 rfl ?_
  refine l_call (nL := 8) ⟨hx, hb, hml, hown, hTB, hTN⟩ (fun z => n_M_init oM z) rfl yw_M_init ii_M lk_L_61 hw hl.1 (Nat.le_of_ble_eq_true rfl) ⟨Nat.le_of_ble_eq_true rfl, Nat.le_of_ble_eq_true rfl⟩ ⟨Nat.le_of_ble_eq_true rfl, Nat.le_of_ble_eq_true rfl⟩ d_L_12 (fun w2 t2 H locs hn2 hw => ?_)
  obtain ⟨am, cm, ham, rfl, rfl⟩ := hn2
  refine lv_astore_n hx hb d_L_15 rfl hl (by decide) rfl (fun ls hl => ?_)
  refine z_ic hx hb d_L_16 ?_
  refine n_newL (nL := 0) (N' := 1) hx hb hTB hw ac_long (by decide) (by decide +kernel) (by decide) ⟨Nat.le_of_ble_eq_true rfl, Nat.le_of_ble_eq_true rfl⟩ d_L_17 (fun ao co H hw => ?_)
  refine lv_astore_n hx hb d_L_19 rfl hl (by decide) rfl (fun ls hl => ?_)
  refine z_ic hx hb d_L_20 ?_
  refine z_ist hx hb d_L_21 hl (by decide) (fun x0 e0 ls hl => ?_)
  subst e0
  have hw3 : LW D (An s) s.heap am cm ad ca ao co z0 z0 z0 H locs := by
    refine ⟨?_, ?_, hw.2.2.2.1⟩
    · have h1 : va_P D cl7 ((wX ad ca z0 ++ wM am cm z0) ++ wO ao co z0) H := hw.2.1
      have h2 := fr_in (a := []) (c := wM am cm z0 ++ wO ao co z0) (w := wX ad ca z0) (A := An s) (by rw [List.nil_append, ← List.append_assoc]; exact h1) (by rw [List.nil_append, ← List.append_assoc]; exact hw.2.2.1)
      have h3 := fr_in (a := wX ad ca z0) (c := wO ao co z0) (w := wM am cm z0) (A := An s) (by rw [← List.append_assoc]; exact h1) (by rw [← List.append_assoc]; exact hw.2.2.1)
      have h4 := fr_in (a := wX ad ca z0 ++ wM am cm z0) (c := []) (w := wO ao co z0) (A := An s) (by rw [List.append_nil]; exact h1) (by rw [List.append_nil]; exact hw.2.2.1)
      exact h3.1.app (h2.1.app h4.1)
    · exact hw.2.2.1.sub [34, 35, 36, 37, 38, 39, 40, 41, 42, 43, 44, 45, 46, 47, 48, 49, 50, 0, 1, 2, 3, 4, 5, 6, 7, 8, 9, 10, 11, 12, 13, 14, 15, 16, 17, 18, 19, 20, 21, 22, 23, 24, 25, 26, 27, 28, 29, 30, 31, 32, 33, 51] (by decide) rfl
  have hK3 : va_K D cl7 (tyL cm ca co) s := hw.1.mem (fun q hq => by
    rcases List.mem_append.mp hq with h | h
    · exact List.mem_append_left _ (List.mem_append_right _ h)
    · rcases List.mem_append.mp h with h | h
      · exact List.mem_append_left _ (List.mem_append_left _ (List.mem_append_right _ h))
      · exact List.mem_append_right _ h)
  have hc : LX p s m #[Value.ref b] c meth D cm ca co (An s) b L xs := ⟨⟨hx, hb, hml, hown, hTB, hK3, hr, hlk⟩, hTX, hX, hbl, fun h => absurd hbl (Nat.not_lt.mpr h), hL⟩
  subst had
  subst ham
  exact law_loop (hS l D am cm ad ca ao co hfl) hc 512 0 z0 z0 z0 H locs ls _ _ (by decide) (by omega) (by decide) (Nat.le_of_ble_eq_true rfl) (Nat.le_of_ble_eq_true rfl) h0 hw3 (lv_sub hl [4, 3, 2, 1, 0] rfl)
end ST
