section XCATCH
variable {e : Env} {f : JFrame} {a : Addr} {cell : Cell}
theorem xc_row {S : State} {Q : Handler → Pre} {Z : CtlPost} {d : Bool} {acts : List Action} {x : ExceptionTableEntry} {t : List ExceptionTableEntry} {k : ClassId} (hx : covers x f.pc = true) (h0 : x.catchType ≠ 0) (hl : S.vm.ClassLinks e.platform f.method.cls x.catchType k)
    (hcell : S.heap[a]? = some cell) (hobj : ∀ j, cell.vm ≠ .statics j) (hk1 : ∃ j, S.vm.classes[cell.cls]? = some j) (hk2 : ∃ j, S.vm.classes[k]? = some j) :
    wp (findHandler.go f a (x :: t)) Q Z e d acts S ↔ (if S.vm.assignable cell.cls k = true then Q (.found x.handlerPc) d acts (S.setVm (S.vm.noted f.method.cls x.catchType (.cls k))) else wp (findHandler.go f a t) Q Z e d acts (S.setVm (S.vm.noted f.method.cls x.catchType (.cls k)))) := by
  have hal : S.vm.Alike (S.vm.noted f.method.cls x.catchType (.cls k)) := (Vm.Alike.refl S.vm).noted _ _ _
  obtain ⟨j1, hj1⟩ := hk1
  obtain ⟨j2, hj2⟩ := hk2
  obtain ⟨i1, hi1, -⟩ := hal.2.2 _ _ hj1
  obtain ⟨i2, hi2, -⟩ := hal.2.2 _ _ hj2
  have has := hal.assignable cell.cls k
  obtain ⟨u1, u2⟩ := (resolveClass_links e.toSetting hl).op (op := VmOp.resolveClass f.method.cls x.catchType) rfl
  simp only [covers] at hx
  by_cases y : S.vm.assignable cell.cls k = true
  · rw [if_pos y]
    rw [y] at has
    simp [findHandler.go, hx, h0, u1, u2, hcell, hobj, hi1, hi2, has, VmOp.dirties, VmOp.acts]
  · rw [if_neg y]
    rw [Bool.not_eq_true] at y
    rw [y] at has
    simp [findHandler.go, hx, h0, u1, u2, hcell, hobj, hi1, hi2, has, VmOp.dirties, VmOp.acts]
def xc_pass (e : Env) (s : State) (f : JFrame) (k0 : ClassId) (z : ExceptionTableEntry) : Prop := covers z f.pc = false ∨ (z.catchType ≠ 0 ∧ ∃ k, s.vm.ClassLinks e.platform f.method.cls z.catchType k ∧ s.vm.assignable k0 k = false)
theorem xc_find {s : State} (hobj : ∀ j, cell.vm ≠ .statics j) (hk : ∃ j, s.vm.classes[cell.cls]? = some j) {x : ExceptionTableEntry} {suf : List ExceptionTableEntry} (hx : covers x f.pc = true) (h0 : x.catchType ≠ 0) {k : ClassId} (hl : s.vm.ClassLinks e.platform f.method.cls x.catchType k) (hfit : s.vm.assignable cell.cls k = true)
    (pre : List ExceptionTableEntry) : (∀ z ∈ pre, xc_pass e s f cell.cls z) → ∀ S : State, s.WarmedH S.vm → S.heap[a]? = some cell →
    ∃ vm', s.WarmedH vm' ∧ ∀ (Q : Handler → Pre) (Z : CtlPost) (d : Bool) (acts : List Action), wp (findHandler.go f a (pre ++ x :: suf)) Q Z e d acts S ↔ Q (.found x.handlerPc) d acts (S.setVm vm') := by
  have step : ∀ {S : State} {z : ExceptionTableEntry} {j : ClassId}, s.WarmedH S.vm → s.vm.ClassLinks e.platform f.method.cls z.catchType j → (∃ i, S.vm.classes[cell.cls]? = some i) ∧ (∃ i, S.vm.classes[j]? = some i) ∧ s.WarmedH (S.vm.noted f.method.cls z.catchType (.cls j)) ∧ S.vm.assignable cell.cls j = s.vm.assignable cell.cls j ∧ S.vm.ClassLinks e.platform f.method.cls z.catchType j := by
    intro S z j hW hj
    obtain ⟨d1, _, _, d2, g1, _, _, _, _, g2, _, g3⟩ := hj.here
    obtain ⟨i, hi⟩ := hk
    obtain ⟨i', hi', -⟩ := hW.alike.2.2 _ _ hi
    obtain ⟨i2, hi2, -⟩ := hW.alike.2.2 _ _ g2
    exact ⟨⟨i', hi'⟩, ⟨i2, hi2⟩, hW.noted g1 g3 (State.rightAt_cls hj), hW.alike.assignable _ _, hW.classLinks hj⟩
  induction pre with
  | nil =>
    intro _ S hW hc
    obtain ⟨a1, a2, a3, a4, a5⟩ := step hW hl
    refine ⟨_, a3, fun Q Z d acts => ?_⟩
    rw [List.nil_append, xc_row hx h0 a5 hc hobj a1 a2, if_pos (a4.trans hfit)]
  | cons z zs ih =>
    intro hp S hW hc
    have hp2 : ∀ y ∈ zs, xc_pass e s f cell.cls y := fun y hy => hp y (List.mem_cons_of_mem _ hy)
    rcases Bool.eq_false_or_eq_true (covers z f.pc) with hz | hz
    · rcases hp z (List.mem_cons_self ..) with h | ⟨z0, j, hj, hno⟩
      · rw [hz] at h; cases h
      · obtain ⟨a1, a2, a3, a4, a5⟩ := step hW hj
        obtain ⟨vm', b1, b2⟩ := ih hp2 (S.setVm (S.vm.noted f.method.cls z.catchType (.cls j))) a3 hc
        refine ⟨vm', b1, fun Q Z d acts => ?_⟩
        rw [List.cons_append, xc_row hz z0 a5 hc hobj a1 a2, if_neg (by rw [a4, hno]; decide), b2]
        rfl
    · obtain ⟨vm', b1, b2⟩ := ih hp2 S hW hc
      exact ⟨vm', b1, fun Q Z d acts => by rw [List.cons_append, W.findHandler_go_skip hz, b2]⟩
variable {p : Program} {l : Launch} {R : Room} {s : State} {m : MethodId} {args : Array Value} {below : List Frame} {meth : Method} {c : Code} {H : Heap} {locs : List Loc} {cells slots : Nat} {Q : State → Prop} {ls : Array Slot} {rest : List Value} {pc : Nat}
theorem xc_steps {T target : State} {g : JFrame} {h : Nat} {vm' : Vm} (X : At T g.method c below) (hf : ∀ (Q : Handler → Pre) (Z : CtlPost) (d : Bool) (acts : List Action), wp (findHandler g a) Q Z e d acts ((T.setTop g).pushFrame (.throwing a)) ↔ Q (.found h) d acts (((T.setTop g).pushFrame (.throwing a)).setVm vm'))
    (k : Steps p.tables e below ((T.setVm vm').setTop { g with pc := h, stack := [.ref a] }) target) : Steps p.tables e below ((T.setTop g).pushFrame (.throwing a)) target := by
  obtain ⟨g0, hg⟩ := Option.isSome_iff_exists.mp X.top
  obtain ⟨r, hr⟩ := State.topJava?_eq_some.mp hg
  have hstep : (stepThrowing e ((T.setTop g).pushFrame (.throwing a)) a (.java g :: r)).Is ((((T.setTop g).pushFrame (.throwing a)).setVm vm').setFrames (.java { g with pc := h, stack := [.ref a] } :: r)) [] := by
    simp only [stepThrowing, searchFrame, vmDo]
    generalize hq : Sem.go _ e false [] ((T.setTop g).pushFrame (.throwing a)) = res
    obtain ⟨as, rfl, ha⟩ := Sem.eq_ok_of hq (a := Handler.found h) (s' := ((T.setTop g).pushFrame (.throwing a)).setVm vm') (acts' := []) (by simp [hf _ _ _ _])
    exact ⟨rfl, ha⟩
  obtain ⟨w1, w2⟩ := X.throwing a
  refine Steps.head w1 w2 ?_
  have hfr := frames_entered X.top (g := g) (Frame.throwing a)
  rw [hr, List.tail_cons] at hfr
  rw [stepThread_throwing hfr, hstep.1]
  have hr' : (T.setVm vm').frames = .java g0 :: r := hr
  rw [State.setTop_of_frames _ hr'] at k
  have e1 : ((((T.setTop g).pushFrame (.throwing a)).setVm vm').setFrames (.java { g with pc := h, stack := [.ref a] } :: r)) = (T.setVm vm').setFrames (.java { g with pc := h, stack := [.ref a] } :: r) := by
    rw [State.setTop_of_frames _ hr, State.pushFrame, State.setFrames_setFrames]
    show (((T.setVm vm').setFrames _).setFrames _) = _
    rw [State.setFrames_setFrames]
  rw [e1]
  exact k
theorem xc_catch {own name E : String} {ce : Cell} {q : Addr} (hown : s.vm.findClass own = some m.cls) (pre : List ExceptionTableEntry) (x : ExceptionTableEntry) (suf : List ExceptionTableEntry) (hsplit : c.exceptionTable.toList = pre ++ x :: suf)
    (hpass : ∀ z ∈ pre, z.catchType ≠ 0 ∧ ∃ nm : String, (Cond.classLink own z.catchType nm).before args s = true ∧ va_Nc E nm s) (hx : covers x pc = true) (h0 : x.catchType ≠ 0)
    (hlink : (Cond.classLink own x.catchType name).before args s = true) (hcast : (Cond.castable E name).before args s = true) (hcell : H[q]? = some ce) (hv : ce.vm = .none) (hcl : s.vm.findClass E = some ce.cls)
    (kk : W p l e R s m args below meth c H locs cells slots Q (F0 m x.handlerPc ls [.ref q])) : vx_W p l e R s m args below meth c H locs cells slots Q (F0 m pc ls rest) q := by
  intro T hT X
  have hpl : e.platform.magicAccessors = ({} : Platform).magicAccessors := by rw [X.admits.platform]
  obtain ⟨k1, k2, g1, g2, hfit⟩ := Cond.castable_spec hcast
  cases Option.some.inj (g1.symm.trans hcl)
  obtain ⟨k3, g3, hl⟩ := Cond.classLink_spec hown hlink e.platform hpl
  cases Option.some.inj (g2.symm.trans g3)
  have hk : ∃ j, s.vm.classes[ce.cls]? = some j := by obtain ⟨j, hj, -⟩ := Vm.findClass_spec hcl; exact ⟨j, hj⟩
  obtain ⟨vm', hW, hf⟩ := xc_find (e := e) (f := F0 m pc ls rest) (a := q) (cell := ce) (s := s) (fun j y => by rw [hv] at y; cases y) hk (suf := suf) hx h0 hl hfit pre (fun z hz => by
      obtain ⟨z0, nm, l1, b1, b2, v1, v2, v3⟩ := hpass z hz
      obtain ⟨k6, g6, l6⟩ := Cond.classLink_spec hown l1 e.platform hpl
      cases Option.some.inj (v1.symm.trans hcl)
      cases Option.some.inj (v2.symm.trans g6)
      exact Or.inr ⟨z0, _, l6, v3⟩) ((T.setTop (F0 m pc ls rest)).pushFrame (.throwing q)) X.warmed (by show T.heap[q]? = _; rw [hT]; exact hcell)
  obtain ⟨t, a1, b1⟩ := kk (T.setVm vm') hT (X.noted hW)
  exact ⟨t, xc_steps (g := F0 m pc ls rest) X.here (fun Q Z d acts => by rw [W.findHandler_eq X.method' X.code, hsplit]; exact hf Q Z d acts) a1, b1⟩
end XCATCH
