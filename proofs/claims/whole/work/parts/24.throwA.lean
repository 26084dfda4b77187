def eIO : String := "java/lang/IndexOutOfBoundsException"
def eIA : String := "java/lang/IllegalArgumentException"
def eIS : String := "java/lang/IllegalStateException"
def eUO : String := "java/lang/UnsupportedOperationException"
def eNs : List String := ["java/lang/RuntimeException", "java/lang/Exception"]
def twD : List Cond := [.declares ⟨"java/lang/RuntimeException", "<init>", "(Ljava/lang/String;)V"⟩, .declares ⟨"java/lang/Exception", "<init>", "(Ljava/lang/String;)V"⟩, .declares ⟨"java/lang/Throwable", "<init>", "(Ljava/lang/String;)V"⟩]
def twC : List Cond := [.castable eIO eIO, .castable eIA eIA, .castable eIS eIS, .castable eUO eUO]
def twL : List Cond := twD ++ twC
def twS : List (Nat × String) := [(108, "no such byte of the number"), (126, "not an int"), (137, "no groups of a number below 0"), (145, "no such byte written"), (154, "not the groups of one number"), (167, "no number there"), (173, "more than 40 numbers, or more than 200 bytes"), (44, "not 1 to 9 digits of a number from 0 on"), (55, "more than 480 digits"), (65, "no digits wait"), (80, "not 1 to 4 bytes"), (82, "more than 200 bytes"), (84, "no bytes wait"), (92, "not as few bytes as can be")]
theorem bad_IO : ∀ w ∈ (vx_atS RX3 110 eIO eNs).filter (fun w => !goodWord w), w ∈ twL := by decide +kernel
def tw (U : State) : Prop := (∀ w ∈ twL, va_Nw w U) ∧ ∀ q ∈ twS, ∃ sa : Nat, vk_R RX3 q.1 q.2 sa U
theorem twL_on : ∀ w ∈ twL, w.onTables = true := by decide +kernel
theorem tw.use {U : State} {args : Array Value} (h : tw U) {w : Cond} (hw : w ∈ twL) : w.before args U = true := va_Nw.use (twL_on w hw) (h.1 w hw)
theorem tw.same {u U : State} (hv : u.vm = U.vm) (h : tw u) : tw U := ⟨fun w hw => va_Nw.same (twL_on w hw) hv (h.1 w hw), fun q hq => by
  obtain ⟨sa, h1⟩ := h.2 q hq
  exact ⟨sa, vk_R.same hv.symm h1⟩⟩
theorem tw.warm {s U : State} (hW : s.WarmedH U.vm) (h : tw s) : tw U := by
  refine ⟨fun w hw => ?_, fun q hq => ?_⟩
  · have h1 := h.1 w hw
    rcases List.mem_append.mp hw with hw | hw
    · simp only [twD, List.mem_cons, List.not_mem_nil, or_false] at hw
      rcases hw with rfl | rfl | rfl <;> exact va_Nw.warmD hW h1
    · simp only [twC, List.mem_cons, List.not_mem_nil, or_false] at hw
      rcases hw with rfl | rfl | rfl | rfl <;> exact va_Nw.warmC hW h1
  · obtain ⟨sa, h1⟩ := h.2 q hq
    exact ⟨sa, vk_R.warm hW h1⟩
def tz (A : Nat → Prop) (U : State) (H : Heap) : Prop := vx_Zq Bundle.tN "UNASSIGNED_STACK" Bundle.steD A U H ∧ vx_Zq Bundle.tN "SUPPRESSED_SENTINEL" Bundle.listD A U H
theorem tz.moved {A : Nat → Prop} {u U : State} {H : Heap} (hvm : u.vm.Alike U.vm) (h : tz A u H) : tz A U H := ⟨h.1.moved hvm, h.2.moved hvm⟩
theorem tz.kept {A : Nat → Prop} {U : State} {H H1 : Heap} (h : tz A U H) (hq : ∀ a : Nat, a < H.size → ¬ A a → H1[a]? = H[a]?) : tz A U H1 := ⟨h.1.kept hq, h.2.kept hq⟩
theorem tz.narrow {A B : Nat → Prop} {U : State} {H : Heap} (h : tz A U H) (hAB : ∀ q, B q → A q) : tz B U H := ⟨h.1.narrow hAB, h.2.narrow hAB⟩
theorem tz.call {A B : Nat → Prop} {s U : State} {H : Heap} {locs : List Loc} (h : tz A s s.heap) (hS : va_S A s.heap H locs) (hU : U.heap = H) (hW : s.WarmedH U.vm) (hAB : ∀ q, B q → A q) : tz B U U.heap := by
  rw [hU]
  exact ((h.kept hS.2.1).moved hW.alike).narrow hAB
theorem th_F {A : Nat → Prop} {s t : State} {H : Heap} {locs : List Loc} (hS : va_S A s.heap H locs) (hz : H.size ≤ t.heap.size) (hk : ∀ q : Nat, q < H.size → t.heap[q]? = H[q]?) : va_F A s t :=
  ⟨Nat.le_trans hS.1 hz, fun q h1 h2 => (hk q (Nat.lt_of_lt_of_le h1 hS.1)).trans (hS.2.1 q h1 h2)⟩
theorem th_P {D : va_G} {cl : List vw_C} {ws : va_W} {H : Heap} {t : State} (hP : va_P D cl ws H) (hk : ∀ q : Nat, q < H.size → t.heap[q]? = H[q]?) : va_P D cl ws t.heap := hP.kept (fun k q h => hk q.1 (vx_lt hP h))
