/-! ===== THE JUDGEMENT: what the small machine does, the large one does ===== -/
def q_lk (w : Cond) : Prop := w ∈ lw_tbl ∧ goodWord w = true
def q_good : List Cond := lw_tbl.filter goodWord
theorem q_good_in {w : Cond} (h : q_lk w) : w ∈ q_good := List.mem_filter.mpr ⟨h.1, h.2⟩
def q_pc (cd : List En) (i : Nat) : Nat := match cd[i]? with
  | some e => e.2.2.2.1
  | none => 0
def q_tys (cs : Nat → ClassId) : List (ClassId × FieldType) := [(cs 100, .int), (cs 101, .byte), (cs 102, .long), (cs 103, .object "JarCabinet$Moment")]
/-- a method: name, bytes, locals, what it returns, kind (0 called on an object, 1 static, 2 a constructor, 4 static with a table), its table, parameters without 'this' -/
abbrev Mr : Type := MethodName × ByteArray × Nat × Option FieldType × Nat × List (Nat × Nat × Nat × Nat) × Nat
def q_exn (E : Nat) : String := match E with
  | 0 => "java/lang/IllegalArgumentException"
  | 1 => "java/lang/UnsupportedOperationException"
  | 2 => "java/lang/IndexOutOfBoundsException"
  | 3 => "java/util/NoSuchElementException"
  | _ => "java/lang/IllegalStateException"
/-- the fixed things: launch, the law's start, the script's cell, the classes' numbers, the arrays' classes, where texts lie -/
abbrev Fx : Type := Launch × State × Nat × va_G × (Nat → ClassId) × (Nat → Nat)
abbrev Fx.l (F : Fx) : Launch := F.1
abbrev Fx.s0 (F : Fx) : State := F.2.1
abbrev Fx.b (F : Fx) : Nat := F.2.2.1
abbrev Fx.D (F : Fx) : va_G := F.2.2.2.1
abbrev Fx.cs (F : Fx) : Nat → ClassId := F.2.2.2.2.1
abbrev Fx.sa (F : Fx) : Nat → Nat := F.2.2.2.2.2
abbrev Fx.base (F : Fx) : Nat := F.2.1.heap.size
def q_A (F : Fx) : Nat → Prop := fun q => F.base ≤ q
def q_rv (F : Fx) (v : Value) : Value := q_v F.base F.sa v
/-- the heap under a store: its cells, and all that was there before as it was -/
def q_R (F : Fx) (h : Hp) (H : Heap) : Prop := va_P F.D vwCl (q_ws F.base F.cs h) H ∧ F.base ≤ H.size ∧ ∀ q, q < F.base → H[q]? = F.s0.heap[q]?
/-- what holds at the law's start -/
def q_E (F : Fx) (X : Sx) (sk : List (String × Nat × String)) : Prop :=
  F.l.stackTraces = false ∧ (∀ w ∈ lw_tbl, w.before #[Value.ref F.b] F.s0 = true) ∧ va_K F.D vwCl (q_tys F.cs) F.s0 ∧ va_X F.b X.1 X.2 F.s0 F.s0.heap ∧ F.b < F.base ∧ F.sa 1000000 = F.b ∧
  (∀ (i : Nat) (q : String × Nat × String), sk[i]? = some q → vk_R q.1 q.2.1 q.2.2 (F.sa i) F.s0) ∧
  vx_Zq Bundle.tN "UNASSIGNED_STACK" Bundle.steD (q_A F) F.s0 F.s0.heap ∧ vx_Zq Bundle.tN "SUPPRESSED_SENTINEL" Bundle.listD (q_A F) F.s0 F.s0.heap
def q_Pc (F : Fx) (args : List Value) (h : Hp) : Array Value → State → Prop := fun v U => v = (args.map (q_rv F)).toArray ∧ F.s0.WarmedH U.vm ∧ q_R F h U.heap ∧ U.heap.size ≤ F.base + h.2.2.2.1
def q_Qc (F : Fx) (o : Ou) (h' : Hp) : Array Value → State → Outcome → State → Prop := fun _ _ oc t => ∃ v : Option Value, o = .inl v ∧ oc = .returned (v.map (q_rv F)) ∧ F.s0.WarmedH t.vm ∧ q_R F h' t.heap
def q_XC (F : Fx) (o : Ou) (h' : Hp) : String → State → State → Prop := fun E _ t => ∃ n : Nat, o = .inr n ∧ q_exn n = E ∧ q_R F h' t.heap
def q_rm (d mc ms : Nat) : Room := { frames := d + 6, cells := mc, slots := ms, locals := 60 * d + 120 }
/-- a method's contract, at most so many calls deep -/
def q_CT (F : Fx) (d : Nat) (r : Mr) (args : List Value) (h : Hp) (o : Ou) (h' : Hp) : Prop :=
  if r.2.2.2.2.1 = 4 then (∃ v, o = .inl v) → Met F.l r.1 (Cond.codeWith r.1 r.2.1 r.2.2.1 r.2.2.2.1 r.2.2.2.2.2.1 :: q_good) (q_rm d (h'.2.2.2.1 - h.2.2.2.1) (h'.2.2.2.2 - h.2.2.2.2)) (q_Pc F args h) (q_Qc F o h') (h'.2.2.2.1 - h.2.2.2.1) (h'.2.2.2.2 - h.2.2.2.2) (q_A F)
  else vx_Met F.l r.1 (Cond.code r.1 r.2.1 r.2.2.1 r.2.2.2.1 :: q_good) (q_rm d (h'.2.2.2.1 - h.2.2.2.1) (h'.2.2.2.2 - h.2.2.2.2)) (q_Pc F args h) (q_Qc F o h') (q_XC F o h') (h'.2.2.2.1 - h.2.2.2.1) (h'.2.2.2.2 - h.2.2.2.2) (q_A F)
/-- a body that stands: the machine's facts -/
abbrev Bd : Type := Program × Env × Room × State × MethodId × Array Value × List Frame × Method × Code
abbrev Bd.p (B : Bd) : Program := B.1
abbrev Bd.e (B : Bd) : Env := B.2.1
abbrev Bd.R (B : Bd) : Room := B.2.2.1
abbrev Bd.s (B : Bd) : State := B.2.2.2.1
abbrev Bd.m (B : Bd) : MethodId := B.2.2.2.2.1
abbrev Bd.args (B : Bd) : Array Value := B.2.2.2.2.2.1
abbrev Bd.below (B : Bd) : List Frame := B.2.2.2.2.2.2.1
abbrev Bd.meth (B : Bd) : Method := B.2.2.2.2.2.2.2.1
abbrev Bd.c (B : Bd) : Code := B.2.2.2.2.2.2.2.2
abbrev q_W (F : Fx) (B : Bd) (H : Heap) (locs : List Loc) (cells slots : Nat) (Q : State → Prop) (pc : Nat) (rls : Array Slot) (st : List Value) : Prop :=
  W B.p F.l B.e B.R B.s B.m B.args B.below B.meth B.c H locs cells slots Q (F0 B.m pc rls st)
/-- the body's facts: bytes cc, locals, what it returns, own class, whether a constructor -/
def q_B (F : Fx) (B : Bd) (own : String) (cc : ByteArray) (nL : Nat) (ret : Option FieldType) (ini : Bool) : Prop :=
  B.p.tables.exec = Jvm.exec ∧ B.c.code = cc ∧ B.c.maxLocals = nL ∧ B.meth.sig.returnType = ret ∧ B.s.vm.findClass own = some B.m.cls ∧ B.meth.locks = false ∧ (ini = true → B.meth.name = "<init>") ∧ F.s0.WarmedH B.s.vm ∧
  F.base ≤ B.s.heap.size ∧ ∀ q, q < F.base → B.s.heap[q]? = F.s0.heap[q]?
/-- from here on, whatever heap stands under the store, it comes to Q -/
def q_J (F : Fx) (B : Bd) (nL : Nat) (cd : List En) (h0 : Hp) (Q : State → Prop) (i : Nat) (ls : Lc) (st : List Value) (h : Hp) : Prop :=
  ∀ (H : Heap) (locs : List Loc) (cells slots : Nat) (rls : Array Slot), q_R F h H → va_S (q_A F) B.s.heap H locs → q_L F.base F.sa nL rls ls → h0.2.2.2.1 + cells = h.2.2.2.1 → h0.2.2.2.2 + slots = h.2.2.2.2 →
    q_W F B H locs cells slots Q (q_pc cd i) rls (st.map (q_rv F))
section Facts
variable {F : Fx} {B : Bd} {own : String} {cc : ByteArray} {nL : Nat} {ret : Option FieldType} {ini : Bool} {X : Sx} {sk : List (String × Nat × String)}
theorem q_word (E : q_E F X sk) (C : q_B F B own cc nL ret ini) {w : Cond} (h : q_lk w) : w.before B.args B.s = true := word_at C.2.2.2.2.2.2.2.1 (good_of_word h.2) (E.2.1 w h.1)
theorem q_words (E : q_E F X sk) (C : q_B F B own cc nL ret ini) : ∀ w ∈ q_good, w.before B.args B.s = true := fun w h => q_word E C ⟨(List.mem_filter.mp h).1, (List.mem_filter.mp h).2⟩
theorem q_K (E : q_E F X sk) (C : q_B F B own cc nL ret ini) : va_K F.D vwCl (q_tys F.cs) B.s := va_K.moved C.2.2.2.2.2.2.2.1.alike E.2.2.1
end Facts
