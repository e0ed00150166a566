/-! ===== EVERY CALL: the small machine's answer is a contract of the large one ===== -/
theorem q_ofW {l : Launch} {y : MethodName} {ws ws' : List Cond} {rm : Room} {Pc : Array Value → State → Prop} {Qc : Array Value → State → Outcome → State → Prop} {XC : String → State → State → Prop} {mc ms : Nat} {free : Addr → Prop} {cc : ByteArray} {maxL : Nat} {ret : Option FieldType}
    (hy : plainFor y = true) (hw : ws = Cond.code y cc maxL ret :: ws')
    (body : ∀ p e s m args below meth c s₁, BodyLoose p l y (headSpec ws rm) cc maxL ret e s m args below meth c s₁ → c.maxLocals = maxL → (∀ x ∈ c.exceptionTable.toList, False) → Pc args s →
      W p l e (headSpec ws rm).room s m args below meth c s.heap [] 0 0 (vx_MQ below Qc XC args s mc ms free) (entryFrame m args maxL)) : vx_Met l y ws rm Pc Qc XC mc ms free := by
  refine MetFree.of_bodySF (code := cc) (maxLocals := maxL) (ret := ret) hy ?_ ?_
  · intro args s m h hn
    obtain ⟨meth, c, h1, h2, h3, h4, h5, h6, -, -⟩ := Cond.code_spec hn (atoms_spec (ws := ws) h _ (by rw [hw]; exact List.mem_cons_self))
    exact ⟨meth, c, h1, h2, h3, h4, h5, h6⟩
  · intro p e s m args below meth c s₁ B hml hP _
    have hh0 : s₁.heap = s.heap := by rw [B.state]; rfl
    have ht : ∀ x ∈ c.exceptionTable.toList, False := by
      obtain ⟨meth9, c9, h1, h2, -, -, -, -, h7, -⟩ := Cond.code_spec B.named (atoms_spec (ws := ws) B.pre _ (by rw [hw]; exact List.mem_cons_self))
      cases Option.some.inj (h1.symm.trans B.method)
      cases Option.some.inj (h2.symm.trans (Stand.of_body B).code)
      intro x hx
      rw [Array.isEmpty_iff.mp h7] at hx
      cases hx
    obtain ⟨t, a1, o, b1, b2, b3⟩ := body p e s m args below meth c s₁ B hml ht hP s₁ hh0 (Stand.of_body B)
    exact ⟨t, o, a1, b1, b2, b3⟩
theorem q_ofWH {l : Launch} {y : MethodName} {ws ws' : List Cond} {rm : Room} {Pc : Array Value → State → Prop} {Qc : Array Value → State → Outcome → State → Prop} {XC : String → State → State → Prop} {mc ms : Nat} {free : Addr → Prop} {cc : ByteArray} {maxL : Nat} {ret : Option FieldType} {hh : List (Nat × Nat × Nat × Nat)}
    (hy : plainFor y = true) (hw : ws = Cond.codeWith y cc maxL ret hh :: ws')
    (body : ∀ p e s m args below meth c s₁, BodyLoose p l y (headSpec ws rm) cc maxL ret e s m args below meth c s₁ → c.maxLocals = maxL → Pc args s →
      W p l e (headSpec ws rm).room s m args below meth c s.heap [] 0 0 (vx_MQ below Qc XC args s mc ms free) (entryFrame m args maxL)) : vx_Met l y ws rm Pc Qc XC mc ms free := by
  refine MetFree.of_bodySF (code := cc) (maxLocals := maxL) (ret := ret) hy ?_ ?_
  · intro args s m h hn
    obtain ⟨m9, meth, c, hn9, h1, h2, h3, h4, -, h5, h6, -⟩ := Cond.codeWith_spec (atoms_spec (ws := ws) h _ (by rw [hw]; exact List.mem_cons_self))
    cases hn.symm.trans hn9
    exact ⟨meth, c, h1, h2, h3, h4, h5, h6⟩
  · intro p e s m args below meth c s₁ B hml hP _
    have hh0 : s₁.heap = s.heap := by rw [B.state]; rfl
    obtain ⟨t, a1, o, b1, b2, b3⟩ := body p e s m args below meth c s₁ B hml hP s₁ hh0 (Stand.of_body B)
    exact ⟨t, o, a1, b1, b2, b3⟩
theorem q_args_at : ∀ (vs : List Value) (k i : Nat) (v : Value), (∀ v ∈ vs, v.category = 1) → vs[i]? = some v → (k + i, v) ∈ lv_args k vs := by
  intro vs
  induction vs with
  | nil => intro k i v _ h; simp at h
  | cons w vs ih =>
    intro k i v hc h
    have hw : w.category = 1 := hc w List.mem_cons_self
    show (k + i, v) ∈ (k, w) :: lv_args (if w.category = 2 then k + 2 else k + 1) vs
    rw [if_neg (by rw [hw]; decide)]
    cases i with
    | zero => simp at h; subst h; exact List.mem_cons_self
    | succ i =>
      have h2 : vs[i]? = some v := by simpa using h
      have := ih (k + 1) i v (fun x hx => hc x (List.mem_cons_of_mem _ hx)) h2
      rw [show k + (i + 1) = k + 1 + i by omega]
      exact List.mem_cons_of_mem _ this
theorem q_sl_len : ∀ (vs : List Value), (∀ v ∈ vs, v.category = 1) → (lg_sl vs).length = vs.length := by
  intro vs
  induction vs with
  | nil => intro _; rfl
  | cons w vs ih =>
    intro hc
    have hw : w.category = 1 := hc w List.mem_cons_self
    have := ih (fun x hx => hc x (List.mem_cons_of_mem _ hx))
    unfold lg_sl at this ⊢
    rw [List.flatMap_cons, if_neg (by rw [hw]; decide), List.length_append, this]
    simp; omega
theorem q_cat1 : ∀ (vs : List Value), q_wd vs = vs.length → ∀ v ∈ vs, v.category = 1 := by
  intro vs
  have h1 : ∀ v : Value, 1 ≤ v.category := by intro v; cases v <;> first | exact Nat.le_refl 1 | exact Nat.le_succ 1
  have hge : ∀ vs : List Value, vs.length ≤ q_wd vs := by
    intro vs
    induction vs with
    | nil => exact Nat.le_refl _
    | cons w vs ih =>
      have e : q_wd (w :: vs) = w.category + q_wd vs := by simp [q_wd]
      rw [e, List.length_cons]
      have := h1 w
      omega
  induction vs with
  | nil => intro _ v hv; cases hv
  | cons w vs ih =>
    intro he v hv
    have e : q_wd (w :: vs) = w.category + q_wd vs := by simp [q_wd]
    rw [e, List.length_cons] at he
    have a1 := h1 w
    have a2 := hge vs
    rcases List.mem_cons.mp hv with rfl | hv
    · omega
    · exact ih (by omega) v hv
theorem q_entry {F : Fx} {args : List Value} {n : Nat} (hc : ∀ v ∈ args, v.category = 1) (hn : args.length ≤ n) : q_L F.base F.sa n ((lg_sl (args.map (q_rv F)) ++ List.replicate (n - (lg_sl (args.map (q_rv F))).length) Slot.unset).toArray) (q_en n args) := by
  have hc2 : ∀ v ∈ args.map (q_rv F), v.category = 1 := by
    intro v hv
    obtain ⟨w, hw, rfl⟩ := List.mem_map.mp hv
    exact q_v_cat (hc w hw)
  have hl := q_sl_len _ hc2
  have he := lv_entry (args.map (q_rv F)) (n := n) (by rw [hl, List.length_map]; exact hn)
  refine ⟨by unfold q_en; simp; omega, he.1, he.2.1, fun i v hv => ?_⟩
  have hv2 : args[i]? = some v := by
    unfold q_en at hv
    by_cases hi : i < args.length
    · rw [List.getElem?_append_left (by rw [List.length_map]; exact hi), List.getElem?_map] at hv
      cases ha : args[i]? with
      | none => rw [ha] at hv; cases hv
      | some w => rw [ha] at hv; simp at hv; rw [hv]
    · rw [List.getElem?_append_right (by rw [List.length_map]; omega), List.getElem?_replicate] at hv
      split at hv <;> cases hv
  refine ⟨hc v (List.mem_of_getElem? hv2), ?_⟩
  have := he.2.2 (0 + i, q_rv F v) (q_args_at _ 0 i _ hc2 (by rw [List.getElem?_map, hv2]; rfl))
  rw [Nat.zero_add] at this
  exact this
/-- what the program's tables must be -/
def q_PF (F : Fx) (T : Tb) (mt : List Mr) (pg : List (Nat × List En)) : Prop := ∀ (mi : Nat) (r9 : Mr), mt[mi]? = some r9 → ∃ (cd : List En) (oi : Nat), pg[mi]? = some (r9.2.2.1, cd) ∧ q_cn oi = r9.1.cls ∧ r9.2.2.2.2.2.2 + (if r9.2.2.2.2.1 = 1 ∨ r9.2.2.2.2.1 = 4 then 0 else 1) ≤ r9.2.2.1 ∧ q_pc cd 0 = 0 ∧
  (∀ (i : Nat) (e : En), cd[i]? = some e → q_ok T mt oi r9.2.1 r9.2.2.2.1 (r9.2.2.2.2.1 == 2) cd i e = true) ∧
  (if r9.2.2.2.2.1 = 4 then (∀ e ∈ cd, e.1 ≠ 33 ∧ e.1 ≠ 35 ∧ e.1 ≠ 51) ∧ r9.2.2.2.1 = some .int ∧ ∀ (B : Bd), q_B F B (q_cn oi) r9.2.1 r9.2.2.1 r9.2.2.2.1 (r9.2.2.2.2.1 == 2) → B.c.exceptionTable.toList = tableOf r9.2.2.2.2.2.1 → ∀ (i : Nat) (info : List Nat) (c0 : Int32) (pc0 : Nat) (ins : Instr) (len : Nat), cd[i]? = some (48, info, c0, pc0, ins, len) → q_HK B (q_cn oi) r9.2.1 r9.2.2.1 info pc0
   else ∀ e ∈ cd, e.1 ≠ 48)
/-- what is wanted of the rows on texts -/
def q_SA (F : Fx) (sb : List (List Int32)) (T : Tb) : Prop := ∀ (B : Bd) (own : String) (cc : ByteArray) (nL : Nat) (ret : Option FieldType) (ini : Bool), q_B F B own cc nL ret ini → 6 ≤ B.R.frames → 120 ≤ B.R.locals → q_HS F B sb nL T
set_option maxHeartbeats 4000000 in
theorem q_sim {F : Fx} {X : Sx} {sk : List (String × Nat × String)} {T : Tb} {mt : List Mr} {sb : List (List Int32)} {pg : List (Nat × List En)} (E : q_E F X sk) (HT : q_T T mt sk) (HM : ∀ (mi : Nat) (r9 : Mr), mt[mi]? = some r9 → q_mo r9) (PF : q_PF F T mt pg) (SA : q_SA F sb T) (HN : q_HN F T) : ∀ d : Nat, q_HC F mt d (q_call X sb pg d) := by
  intro d
  induction d with
  | zero => intro mi args h o h' hr; cases hr
  | succ d ih =>
    intro mi args h o h' hr
    refine ⟨q_call_mono (d + 1) mi args h o h' hr, fun r9 hr9 hal haw => ?_⟩
    obtain ⟨hle1, hle2⟩ := q_call_mono (d + 1) mi args h o h' hr
    obtain ⟨cd, oi, hpg, hcn, hnp, hp0, hok, hrest⟩ := PF mi r9 hr9
    have hmo := HM mi r9 hr9
    unfold q_call at hr
    rw [hpg] at hr
    obtain ⟨n, hn⟩ := q_lim_ex hr
    have hn : q_ex X sb cd (q_call X sb pg d) n 0 (q_en r9.2.2.1 args) [] h = some (o, h') := hn
    have hc1 := q_cat1 args haw
    have hal2 : args.length ≤ r9.2.2.1 := by
      rw [hal]
      exact hnp
    have key : ∀ (p : Program) (e : Env) (s : State) (m : MethodId) (av : Array Value) (below : List Frame) (meth : Method) (c : Code) (R : Room), R = q_rm (d + 1) (h'.2.2.2.1 - h.2.2.2.1) (h'.2.2.2.2 - h.2.2.2.2) → q_B F (p, e, R, s, m, av, below, meth, c) (q_cn oi) r9.2.1 r9.2.2.1 r9.2.2.2.1 (r9.2.2.2.2.1 == 2) → q_Pc F args h av s →
        (c.exceptionTable.toList = [] ∨ ∀ e ∈ cd, e.1 ≠ 33 ∧ e.1 ≠ 35 ∧ e.1 ≠ 51) → (∀ (i : Nat) (info : List Nat) (c0 : Int32) (pc0 : Nat) (ins : Instr) (len : Nat), cd[i]? = some (48, info, c0, pc0, ins, len) → r9.2.2.2.1 = some .int ∧ q_HK (p, e, R, s, m, av, below, meth, c) (q_cn oi) r9.2.1 r9.2.2.1 info pc0) →
        W p F.l e R s m av below meth c s.heap [] 0 0 (vx_MQ below (q_Qc F o h') (q_XC F o h') av s (h'.2.2.2.1 - h.2.2.2.1) (h'.2.2.2.2 - h.2.2.2.2) (q_A F)) (entryFrame m av r9.2.2.1) := by
      intro p e s m av below meth c R hRe C hPc htab hhk
      obtain ⟨hav, hwm, hR, hsz⟩ := hPc
      subst hRe
      have J := q_body (B := (p, e, q_rm (d + 1) (h'.2.2.2.1 - h.2.2.2.1) (h'.2.2.2.2 - h.2.2.2.2), s, m, av, below, meth, c)) (h0 := h) E HT HM ih C hsz htab hok hhk (SA _ _ _ _ _ _ C (by show 6 ≤ d + 1 + 6; omega) (by show 120 ≤ 60 * (d + 1) + 120; omega)) HN n 0 (q_en r9.2.2.1 args) [] h (o, h') hn
        ⟨Nat.le_refl _, Nat.le_refl _, by show h'.2.2.2.1 ≤ h.2.2.2.1 + (h'.2.2.2.1 - h.2.2.2.1); omega, by show h'.2.2.2.2 ≤ h.2.2.2.2 + (h'.2.2.2.2 - h.2.2.2.2); omega⟩
      rw [hav, lg_entry_eq]
      have W9 := J s.heap [] 0 0 _ hR va_S.rf (q_entry hc1 hal2) (Nat.add_zero _) (Nat.add_zero _)
      rw [hp0] at W9
      rw [hav] at W9
      exact W9
    have hownq : ∀ {p : Program} {e : Env} {s : State} {m : MethodId} {av : Array Value} {below : List Frame} {meth : Method} {c : Code} {s₁ : State} {ws : List Cond} {rm : Room}, BodyLoose p F.l r9.1 (headSpec ws rm) r9.2.1 r9.2.2.1 r9.2.2.2.1 e s m av below meth c s₁ → c.maxLocals = r9.2.2.1 → q_Pc F args h av s → q_B F (p, e, (headSpec ws rm).room, s, m, av, below, meth, c) (q_cn oi) r9.2.1 r9.2.2.1 r9.2.2.2.1 (r9.2.2.2.2.1 == 2) := by
      intro p e s m av below meth c s₁ ws rm B hml hPc
      refine ⟨B.exec, B.bytes, hml, B.returns, by rw [hcn]; exact findClass_of_methodNamed B.named, B.notSynchronized, fun hi => ?_, hPc.2.1, hPc.2.2.1.2.1, hPc.2.2.1.2.2⟩
      have hk2 : r9.2.2.2.2.1 = 2 := by simpa using hi
      rw [← (hmo.2.2.2.2.2.2.2.2 hk2).1]
      exact (name_of_methodNamed B.named B.method).1
    unfold q_CT
    by_cases h4 : r9.2.2.2.2.1 = 4
    · rw [if_pos h4]
      rw [if_pos h4] at hrest
      rintro ⟨v, hov⟩
      refine q_toMet (XC := q_XC F o h') ?_ (fun En st t hx => by obtain ⟨n9, h9, -⟩ := hx; rw [hov] at h9; cases h9)
      refine q_ofWH hmo.1 rfl ?_
      intro p e s m av below meth c s₁ B hml hPc
      have C := hownq B hml hPc
      have hts := atoms_spec B.pre
      have htab := vx_table (x := r9.1) B (hts _ List.mem_cons_self)
      exact key p e s m av below meth c _ rfl C hPc (Or.inr hrest.1) (fun i info c0 pc0 ins len hcd => ⟨hrest.2.1, hrest.2.2 _ C htab i info c0 pc0 ins len hcd⟩)
    · rw [if_neg h4]
      rw [if_neg h4] at hrest
      refine q_ofW hmo.1 rfl ?_
      intro p e s m av below meth c s₁ B hml htab hPc
      have C := hownq B hml hPc
      refine key p e s m av below meth c _ rfl C hPc (Or.inl ?_) (fun i info c0 pc0 ins len hcd => absurd rfl (hrest _ (List.mem_of_getElem? hcd)))
      cases ht : c.exceptionTable.toList with
      | nil => rfl
      | cons x t => exact absurd (by rw [ht]; exact List.mem_cons_self) (htab x)
