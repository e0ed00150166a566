def R_law : String := "JarCabinetLaw"
def lw_P (b : Addr) (xs : List Int32) (args : Array Value) (s : State) : Prop := args = #[.ref b] ∧ s.IntsAt b xs ∧ xs.length ≤ 3072 ∧ (Jvm.Cond.and given_1 narrow_1).before args s = true
def lw_Q (_ : Array Value) (s : State) (o : Outcome) (t : State) : Prop := o = .returned (some (.int 1)) ∧ Framed s o t [] 601024 7293034
def lw_Z (below : List Frame) (a : Array Value) (s : State) : State → Prop := fun t => ∃ o, t.status = .running ∧ Ended t below o ∧ lw_Q a s o t
/-- the law's own end, with 1 on the stack, nothing written that was there before, its room as the claim has it -/
theorem lw_ret {p : Program} {l : Launch} {e : Env} {s : State} {m : MethodId} {below : List Frame} {meth : Method} {c : Code} {b : Nat} (hx : p.tables.exec = Jvm.exec) (hb : c.code = code) (hr : meth.sig.returnType = ret) (hlocks : meth.locks = false) {pc : Nat} {H : Heap} {ls : Array Slot} (hdg : decode code pc = .ok (.ireturn, 1)) : W p l e room_1 s m #[Value.ref b] below meth c H [] 601024 7293034 (lw_Z below #[Value.ref b] s) (F0 m pc ls [.int 1]) := by
  intro T hT X
  obtain ⟨fs, hret, hrun, hended, hW, hframe⟩ := X.leave (v := some (.int 1)) (hlocks := hlocks) (fun h => by rw [hr] at h; cases h)
  have hmeth' : T.vm.method? m = some meth := X.method'
  refine ⟨T.setFrames fs, ?_, .returned (some (.int 1)), hrun, hended, rfl, ⟨_, rfl⟩, hW, hframe⟩
  jvm_step X.here [X.here.top, hx, hb, hdg, hmeth', hr, ret, narrow_b1]
  (try refine ⟨rfl, ?_⟩); (try refine ⟨rfl, ?_⟩)
  first | (intro acts; rw [hret _ acts rfl rfl rfl]) | rw [hret _ _ rfl rfl rfl]
  exact Steps.refl _
/-- what holds at the law's entry: the machine, the code, the tables' words (any of lw_tbl by 'hts w (by decide +kernel)'), the script of L ints xs at the cell b, what the Statement gives of the start (any of its parts by flat_of_before) -/
def lw_At (p : Program) (s : State) (m : MethodId) (meth : Method) (c : Code) (b L : Nat) (xs : Nat → Int32) : Prop :=
  p.tables.exec = Jvm.exec ∧ c.code = code ∧ meth.sig.returnType = ret ∧ c.maxLocals = 7 ∧ s.vm.findClass R_law = some m.cls ∧ (∀ w ∈ lw_tbl, w.before #[Value.ref b] s = true) ∧ va_X b L xs s s.heap ∧ b < s.heap.size ∧ meth.locks = false ∧ (Jvm.Cond.and given_1 narrow_1).before #[Value.ref b] s = true
/-- the store ahead of all -/
def q_h0 : Hp := ([], fun _ _ => 0, fun _ _ => 0, 0, 0)
theorem q_Rm_of {B : Bd} {h0 : Hp} {d : Nat} {r : Ou × Hp} (hR : B.R = room_1) (hd : d + 6 ≤ 2048) (hd2 : 60 * d + 120 ≤ 84000) (hc : r.2.2.2.2.1 ≤ 601024) (hs : r.2.2.2.2.2 ≤ 7293034) : q_Rm B h0 d r := by
  unfold q_Rm
  rw [hR]
  refine ⟨hd, hd2, Nat.le_trans hc (Nat.le_add_left _ _), Nat.le_trans hs (Nat.le_add_left _ _)⟩
theorem q_R6 : 6 ≤ room_1.frames ∧ 120 ≤ room_1.locals := ⟨by decide, by decide⟩
/-- THE ROOT: what the small machine makes of the law is what the large one makes of it -/
theorem q_root {p : Program} {e : Env} {s : State} {m : MethodId} {below : List Frame} {meth : Method} {c : Code} (l : Launch) (hl : l.stackTraces = false) {b L : Nat} {xs : Nat → Int32} (C0 : lw_At p s m meth c b L xs) (htab : c.exceptionTable.toList = [])
    {d : Nat} {h' : Hp} (hp : q_res (L, xs) q_sb q_pg d cd_L_law_ 0 (q_en 7 [.float 1000000]) [] q_h0 = some (.inl (some (.int 1)), h')) (hd : d ≤ 1000) (hc : h'.2.2.2.1 ≤ 601024) (hs : h'.2.2.2.2 ≤ 7293034) :
    W p l e room_1 s m #[Value.ref b] below meth c s.heap [] 0 0 (lw_Z below #[Value.ref b] s) (entryFrame m ([Value.ref b] : List Value).toArray 7) := by
  obtain ⟨hx, hb, hr, hml, hown, hts, hX, hbl, hlocks, hgv⟩ := id C0
  obtain ⟨F, rfl, rfl, rfl, E, NC, av, ES⟩ := q_start l hl hts hX hbl hgv
  have SA := q_SA_of E q_HT ES q_okbs
  have HC := q_sim (sb := q_sb) E q_HT (fun mi r9 h => q_mt_ok r9 (List.mem_of_getElem? h)) (q_PFs E NC) SA (q_HNs E) d
  obtain ⟨n, hn⟩ := q_lim_ex hp
  have C : q_B F (p, e, room_1, F.s0, m, #[Value.ref F.b], below, meth, c) (q_cn 13) code 7 (some .boolean) false := ⟨hx, hb, hml, hr, hown, hlocks, (fun h => by cases h), State.WarmedH.refl _, Nat.le_refl _, fun _ _ => rfl⟩
  have J := q_body (B := (p, e, room_1, F.s0, m, #[Value.ref F.b], below, meth, c)) (h0 := q_h0) E q_HT (fun mi r9 h => q_mt_ok r9 (List.mem_of_getElem? h)) HC C (Nat.le_refl _) (Or.inl htab) ok_law
    (fun i info c0 pc0 ins len hcd => by
      have := List.all_eq_true.mp no48_law _ (List.mem_of_getElem? hcd)
      simp at this)
    (SA _ _ _ _ _ _ C q_R6.1 q_R6.2) (q_HNs E) n 0 _ [] q_h0 _ hn (q_Rm_of rfl (by omega) (by omega) hc hs)
  have hR : q_R F q_h0 F.s0.heap := ⟨fun k q h => by simp [q_ws, q_h0] at h, Nat.le_refl _, fun _ _ => rfl⟩
  have W9 := J F.s0.heap [] 0 0 _ hR va_S.rf (q_entry (args := [.float 1000000]) (n := 7) (by intro v hv; cases List.mem_singleton.mp hv; rfl) (by decide)) rfl rfl
  have eb : ([Value.float 1000000].map (q_rv F)) = [Value.ref F.b] := by
    show [Value.ref (F.sa 1000000)] = _
    rw [E.2.2.2.2.2.1]
  rw [eb] at W9
  rw [lg_entry_eq]
  intro T9 hT9 X9
  obtain ⟨t, a1, oc, b1, b2, b3⟩ := W9 T9 hT9 X9
  refine ⟨t, a1, oc, b1, b2, ?_⟩
  rcases b3 with ⟨⟨v, hv1, hv2, -, -⟩, L9, hF, hL9⟩ | ⟨q, -, En9, ce, L9, ⟨n9, h9, -⟩, -⟩
  · cases hv1
    refine ⟨hv2, ?_⟩
    obtain ⟨f1, f2, f3⟩ := hF
    exact ⟨f1, f2, f3.weaken (fun y hy hlt => absurd hlt (Nat.not_lt.mpr (hL9 y hy))) (by show h'.2.2.2.1 - 0 ≤ 601024; omega) (by show h'.2.2.2.2 - 0 ≤ 7293034; omega)⟩
  · cases h9
