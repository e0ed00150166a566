/-! ===== CALLS ===== -/
/-- what the tables say of a method -/
def q_mo (r : Mr) : Prop := plainFor r.1 = true ∧ (r.1.cls ≠ "java/lang/invoke/MethodHandle" ∧ r.1.cls ≠ "java/lang/invoke/VarHandle") ∧ (parseMethodDescriptor r.1.desc).map (fun d => d.parameters.length) = some r.2.2.2.2.2.2 ∧ r.2.2.1 ≤ 41 ∧ q_lk (.initialized r.1.cls) ∧
  (if r.2.2.2.2.1 = 4 then q_lk (.codeWith r.1 r.2.1 r.2.2.1 r.2.2.2.1 r.2.2.2.2.2.1) else q_lk (.code r.1 r.2.1 r.2.2.1 r.2.2.2.1)) ∧
  (r.2.2.2.2.1 = 0 → q_lk (.instanceMethod r.1) ∧ q_lk (.selects r.1.cls r.1 r.1)) ∧ (r.2.2.2.2.1 = 1 ∨ r.2.2.2.2.1 = 4 → q_lk (.static r.1)) ∧ (r.2.2.2.2.1 = 2 → r.1.name = "<init>" ∧ q_lk (.instanceMethod r.1) ∧ r.2.2.2.1 = none)
theorem q_toMet {l : Launch} {y : MethodName} {ws : List Cond} {rm : Room} {Pc : Array Value → State → Prop} {Qc : Array Value → State → Outcome → State → Prop} {XC : String → State → State → Prop} {mc ms : Nat} {free : Addr → Prop} (h : vx_Met l y ws rm Pc Qc XC mc ms free) (hx : ∀ E st t, ¬ XC E st t) : Met l y ws rm Pc Qc mc ms free := by
  intro p e ha hc hk s m args below hf happ hP hK
  obtain ⟨n, o, h1, h2, h3, h4⟩ := h p e ha hc hk s m args below hf happ hP hK
  refine ⟨n, o, h1, h2, h3, ?_⟩
  rcases h4 with h4 | ⟨q, -, E, ce, L, hxx, -⟩
  · exact h4
  · exact absurd hxx (hx _ _ _)
section Rows4
variable {F : Fx} {B : Bd} {oi : Nat} {cc : ByteArray} {nL : Nat} {ret : Option FieldType} {ini : Bool} {X : Sx} {sk : List (String × Nat × String)} {T : Tb} {mt : List Mr} {d : Nat}
variable {sb : List (List Int32)} {cd : List En} {call : Nat → List Value → Hp → Rs} {k : Nat → Lc → List Value → Hp → Rs} {i : Nat} {ls : Lc} {st : List Value} {h h0 : Hp} {r : Ou × Hp} {Q : State → Prop} {info : List Nat} {c0 : Int32} {pc0 : Nat} {ins : Instr} {len : Nat}
theorem q_pay {own : String} (E : q_E F X sk) (C : q_B F B own cc nL ret ini) {w0 : Cond} (h0 : q_lk w0) : ∀ w ∈ w0 :: q_good, ∀ (a' : Array Value) (U : State), B.s.WarmedH U.vm → w.before a' U = true := by
  intro w hw a' U hU
  have hl : q_lk w := by
    rcases List.mem_cons.mp hw with rfl | hw
    · exact h0
    · exact ⟨(List.mem_filter.mp hw).1, (List.mem_filter.mp hw).2⟩
  exact word_at hU (good_of_word hl.2) (q_word E C hl)
theorem q_plen {r9 : Mr} (hmo : q_mo r9) : ∀ sig, parseMethodDescriptor r9.1.desc = some sig → r9.2.2.2.2.2.2 = sig.parameters.length := by
  intro sig hs
  have := hmo.2.2.1
  rw [hs] at this
  exact (Option.some.inj this).symm
theorem q_callB {own : String} (E : q_E F X sk) (C : q_B F B own cc nL ret ini) {r9 : Mr} (hmo : q_mo r9) (hk4 : r9.2.2.2.2.1 ≠ 4) (RM : q_Rm B h0 (d + 1) r) (mc ms : Nat) {n : Nat} (hl : q_lk (.methodLink own n r9.1)) :
    CallB B.R B.s B.args own n r9.1 r9.2.1 r9.2.2.1 r9.2.2.2.1 (Cond.code r9.1 r9.2.1 r9.2.2.1 r9.2.2.2.1 :: q_good) (q_rm d mc ms) mc ms r9.2.2.2.2.2.2 := by
  obtain ⟨h1, h2, h3, h4, h5, h6, h7, h8, h9⟩ := id hmo
  rw [if_neg hk4] at h6
  obtain ⟨f1, f2, -, -⟩ := RM
  exact ⟨rfl, rfl, by show d + 6 + 1 ≤ _; omega, by show 8 + (r9.2.2.1 + 11) + (60 * d + 120) ≤ _; omega, q_pay E C h6, List.mem_cons_self, q_word E C h6, q_word E C h5, h2, q_plen hmo, q_word E C hl⟩
theorem q_blind (args : List Value) (h : Hp) : FrameBlind (q_Pc F args h) := fun _ _ _ _ q => q
/-- behind a call -/
theorem q_callX {own : String} (C : q_B F B own cc nL ret ini) {o : Ou} {h1 : Hp} {H : Heap} {locs : List Loc} {cells slots mc ms pc : Nat} {rls : Array Slot} {st0 rest : List Value} {a : Array Value} (hr : vx_Run B.p F.l B.e B.R B.s B.m B.args B.below B.meth B.c H locs cells slots mc ms (F0 B.m pc rls st0) rest (q_Qc F o h1 a) (q_XC F o h1) (q_A F)) (hS : va_S (q_A F) B.s.heap H locs)
    (kr : ∀ (v : Option Value) (H1 : Heap) (locs1 : List Loc), o = .inl v → q_R F h1 H1 → va_S (q_A F) B.s.heap H1 locs1 → q_W F B H1 locs1 (cells + mc) (slots + ms) Q (pc + 3) rls ((v.map (q_rv F)).toList ++ rest))
    (kx : ∀ (n q9 : Nat) (ce : Cell) (H1 : Heap) (locs1 : List Loc), o = .inr n → q_R F h1 H1 → va_S (q_A F) B.s.heap H1 locs1 → H1[q9]? = some ce → ce.vm = .none → B.s.vm.findClass (q_exn n) = some ce.cls → vx_W B.p F.l B.e B.R B.s B.m B.args B.below B.meth B.c H1 locs1 (cells + mc) (slots + ms) Q (F0 B.m pc rls rest) q9) :
    q_W F B H locs cells slots Q pc rls st0 := by
  intro T hT X9
  have hS9 : ∀ (t T' : State) (L : List Loc), q_R F h1 t.heap → T'.heap = t.heap → Stand B.p F.l B.e B.R B.s B.m B.args B.below B.meth B.c T' (locs ++ L) (cells + mc) (slots + ms) → (∀ q ∈ L, q_A F q.base) → va_S (q_A F) B.s.heap T'.heap (locs ++ L) := by
    intro t T' L hq e1 X' hL
    refine ⟨X'.same.2.1, fun q h1 h2 => ?_, fun q hq => ?_⟩
    · have h3 : q < F.base := Nat.not_le.mp h2
      rw [e1, hq.2.2 q h3]
      exact (C.2.2.2.2.2.2.2.2.2 q h3).symm
    · rcases List.mem_append.mp hq with h | h
      · exact hS.2.2 q h
      · exact hL q h
  rcases hr T hT X9 with ⟨v0, st₀, t, T', L, e0, X', hL, e1, e2, ⟨v, ho, hv, -, hq⟩, st⟩ | ⟨q, st₀, t, T', L, En, ce, e0, X', hL, e1, e2, ⟨n, ho, hn, hq⟩, hce, hcv, hcl, st⟩
  · cases hv
    obtain ⟨t2, a1, b1⟩ := kr v T'.heap (locs ++ L) ho (by rw [e1]; exact hq) (hS9 t T' L hq e1 X' hL) T' rfl X'
    exact ⟨t2, st t2 a1, b1⟩
  · subst hn
    obtain ⟨t2, a1, b1⟩ := kx n q ce T'.heap (locs ++ L) ho (by rw [e1]; exact hq) (hS9 t T' L hq e1 X' hL) (by rw [e1]; exact hce) hcv hcl T' rfl X'
    exact ⟨t2, st.trans a1, b1⟩
theorem q_vxrun {H : Heap} {locs : List Loc} {cells slots mc ms : Nat} {g : JFrame} {rest : List Value} {Qa : State → Outcome → State → Prop} {XC : String → State → State → Prop} {free : Addr → Prop} (hr : va_Run B.p F.l B.e B.R B.s B.m B.args B.below B.meth B.c H locs cells slots mc ms g rest Qa free) : vx_Run B.p F.l B.e B.R B.s B.m B.args B.below B.meth B.c H locs cells slots mc ms g rest Qa XC free := fun T hT X9 => Or.inl (hr T hT X9)
/-- what is known of callees -/
def q_HC (F : Fx) (mt : List Mr) (d : Nat) (call : Nat → List Value → Hp → Rs) : Prop := ∀ (mi : Nat) (args : List Value) (h : Hp) (o : Ou) (h' : Hp), call mi args h = some (o, h') → (h.2.2.2.1 ≤ h'.2.2.2.1 ∧ h.2.2.2.2 ≤ h'.2.2.2.2) ∧ ∀ r9, mt[mi]? = some r9 → args.length = r9.2.2.2.2.2.2 + (if r9.2.2.2.2.1 = 1 ∨ r9.2.2.2.2.1 = 4 then 0 else 1) → q_wd args = args.length → q_CT F d r9 args h o h'
theorem q_wd_rev : ∀ st : List Value, q_wd st.reverse = q_wd st := by
  intro st
  simp [q_wd, List.map_reverse, List.sum_reverse]
theorem q_split {n : Nat} (hn : n ≤ st.length) : (st.map (q_rv F)) = ((st.take n).reverse.map (q_rv F)).reverse ++ (st.drop n).map (q_rv F) := by
  rw [List.map_reverse, List.reverse_reverse, ← List.map_append, List.take_append_drop]
theorem q_pcU {own : String} (C : q_B F B own cc nL ret ini) (SZ : B.s.heap.size ≤ F.base + h0.2.2.2.1) {args : List Value} {H : Heap} {cells slots : Nat} {locs : List Loc} (hR : q_R F h H) (hc : h0.2.2.2.1 + cells = h.2.2.2.1) {T : State} (hT : T.heap = H) (X9 : Stand B.p F.l B.e B.R B.s B.m B.args B.below B.meth B.c T locs cells slots) :
    ∀ U : State, U.heap = H → B.s.WarmedH U.vm → q_Pc F args h (args.map (q_rv F)).toArray U := by
  intro U hU hW
  refine ⟨rfl, State.WarmedH.trans C.2.2.2.2.2.2.2.1 hW, by rw [hU]; exact hR, ?_⟩
  have := X9.heapSize
  rw [hT] at this
  rw [hU]
  omega
theorem m_33 (E : q_E F X sk) (HT : q_T T mt sk) (C : q_B F B (q_cn oi) cc nL ret ini) (RM : q_Rm B h0 (d + 1) r) (MO : q_Mo k r) (SZ : B.s.heap.size ≤ F.base + h0.2.2.2.1) (HC : q_HC F mt d call) (HM : ∀ (mi : Nat) (r9 : Mr), mt[mi]? = some r9 → q_mo r9) (TAB : B.c.exceptionTable.toList = []) (hcd : cd[i]? = some (33, info, c0, pc0, ins, len)) (hok : q_ok T mt oi cc ret ini cd i (33, info, c0, pc0, ins, len) = true)
    (hrun : q_st X sb cd call k i ls st h = some r) (kk : ∀ i' ls' st' h', k i' ls' st' h' = some r → q_J F B nL cd h0 (q_Q F B h0 r) i' ls' st' h') : q_J F B nL cd h0 (q_Q F B h0 r) i ls st h := by
  intro H locs cells slots rls hR hS hL hc hs
  have h9 := Bool.and_eq_true_iff.mp (show (decide (decode cc pc0 = .ok (ins, len)) && q_ok33 T mt oi cc ret ini cd i (33, info, c0, pc0, ins, len)) = true from hok)
  have hd : decode cc pc0 = .ok (ins, len) := of_decide_eq_true h9.1
  replace hok := h9.2
  clear h9
  unfold q_ok33 at hok
  dsimp only at hok
  unfold q_st at hrun
  rw [hcd] at hrun
  replace hrun : (bif Nat.ble (info.getD 1 0) st.length && Nat.ble (q_wd (st.drop (info.getD 1 0))) 8 && Nat.beq (q_wd (st.take (info.getD 1 0))) (info.getD 1 0) then (match (generalizing := false) call (info.getD 0 0) (st.take (info.getD 1 0)).reverse h with
        | none => none
        | some (.inl v, h') => k (i + 1) ls (v.toList ++ st.drop (info.getD 1 0)) h'
        | some (.inr E, h') => some (.inr E, h')) else none) = some r := hrun
  show q_W F B H locs cells slots (q_Q F B h0 r) (q_pc cd i) rls (st.map (q_rv F))
  rw [q_pc_at hcd]
  obtain ⟨hx, hb, hml, hr, hown, hlocks, hini, hwm, hGb, hGk⟩ := id C
  replace hok := Bool.and_eq_true_iff.mp hok
  obtain ⟨h8, hok⟩ := hok
  replace h8 := Bool.and_eq_true_iff.mp h8
  obtain ⟨hn, h7⟩ := h8
  simp only [beq_iff_eq] at h7
  subst h7
  rw [Bool.cond_eq_ite] at hrun
  split at hrun
  rotate_left
  · cases hrun
  rename_i hcond
  simp only [Bool.and_eq_true] at hcond
  obtain ⟨⟨hc1, hc2⟩, hc3⟩ := hcond
  replace hc1 := Nat.ble_eq.mp hc1
  replace hc2 := Nat.ble_eq.mp hc2
  replace hc3 : q_wd (st.take (info.getD 1 0)) = info.getD 1 0 := Nat.beq_eq.mp hc3
  have hw2 := q_wd_map F (st.drop (info.getD 1 0))
  split at hok
  · cases hok
  rename_i r9 hr9
  have hmo := HM _ _ hr9
  have hal : (st.take (info.getD 1 0)).reverse.length = info.getD 1 0 := by rw [List.length_reverse, List.length_take]; omega
  have haw : q_wd (st.take (info.getD 1 0)).reverse = (st.take (info.getD 1 0)).reverse.length := by rw [q_wd_rev, hal]; exact hc3
  split at hok
  · rename_i n
    simp only [Bool.and_eq_true, beq_iff_eq, decide_eq_true_eq] at hok
    obtain ⟨⟨hk0, hna⟩, hml9⟩ := hok
    obtain ⟨r8, hr8, hlk⟩ := HT.2.2.1 _ hml9
    dsimp only at hr8 hlk
    rw [hr9] at hr8
    cases hr8
    generalize hcall : call (info.getD 0 0) (st.take (info.getD 1 0)).reverse h = rc at hrun
    cases rc with
    | none => cases hrun
    | some x =>
    obtain ⟨o, h1⟩ := x
    obtain ⟨⟨mo1, mo2⟩, hct⟩ := HC _ _ _ _ _ hcall
    have hct := hct r9 hr9 (by rw [hal, if_pos (Or.inl hk0)]; omega) haw
    rw [q_CT, if_neg (by rw [hk0]; decide)] at hct
    have hbd : h1.2.2.2.1 ≤ r.2.2.2.2.1 ∧ h1.2.2.2.2 ≤ r.2.2.2.2.2 := by
      cases o with
      | inl v => exact MO _ _ _ _ hrun
      | inr n => (cases hrun; exact ⟨Nat.le_refl _, Nat.le_refl _⟩)
    have hf1 : cells + (h1.2.2.2.1 - h.2.2.2.1) ≤ B.R.cells := by obtain ⟨-, -, r1, -⟩ := RM; omega
    have hf2 : slots + (h1.2.2.2.2 - h.2.2.2.2) ≤ B.R.slots := by obtain ⟨-, -, -, r2⟩ := RM; omega
    intro T9 hT9 X9
    have hpc := q_pcU (args := (st.take (info.getD 1 0)).reverse) C SZ hR hc hT9 X9

    refine q_callX (a := ((st.take (info.getD 1 0)).reverse.map (q_rv F)).toArray) (o := o) (h1 := h1) C (vx_runS ⟨hx, hb, hml, hown, q_words E C⟩ hct ⟨q_callB E C hmo (by rw [hk0]; decide) RM _ _ hlk, q_word E C (hmo.2.2.2.2.2.2.2.1 (Or.inl hk0))⟩ ⟨q_blind _ _, hpc⟩ rfl (by rw [List.length_map, hal]; exact hna) hL.2.1 (q_split hc1) (by show 2 * 0 + _ ≤ 8; omega) hd ⟨hf1, hf2⟩) hS (fun v H1 locs1 ho hR1 hS1 => ?_) (fun n q9 ce H1 locs1 ho hR1 hS1 hce hcv hcl => ?_) T9 hT9 X9
    · subst ho
      have kk := kk _ _ _ _ hrun H1 locs1 (cells + (h1.2.2.2.1 - h.2.2.2.1)) (slots + (h1.2.2.2.2 - h.2.2.2.2)) rls hR1 hS1 hL (by omega) (by omega)
      rw [q_nx_of hn, List.map_append] at kk
      have e9 : (v.map (q_rv F)).toList = v.toList.map (q_rv F) := by cases v <;> rfl
      rw [e9]
      exact kk
    · subst ho
      cases hrun
      show vx_W _ _ _ _ _ _ _ _ _ _ H1 locs1 _ _ (vx_MQ _ _ _ _ _ (h1.2.2.2.1 - h0.2.2.2.1) (h1.2.2.2.2 - h0.2.2.2.2) _) _ _
      exact vx_out (E := q_exn n) (by rw [TAB]; intro x hx; cases hx) hlocks hce hcv hcl (fun t ht _ => ⟨n, rfl, rfl, by rw [ht]; exact hR1⟩) hS1.2.2 (by omega) (by omega)
  · cases hok
theorem m_51 (E : q_E F X sk) (HT : q_T T mt sk) (C : q_B F B (q_cn oi) cc nL ret ini) (RM : q_Rm B h0 (d + 1) r) (MO : q_Mo k r) (SZ : B.s.heap.size ≤ F.base + h0.2.2.2.1) (HC : q_HC F mt d call) (HM : ∀ (mi : Nat) (r9 : Mr), mt[mi]? = some r9 → q_mo r9) (TAB : B.c.exceptionTable.toList = []) (hcd : cd[i]? = some (51, info, c0, pc0, ins, len)) (hok : q_ok T mt oi cc ret ini cd i (51, info, c0, pc0, ins, len) = true)
    (hrun : q_st X sb cd call k i ls st h = some r) (kk : ∀ i' ls' st' h', k i' ls' st' h' = some r → q_J F B nL cd h0 (q_Q F B h0 r) i' ls' st' h') : q_J F B nL cd h0 (q_Q F B h0 r) i ls st h := by
  intro H locs cells slots rls hR hS hL hc hs
  have h9 := Bool.and_eq_true_iff.mp (show (decide (decode cc pc0 = .ok (ins, len)) && q_ok51 T mt oi cc ret ini cd i (51, info, c0, pc0, ins, len)) = true from hok)
  have hd : decode cc pc0 = .ok (ins, len) := of_decide_eq_true h9.1
  replace hok := h9.2
  clear h9
  unfold q_ok51 at hok
  dsimp only at hok
  unfold q_st at hrun
  rw [hcd] at hrun
  replace hrun : (bif Nat.ble (info.getD 1 0) st.length && Nat.ble (q_wd (st.drop (info.getD 1 0))) 8 && Nat.beq (q_wd (st.take (info.getD 1 0))) (info.getD 1 0) && q_rc h.1 st (info.getD 1 0) (info.getD 3 0) then (match (generalizing := false) call (info.getD 0 0) (st.take (info.getD 1 0)).reverse h with
        | none => none
        | some (.inl v, h') => k (i + 1) ls (v.toList ++ st.drop (info.getD 1 0)) h'
        | some (.inr E, h') => some (.inr E, h')) else none) = some r := hrun
  show q_W F B H locs cells slots (q_Q F B h0 r) (q_pc cd i) rls (st.map (q_rv F))
  rw [q_pc_at hcd]
  obtain ⟨hx, hb, hml, hr, hown, hlocks, hini, hwm, hGb, hGk⟩ := id C
  replace hok := Bool.and_eq_true_iff.mp hok
  obtain ⟨h8, hok⟩ := hok
  replace h8 := Bool.and_eq_true_iff.mp h8
  obtain ⟨hn, h7⟩ := h8
  simp only [beq_iff_eq] at h7
  subst h7
  rw [Bool.cond_eq_ite] at hrun
  split at hrun
  rotate_left
  · cases hrun
  rename_i hcond
  simp only [Bool.and_eq_true] at hcond
  obtain ⟨⟨⟨hc1, hc2⟩, hc3⟩, hrc⟩ := hcond
  replace hc1 := Nat.ble_eq.mp hc1
  replace hc2 := Nat.ble_eq.mp hc2
  replace hc3 : q_wd (st.take (info.getD 1 0)) = info.getD 1 0 := Nat.beq_eq.mp hc3
  have hw2 := q_wd_map F (st.drop (info.getD 1 0))
  split at hok
  · cases hok
  rename_i r9 hr9
  have hmo := HM _ _ hr9
  have hal : (st.take (info.getD 1 0)).reverse.length = info.getD 1 0 := by rw [List.length_reverse, List.length_take]; omega
  have haw : q_wd (st.take (info.getD 1 0)).reverse = (st.take (info.getD 1 0)).reverse.length := by rw [q_wd_rev, hal]; exact hc3
  split at hok
  · rename_i n
    simp only [Bool.and_eq_true, beq_iff_eq, decide_eq_true_eq] at hok
    obtain ⟨⟨⟨hk0, hna⟩, hml9⟩, hci⟩ := hok
    obtain ⟨r8, hr8, hlk⟩ := HT.2.2.1 _ hml9
    dsimp only at hr8 hlk
    rw [hr9] at hr8
    cases hr8
    generalize hcall : call (info.getD 0 0) (st.take (info.getD 1 0)).reverse h = rc at hrun
    cases rc with
    | none => cases hrun
    | some x =>
    obtain ⟨o, h1⟩ := x
    obtain ⟨⟨mo1, mo2⟩, hct⟩ := HC _ _ _ _ _ hcall
    have hct := hct r9 hr9 (by rw [hal, if_neg (by rw [hk0]; decide)]; omega) haw
    rw [q_CT, if_neg (by rw [hk0]; decide)] at hct
    have hbd : h1.2.2.2.1 ≤ r.2.2.2.2.1 ∧ h1.2.2.2.2 ≤ r.2.2.2.2.2 := by
      cases o with
      | inl v => exact MO _ _ _ _ hrun
      | inr n => (cases hrun; exact ⟨Nat.le_refl _, Nat.le_refl _⟩)
    have hf1 : cells + (h1.2.2.2.1 - h.2.2.2.1) ≤ B.R.cells := by obtain ⟨-, -, r1, -⟩ := RM; omega
    have hf2 : slots + (h1.2.2.2.2 - h.2.2.2.2) ≤ B.R.slots := by obtain ⟨-, -, -, r2⟩ := RM; omega
    intro T9 hT9 X9
    have hpc := q_pcU (args := (st.take (info.getD 1 0)).reverse) C SZ hR hc hT9 X9
    have hthis : ∃ a As, (st.take (info.getD 1 0)).reverse = .ref a :: As ∧ q_tag h.1 a = info.getD 3 0 := by
      unfold q_rc at hrc
      split at hrc
      · rename_i a ha
        have h9 : info.getD 1 0 - 1 < st.length := (List.getElem?_eq_some_iff.mp ha).1
        have hne : (st.take (info.getD 1 0)).reverse[0]? = some (.ref a) := by
          rw [List.getElem?_reverse (by rw [List.length_take]; omega), List.length_take, List.getElem?_take, Nat.min_eq_left hc1, if_pos (by omega)]
          simpa using ha
        cases hL9 : (st.take (info.getD 1 0)).reverse with
        | nil => rw [hL9] at hne; cases hne
        | cons x As =>
          rw [hL9] at hne
          cases hne
          exact ⟨a, As, rfl, by simpa using hrc⟩
      · cases hrc
    obtain ⟨a, As, hargs, htag⟩ := hthis
    obtain ⟨w, hw, hcls⟩ : ∃ w, vwCl[info.getD 3 0]? = some w ∧ r9.1.cls = w.1 := by
      split at hci
      · rename_i q hq
        exact ⟨q, hq, by simpa using hci⟩
      · cases hci
    have h13 := q_lt13 hw
    obtain ⟨n9, rs9, hz9, -, -⟩ := q_tag_z htag (by omega)
    have hrv := va_recv (q_K E C) hR.1 hw (q_obj (F := F) hz9 (by omega))
    rw [← hcls] at hrv
    have e7 : ((st.take (info.getD 1 0)).reverse.map (q_rv F)) = Value.ref (F.base + a) :: As.map (q_rv F) := by rw [hargs]; rfl
    rw [e7] at hpc
    have hAl : As.length = r9.2.2.2.2.2.2 := by
      have := hal
      rw [hargs, List.length_cons] at this
      omega
    have hstk : st.map (q_rv F) = (As.map (q_rv F)).reverse ++ Value.ref (F.base + a) :: (st.drop (info.getD 1 0)).map (q_rv F) := by
      rw [q_split hc1, e7, List.reverse_cons, List.append_assoc]; rfl
    refine q_callX (a := (Value.ref (F.base + a) :: As.map (q_rv F)).toArray) (o := o) (h1 := h1) C (vx_runV (C := r9.1.cls) ⟨hx, hb, hml, hown, q_words E C⟩ hct ⟨q_callB E C hmo (by rw [hk0]; decide) RM _ _ hlk, q_word E C (hmo.2.2.2.2.2.2.1 hk0).1, q_word E C (hmo.2.2.2.2.2.2.1 hk0).2⟩ ⟨q_blind _ _, hrv, hpc⟩ rfl (by rw [List.length_map]; exact hAl) hL.2.1 hstk (by show 2 * 0 + _ ≤ 8; omega) hd ⟨hf1, hf2⟩) hS (fun v H1 locs1 ho hR1 hS1 => ?_) (fun n q9 ce H1 locs1 ho hR1 hS1 hce hcv hcl => ?_) T9 hT9 X9
    · subst ho
      have kk := kk _ _ _ _ hrun H1 locs1 (cells + (h1.2.2.2.1 - h.2.2.2.1)) (slots + (h1.2.2.2.2 - h.2.2.2.2)) rls hR1 hS1 hL (by omega) (by omega)
      rw [q_nx_of hn, List.map_append] at kk
      have e9 : (v.map (q_rv F)).toList = v.toList.map (q_rv F) := by cases v <;> rfl
      rw [e9]
      exact kk
    · subst ho
      cases hrun
      show vx_W _ _ _ _ _ _ _ _ _ _ H1 locs1 _ _ (vx_MQ _ _ _ _ _ (h1.2.2.2.1 - h0.2.2.2.1) (h1.2.2.2.2 - h0.2.2.2.2) _) _ _
      exact vx_out (E := q_exn n) (by rw [TAB]; intro x hx; cases hx) hlocks hce hcv hcl (fun t ht _ => ⟨n, rfl, rfl, by rw [ht]; exact hR1⟩) hS1.2.2 (by omega) (by omega)
  · cases hok
theorem m_52 (E : q_E F X sk) (HT : q_T T mt sk) (C : q_B F B (q_cn oi) cc nL ret ini) (RM : q_Rm B h0 (d + 1) r) (MO : q_Mo k r) (SZ : B.s.heap.size ≤ F.base + h0.2.2.2.1) (HC : q_HC F mt d call) (HM : ∀ (mi : Nat) (r9 : Mr), mt[mi]? = some r9 → q_mo r9) (hcd : cd[i]? = some (52, info, c0, pc0, ins, len)) (hok : q_ok T mt oi cc ret ini cd i (52, info, c0, pc0, ins, len) = true)
    (hrun : q_st X sb cd call k i ls st h = some r) (kk : ∀ i' ls' st' h', k i' ls' st' h' = some r → q_J F B nL cd h0 (q_Q F B h0 r) i' ls' st' h') : q_J F B nL cd h0 (q_Q F B h0 r) i ls st h := by
  intro H locs cells slots rls hR hS hL hc hs
  have h9 := Bool.and_eq_true_iff.mp (show (decide (decode cc pc0 = .ok (ins, len)) && q_ok52 T mt oi cc ret ini cd i (52, info, c0, pc0, ins, len)) = true from hok)
  have hd : decode cc pc0 = .ok (ins, len) := of_decide_eq_true h9.1
  replace hok := h9.2
  clear h9
  unfold q_ok52 at hok
  dsimp only at hok
  unfold q_st at hrun
  rw [hcd] at hrun
  replace hrun : (bif Nat.ble (info.getD 1 0) st.length && Nat.ble (q_wd (st.drop (info.getD 1 0))) 8 && Nat.beq (q_wd (st.take (info.getD 1 0))) (info.getD 1 0) && q_sp (st.take (info.getD 1 0)).reverse then (match (generalizing := false) call (info.getD 0 0) (st.take (info.getD 1 0)).reverse h with
        | none => none
        | some (.inl v, h') => k (i + 1) ls (v.toList ++ st.drop (info.getD 1 0)) h'
        | some (.inr E, h') => none) else none) = some r := hrun
  show q_W F B H locs cells slots (q_Q F B h0 r) (q_pc cd i) rls (st.map (q_rv F))
  rw [q_pc_at hcd]
  obtain ⟨hx, hb, hml, hr, hown, hlocks, hini, hwm, hGb, hGk⟩ := id C
  replace hok := Bool.and_eq_true_iff.mp hok
  obtain ⟨h8, hok⟩ := hok
  replace h8 := Bool.and_eq_true_iff.mp h8
  obtain ⟨hn, h7⟩ := h8
  simp only [beq_iff_eq] at h7
  subst h7
  rw [Bool.cond_eq_ite] at hrun
  split at hrun
  rotate_left
  · cases hrun
  rename_i hcond
  simp only [Bool.and_eq_true] at hcond
  obtain ⟨⟨⟨hc1, hc2⟩, hc3⟩, hrc⟩ := hcond
  replace hc1 := Nat.ble_eq.mp hc1
  replace hc2 := Nat.ble_eq.mp hc2
  replace hc3 : q_wd (st.take (info.getD 1 0)) = info.getD 1 0 := Nat.beq_eq.mp hc3
  have hw2 := q_wd_map F (st.drop (info.getD 1 0))
  split at hok
  · cases hok
  rename_i r9 hr9
  have hmo := HM _ _ hr9
  have hal : (st.take (info.getD 1 0)).reverse.length = info.getD 1 0 := by rw [List.length_reverse, List.length_take]; omega
  have haw : q_wd (st.take (info.getD 1 0)).reverse = (st.take (info.getD 1 0)).reverse.length := by rw [q_wd_rev, hal]; exact hc3
  split at hok
  · rename_i n
    simp only [Bool.and_eq_true, beq_iff_eq] at hok
    obtain ⟨⟨hk0, hna⟩, hml9⟩ := hok
    generalize hcall : call (info.getD 0 0) (st.take (info.getD 1 0)).reverse h = rc at hrun
    cases rc with
    | none => cases hrun
    | some x =>
    obtain ⟨o, h1⟩ := x
    obtain ⟨⟨mo1, mo2⟩, hct⟩ := HC _ _ _ _ _ hcall
    have hct := hct r9 hr9 (by rw [hal, if_neg (by rw [hk0]; decide)]; omega) haw
    rw [q_CT, if_neg (by rw [hk0]; decide)] at hct
    have hbd : h1.2.2.2.1 ≤ r.2.2.2.2.1 ∧ h1.2.2.2.2 ≤ r.2.2.2.2.2 := by
      cases o with
      | inl v => exact MO _ _ _ _ hrun
      | inr n => cases hrun
    have hf1 : cells + (h1.2.2.2.1 - h.2.2.2.1) ≤ B.R.cells := by obtain ⟨-, -, r1, -⟩ := RM; omega
    have hf2 : slots + (h1.2.2.2.2 - h.2.2.2.2) ≤ B.R.slots := by obtain ⟨-, -, -, r2⟩ := RM; omega
    intro T9 hT9 X9
    have hpc := q_pcU (args := (st.take (info.getD 1 0)).reverse) C SZ hR hc hT9 X9
    have hthis : ∃ a As, (st.take (info.getD 1 0)).reverse = .ref a :: As := by
      cases hL9 : (st.take (info.getD 1 0)).reverse with
      | nil => rw [hL9] at hrc; exact absurd (show false = true from hrc) (by decide)
      | cons x As =>
        rw [hL9] at hrc
        cases x with
        | ref a => exact ⟨a, As, rfl⟩
        | _ => exact absurd (show false = true from hrc) (by decide)
    obtain ⟨a, As, hargs⟩ := hthis
    have e7 : ((st.take (info.getD 1 0)).reverse.map (q_rv F)) = Value.ref (F.base + a) :: As.map (q_rv F) := by rw [hargs]; rfl
    rw [e7] at hpc
    have hAl : As.length = r9.2.2.2.2.2.2 := by
      have := hal
      rw [hargs, List.length_cons] at this
      omega
    have hstk : st.map (q_rv F) = (As.map (q_rv F)).reverse ++ Value.ref (F.base + a) :: (st.drop (info.getD 1 0)).map (q_rv F) := by
      rw [q_split hc1, e7, List.reverse_cons, List.append_assoc]; rfl
    obtain ⟨v9, ho9⟩ : ∃ v, o = .inl v := by
      cases o with
      | inl v => exact ⟨v, rfl⟩
      | inr n => cases hrun
    have hM9 := q_toMet hct (fun En st t hx => by obtain ⟨n, hn, -⟩ := hx; rw [ho9] at hn; cases hn)
    obtain ⟨hnm, hins, hrt⟩ := hmo.2.2.2.2.2.2.2.2 hk0
    rw [hrt] at hM9
    have hrun9 : vx_Run B.p F.l B.e B.R B.s B.m B.args B.below B.meth B.c H locs cells slots (h1.2.2.2.1 - h.2.2.2.1) (h1.2.2.2.2 - h.2.2.2.2) (F0 B.m pc0 rls (st.map (q_rv F))) ((st.drop (info.getD 1 0)).map (q_rv F)) (q_Qc F o h1 (Value.ref (F.base + a) :: As.map (q_rv F)).toArray) (q_XC F o h1) (q_A F) := by
      rw [Bool.or_eq_true, decide_eq_true_eq, decide_eq_true_eq] at hml9
      rcases hml9 with hml9 | hml9
      · obtain ⟨r8, hr8, hlk⟩ := HT.2.2.1 _ hml9
        dsimp only at hr8 hlk
        rw [hr9] at hr8
        cases hr8
        have hcb := q_callB E C hmo (by rw [hk0]; decide) RM (h1.2.2.2.1 - h.2.2.2.1) (h1.2.2.2.2 - h.2.2.2.2) hlk
        rw [hrt] at hcb
        exact q_vxrun (va_runI ⟨hx, hb, hml, hown, q_words E C⟩ hM9 ⟨hcb, hnm, q_word E C hins⟩ ⟨q_blind _ _, hpc⟩ rfl (by rw [List.length_map]; exact hAl) hL.2.1 hstk (by show 2 * 0 + _ ≤ 8; omega) hd ⟨hf1, hf2⟩)
      · obtain ⟨r8, hr8, hlk⟩ := HT.2.2.2.1 _ hml9
        dsimp only at hr8 hlk
        rw [hr9] at hr8
        cases hr8
        have h6 := hmo.2.2.2.2.2.1
        rw [if_neg (by rw [hk0]; decide), hrt] at h6
        have hnw : va_Nw (.methodLinkNest (q_cn oi) n r9.1 "JarCabinet") B.s := va_Nw.warmM hwm (va_Nw.of rfl (E.2.1 _ hlk))
        obtain ⟨f1, f2, -, -⟩ := RM
        have h4 := hmo.2.2.2.1
        exact q_vxrun (va_runIN (host := "JarCabinet") ⟨hx, hb, hml, hown, q_words E C⟩ hM9 ⟨⟨⟨rfl, rfl, by show d + 6 + 1 ≤ _; omega, by show 8 + (r9.2.2.1 + 11) + (60 * d + 120) ≤ _; omega, q_pay E C h6, List.mem_cons_self⟩, q_word E C h6, q_word E C hmo.2.2.2.2.1, hmo.2.1, q_plen hmo, va_Nw.use rfl hnw⟩, hnm, q_word E C hins⟩ ⟨q_blind _ _, hpc⟩ rfl (by rw [List.length_map]; exact hAl) hL.2.1 hstk (by show 2 * 0 + _ ≤ 8; omega) hd ⟨hf1, hf2⟩)
    refine q_callX (a := (Value.ref (F.base + a) :: As.map (q_rv F)).toArray) (o := o) (h1 := h1) C hrun9 hS (fun v H1 locs1 ho hR1 hS1 => ?_) (fun n q9 ce H1 locs1 ho hR1 hS1 hce hcv hcl => ?_) T9 hT9 X9
    · subst ho
      have kk := kk _ _ _ _ hrun H1 locs1 (cells + (h1.2.2.2.1 - h.2.2.2.1)) (slots + (h1.2.2.2.2 - h.2.2.2.2)) rls hR1 hS1 hL (by omega) (by omega)
      rw [q_nx_of hn, List.map_append] at kk
      have e9 : (v.map (q_rv F)).toList = v.toList.map (q_rv F) := by cases v <;> rfl
      rw [e9]
      exact kk
    · subst ho
      cases hrun
  · cases hok
theorem m_53 (E : q_E F X sk) (HT : q_T T mt sk) (C : q_B F B (q_cn oi) cc nL ret ini) (RM : q_Rm B h0 (d + 1) r) (MO : q_Mo k r) (SZ : B.s.heap.size ≤ F.base + h0.2.2.2.1) (HC : q_HC F mt d call) (HM : ∀ (mi : Nat) (r9 : Mr), mt[mi]? = some r9 → q_mo r9) (hcd : cd[i]? = some (53, info, c0, pc0, ins, len)) (hok : q_ok T mt oi cc ret ini cd i (53, info, c0, pc0, ins, len) = true)
    (hrun : q_st X sb cd call k i ls st h = some r) (kk : ∀ i' ls' st' h', k i' ls' st' h' = some r → q_J F B nL cd h0 (q_Q F B h0 r) i' ls' st' h') : q_J F B nL cd h0 (q_Q F B h0 r) i ls st h := by
  intro H locs cells slots rls hR hS hL hc hs
  have h9 := Bool.and_eq_true_iff.mp (show (decide (decode cc pc0 = .ok (ins, len)) && q_ok53 T mt oi cc ret ini cd i (53, info, c0, pc0, ins, len)) = true from hok)
  have hd : decode cc pc0 = .ok (ins, len) := of_decide_eq_true h9.1
  replace hok := h9.2
  clear h9
  unfold q_ok53 at hok
  dsimp only at hok
  unfold q_st at hrun
  rw [hcd] at hrun
  replace hrun : (bif Nat.ble (info.getD 1 0) st.length && Nat.ble (q_wd (st.drop (info.getD 1 0))) 8 && Nat.beq (q_wd (st.take (info.getD 1 0))) (info.getD 1 0) then (match (generalizing := false) call (info.getD 0 0) (st.take (info.getD 1 0)).reverse h with
        | none => none
        | some (.inl v, h') => k (i + 1) ls (v.toList ++ st.drop (info.getD 1 0)) h'
        | some (.inr E, h') => none) else none) = some r := hrun
  show q_W F B H locs cells slots (q_Q F B h0 r) (q_pc cd i) rls (st.map (q_rv F))
  rw [q_pc_at hcd]
  obtain ⟨hx, hb, hml, hr, hown, hlocks, hini, hwm, hGb, hGk⟩ := id C
  replace hok := Bool.and_eq_true_iff.mp hok
  obtain ⟨h8, hok⟩ := hok
  replace h8 := Bool.and_eq_true_iff.mp h8
  obtain ⟨hn, h7⟩ := h8
  simp only [beq_iff_eq] at h7
  subst h7
  rw [Bool.cond_eq_ite] at hrun
  split at hrun
  rotate_left
  · cases hrun
  rename_i hcond
  simp only [Bool.and_eq_true] at hcond
  obtain ⟨⟨hc1, hc2⟩, hc3⟩ := hcond
  replace hc1 := Nat.ble_eq.mp hc1
  replace hc2 := Nat.ble_eq.mp hc2
  replace hc3 : q_wd (st.take (info.getD 1 0)) = info.getD 1 0 := Nat.beq_eq.mp hc3
  have hw2 := q_wd_map F (st.drop (info.getD 1 0))
  split at hok
  · cases hok
  rename_i r9 hr9
  have hmo := HM _ _ hr9
  have hal : (st.take (info.getD 1 0)).reverse.length = info.getD 1 0 := by rw [List.length_reverse, List.length_take]; omega
  have haw : q_wd (st.take (info.getD 1 0)).reverse = (st.take (info.getD 1 0)).reverse.length := by rw [q_wd_rev, hal]; exact hc3
  split at hok
  · rename_i n
    simp only [Bool.and_eq_true, beq_iff_eq, decide_eq_true_eq] at hok
    obtain ⟨⟨hk0, hna⟩, hml9⟩ := hok
    obtain ⟨r8, hr8, hlk⟩ := HT.2.2.1 _ hml9
    dsimp only at hr8 hlk
    rw [hr9] at hr8
    cases hr8
    generalize hcall : call (info.getD 0 0) (st.take (info.getD 1 0)).reverse h = rc at hrun
    cases rc with
    | none => cases hrun
    | some x =>
    obtain ⟨o, h1⟩ := x
    obtain ⟨⟨mo1, mo2⟩, hct⟩ := HC _ _ _ _ _ hcall
    have hct := hct r9 hr9 (by rw [hal, if_pos (Or.inr hk0)]; omega) haw
    rw [q_CT, if_pos hk0] at hct
    have hct := hct (by
      cases o with
      | inl v => exact ⟨v, rfl⟩
      | inr n => cases hrun)
    have h6 := hmo.2.2.2.2.2.1
    rw [if_pos hk0] at h6
    obtain ⟨f1, f2, -, -⟩ := id RM
    have h4 := hmo.2.2.2.1
    have hbd : h1.2.2.2.1 ≤ r.2.2.2.2.1 ∧ h1.2.2.2.2 ≤ r.2.2.2.2.2 := by
      cases o with
      | inl v => exact MO _ _ _ _ hrun
      | inr n => cases hrun
    have hf1 : cells + (h1.2.2.2.1 - h.2.2.2.1) ≤ B.R.cells := by obtain ⟨-, -, r1, -⟩ := RM; omega
    have hf2 : slots + (h1.2.2.2.2 - h.2.2.2.2) ≤ B.R.slots := by obtain ⟨-, -, -, r2⟩ := RM; omega
    intro T9 hT9 X9
    have hpc := q_pcU (args := (st.take (info.getD 1 0)).reverse) C SZ hR hc hT9 X9

    refine q_callX (a := ((st.take (info.getD 1 0)).reverse.map (q_rv F)).toArray) (o := o) (h1 := h1) C (q_vxrun (vx_runSW (hh := r9.2.2.2.2.2.1) ⟨hx, hb, hml, hown, q_words E C⟩ hct ⟨⟨rfl, rfl, by show d + 6 + 1 ≤ _; omega, by show 8 + (r9.2.2.1 + 11) + (60 * d + 120) ≤ _; omega, q_pay E C h6, List.mem_cons_self⟩, q_word E C h6, q_word E C hmo.2.2.2.2.1, hmo.2.1, q_plen hmo, q_word E C hlk, q_word E C (hmo.2.2.2.2.2.2.2.1 (Or.inr hk0))⟩ ⟨q_blind _ _, hpc⟩ rfl (by rw [List.length_map, hal]; exact hna) hL.2.1 (q_split hc1) (by show 2 * 0 + _ ≤ 8; omega) hd ⟨hf1, hf2⟩)) hS (fun v H1 locs1 ho hR1 hS1 => ?_) (fun n q9 ce H1 locs1 ho hR1 hS1 hce hcv hcl => ?_) T9 hT9 X9
    · subst ho
      have kk := kk _ _ _ _ hrun H1 locs1 (cells + (h1.2.2.2.1 - h.2.2.2.1)) (slots + (h1.2.2.2.2 - h.2.2.2.2)) rls hR1 hS1 hL (by omega) (by omega)
      rw [q_nx_of hn, List.map_append] at kk
      have e9 : (v.map (q_rv F)).toList = v.toList.map (q_rv F) := by cases v <;> rfl
      rw [e9]
      exact kk
    · subst ho
      cases hrun
  · cases hok
theorem m_48 (E : q_E F X sk) (HT : q_T T mt sk) (C : q_B F B (q_cn oi) cc nL ret ini) (RM : q_Rm B h0 (d + 1) r) (MO : q_Mo k r) (SZ : B.s.heap.size ≤ F.base + h0.2.2.2.1) (HC : q_HC F mt d call) (HM : ∀ (mi : Nat) (r9 : Mr), mt[mi]? = some r9 → q_mo r9) (HX : ∀ (n q9 : Nat) (ce : Cell) (H1 : Heap) (locs1 : List Loc) (cells slots : Nat) (rls : Array Slot) (rest : List Value) (h1 : Hp), B.s.vm.findClass (q_exn n) = some ce.cls → H1[q9]? = some ce → ce.vm = .none → info.getD (n + 6) 0 ≠ 0 → q_R F h1 H1 → va_S (q_A F) B.s.heap H1 locs1 → q_L F.base F.sa nL rls ls → h0.2.2.2.1 + cells = h1.2.2.2.1 → h0.2.2.2.2 + slots = h1.2.2.2.2 →
      vx_W B.p F.l B.e B.R B.s B.m B.args B.below B.meth B.c H1 locs1 cells slots (q_Q F B h0 (.inl (some (.int (Int32.ofNat (info.getD (n + 6) 0)))), h1)) (F0 B.m pc0 rls rest) q9) (hcd : cd[i]? = some (48, info, c0, pc0, ins, len)) (hok : q_ok T mt oi cc ret ini cd i (48, info, c0, pc0, ins, len) = true)
    (hrun : q_st X sb cd call k i ls st h = some r) (kk : ∀ i' ls' st' h', k i' ls' st' h' = some r → q_J F B nL cd h0 (q_Q F B h0 r) i' ls' st' h') : q_J F B nL cd h0 (q_Q F B h0 r) i ls st h := by
  intro H locs cells slots rls hR hS hL hc hs
  have h9 := Bool.and_eq_true_iff.mp (show (decide (decode cc pc0 = .ok (ins, len)) && q_ok48 T mt oi cc ret ini cd i (48, info, c0, pc0, ins, len)) = true from hok)
  have hd : decode cc pc0 = .ok (ins, len) := of_decide_eq_true h9.1
  replace hok := h9.2
  clear h9
  unfold q_ok48 at hok
  dsimp only at hok
  unfold q_st at hrun
  rw [hcd] at hrun
  replace hrun : (bif Nat.ble (info.getD 1 0) st.length && Nat.ble (q_wd (st.drop (info.getD 1 0))) 8 && Nat.beq (q_wd (st.take (info.getD 1 0))) (info.getD 1 0) && q_rc h.1 st (info.getD 1 0) (info.getD 3 0) then (match (generalizing := false) call (info.getD 0 0) (st.take (info.getD 1 0)).reverse h with
        | none => none
        | some (.inl v, h') => k (i + 1) ls (v.toList ++ st.drop (info.getD 1 0)) h'
        | some (.inr E, h') => bif info.getD (E + 6) 0 == 0 then none else some (.inl (some (.int (Int32.ofNat (info.getD (E + 6) 0)))), h')) else none) = some r := hrun
  show q_W F B H locs cells slots (q_Q F B h0 r) (q_pc cd i) rls (st.map (q_rv F))
  rw [q_pc_at hcd]
  obtain ⟨hx, hb, hml, hr, hown, hlocks, hini, hwm, hGb, hGk⟩ := id C
  replace hok := Bool.and_eq_true_iff.mp hok
  obtain ⟨h8, hok⟩ := hok
  replace h8 := Bool.and_eq_true_iff.mp h8
  obtain ⟨hn, h7⟩ := h8
  simp only [beq_iff_eq] at h7
  subst h7
  rw [Bool.cond_eq_ite] at hrun
  split at hrun
  rotate_left
  · cases hrun
  rename_i hcond
  simp only [Bool.and_eq_true] at hcond
  obtain ⟨⟨⟨hc1, hc2⟩, hc3⟩, hrc⟩ := hcond
  replace hc1 := Nat.ble_eq.mp hc1
  replace hc2 := Nat.ble_eq.mp hc2
  replace hc3 : q_wd (st.take (info.getD 1 0)) = info.getD 1 0 := Nat.beq_eq.mp hc3
  have hw2 := q_wd_map F (st.drop (info.getD 1 0))
  split at hok
  · cases hok
  rename_i r9 hr9
  have hmo := HM _ _ hr9
  have hal : (st.take (info.getD 1 0)).reverse.length = info.getD 1 0 := by rw [List.length_reverse, List.length_take]; omega
  have haw : q_wd (st.take (info.getD 1 0)).reverse = (st.take (info.getD 1 0)).reverse.length := by rw [q_wd_rev, hal]; exact hc3
  split at hok
  · rename_i n
    simp only [Bool.and_eq_true, beq_iff_eq, decide_eq_true_eq] at hok
    obtain ⟨⟨⟨hk0, hna⟩, hml9⟩, hci⟩ := hok
    obtain ⟨r8, hr8, hlk⟩ := HT.2.2.1 _ hml9
    dsimp only at hr8 hlk
    rw [hr9] at hr8
    cases hr8
    generalize hcall : call (info.getD 0 0) (st.take (info.getD 1 0)).reverse h = rc at hrun
    cases rc with
    | none => cases hrun
    | some x =>
    obtain ⟨o, h1⟩ := x
    obtain ⟨⟨mo1, mo2⟩, hct⟩ := HC _ _ _ _ _ hcall
    have hct := hct r9 hr9 (by rw [hal, if_neg (by rw [hk0]; decide)]; omega) haw
    rw [q_CT, if_neg (by rw [hk0]; decide)] at hct
    have hbd : h1.2.2.2.1 ≤ r.2.2.2.2.1 ∧ h1.2.2.2.2 ≤ r.2.2.2.2.2 := by
      cases o with
      | inl v => exact MO _ _ _ _ hrun
      | inr n =>
        simp only [Bool.cond_eq_ite] at hrun
        split at hrun
        · cases hrun
        · cases hrun; exact ⟨Nat.le_refl _, Nat.le_refl _⟩
    have hf1 : cells + (h1.2.2.2.1 - h.2.2.2.1) ≤ B.R.cells := by obtain ⟨-, -, r1, -⟩ := RM; omega
    have hf2 : slots + (h1.2.2.2.2 - h.2.2.2.2) ≤ B.R.slots := by obtain ⟨-, -, -, r2⟩ := RM; omega
    intro T9 hT9 X9
    have hpc := q_pcU (args := (st.take (info.getD 1 0)).reverse) C SZ hR hc hT9 X9
    have hthis : ∃ a As, (st.take (info.getD 1 0)).reverse = .ref a :: As ∧ q_tag h.1 a = info.getD 3 0 := by
      unfold q_rc at hrc
      split at hrc
      · rename_i a ha
        have h9 : info.getD 1 0 - 1 < st.length := (List.getElem?_eq_some_iff.mp ha).1
        have hne : (st.take (info.getD 1 0)).reverse[0]? = some (.ref a) := by
          rw [List.getElem?_reverse (by rw [List.length_take]; omega), List.length_take, List.getElem?_take, Nat.min_eq_left hc1, if_pos (by omega)]
          simpa using ha
        cases hL9 : (st.take (info.getD 1 0)).reverse with
        | nil => rw [hL9] at hne; cases hne
        | cons x As =>
          rw [hL9] at hne
          cases hne
          exact ⟨a, As, rfl, by simpa using hrc⟩
      · cases hrc
    obtain ⟨a, As, hargs, htag⟩ := hthis
    obtain ⟨w, hw, hcls⟩ : ∃ w, vwCl[info.getD 3 0]? = some w ∧ r9.1.cls = w.1 := by
      split at hci
      · rename_i q hq
        exact ⟨q, hq, by simpa using hci⟩
      · cases hci
    have h13 := q_lt13 hw
    obtain ⟨n9, rs9, hz9, -, -⟩ := q_tag_z htag (by omega)
    have hrv := va_recv (q_K E C) hR.1 hw (q_obj (F := F) hz9 (by omega))
    rw [← hcls] at hrv
    have e7 : ((st.take (info.getD 1 0)).reverse.map (q_rv F)) = Value.ref (F.base + a) :: As.map (q_rv F) := by rw [hargs]; rfl
    rw [e7] at hpc
    have hAl : As.length = r9.2.2.2.2.2.2 := by
      have := hal
      rw [hargs, List.length_cons] at this
      omega
    have hstk : st.map (q_rv F) = (As.map (q_rv F)).reverse ++ Value.ref (F.base + a) :: (st.drop (info.getD 1 0)).map (q_rv F) := by
      rw [q_split hc1, e7, List.reverse_cons, List.append_assoc]; rfl
    refine q_callX (a := (Value.ref (F.base + a) :: As.map (q_rv F)).toArray) (o := o) (h1 := h1) C (vx_runV (C := r9.1.cls) ⟨hx, hb, hml, hown, q_words E C⟩ hct ⟨q_callB E C hmo (by rw [hk0]; decide) RM _ _ hlk, q_word E C (hmo.2.2.2.2.2.2.1 hk0).1, q_word E C (hmo.2.2.2.2.2.2.1 hk0).2⟩ ⟨q_blind _ _, hrv, hpc⟩ rfl (by rw [List.length_map]; exact hAl) hL.2.1 hstk (by show 2 * 0 + _ ≤ 8; omega) hd ⟨hf1, hf2⟩) hS (fun v H1 locs1 ho hR1 hS1 => ?_) (fun n q9 ce H1 locs1 ho hR1 hS1 hce hcv hcl => ?_) T9 hT9 X9
    · subst ho
      have kk := kk _ _ _ _ hrun H1 locs1 (cells + (h1.2.2.2.1 - h.2.2.2.1)) (slots + (h1.2.2.2.2 - h.2.2.2.2)) rls hR1 hS1 hL (by omega) (by omega)
      rw [q_nx_of hn, List.map_append] at kk
      have e9 : (v.map (q_rv F)).toList = v.toList.map (q_rv F) := by cases v <;> rfl
      rw [e9]
      exact kk
    · subst ho
      simp only [Bool.cond_eq_ite] at hrun
      split at hrun
      · cases hrun
      rename_i hk9
      cases hrun
      exact HX n q9 ce H1 locs1 _ _ rls _ h1 hcl hce hcv (by simpa using hk9) hR1 hS1 hL (by omega) (by omega)
  · cases hok
theorem m_32 (E : q_E F X sk) (HT : q_T T mt sk) (C : q_B F B (q_cn oi) cc nL ret ini) (hcd : cd[i]? = some (32, info, c0, pc0, ins, len)) (hok : q_ok T mt oi cc ret ini cd i (32, info, c0, pc0, ins, len) = true)
    (hrun : q_st X sb cd call k i ls st h = some r) (kk : ∀ i' ls' st' h', k i' ls' st' h' = some r → q_J F B nL cd h0 Q i' ls' st' h') : q_J F B nL cd h0 Q i ls st h := by
  intro H locs cells slots rls hR hS hL hc hs
  have h9 := Bool.and_eq_true_iff.mp (show (decide (decode cc pc0 = .ok (ins, len)) && q_ok32 T mt oi cc ret ini cd i (32, info, c0, pc0, ins, len)) = true from hok)
  have hd : decode cc pc0 = .ok (ins, len) := of_decide_eq_true h9.1
  replace hok := h9.2
  clear h9
  unfold q_ok32 at hok
  dsimp only at hok
  unfold q_st at hrun
  rw [hcd] at hrun
  replace hrun : (bif Nat.blt (info.getD 0 0) sb.length then k (i + 1) ls (.float (UInt32.ofNat (info.getD 0 0)) :: st) h else none) = some r := hrun
  show q_W F B H locs cells slots Q (q_pc cd i) rls (st.map (q_rv F))
  rw [q_pc_at hcd]
  obtain ⟨hx, hb, hml, hr, hown, hlocks, hini, hwm, hGb, hGk⟩ := id C
  replace hok := Bool.and_eq_true_iff.mp hok
  obtain ⟨h8, hok⟩ := hok
  replace h8 := Bool.and_eq_true_iff.mp h8
  obtain ⟨hn, hbig⟩ := h8
  replace hbig := Nat.blt_eq.mp hbig
  rw [Bool.cond_eq_ite] at hrun
  split at hrun
  · rename_i hlt
    have kk := kk _ _ _ _ hrun H locs cells slots rls hR hS hL hc hs
    rw [q_nx_of hn] at kk
    split at hok
    · rename_i n
      simp only [Bool.and_eq_true, beq_iff_eq, decide_eq_true_eq] at hok
      obtain ⟨rfl, hv⟩ := hok
      obtain ⟨w, hw, h1, h2⟩ := HT.2.2.2.2.2.2.2.1 _ hv
      dsimp only at hw h1 h2
      have hz := vk_R.warm hwm (E.2.2.2.2.2.2.1 _ _ hw)
      rw [h1, h2] at hz
      have e9 : q_rv F (.float (UInt32.ofNat (info.getD 0 0))) = .ref (F.sa (info.getD 0 0)) := by
        show Value.ref (F.sa (UInt32.ofNat (info.getD 0 0)).toNat) = _
        rw [UInt32.toNat_ofNat_of_lt' (by show info.getD 0 0 < 4294967296; omega)]
      rw [List.map_cons, e9] at kk
      exact va_ldcS hx hb hown hz hd kk
    · cases hok
  · cases hrun
end Rows4
