/-- what the rows on texts want -/
def q_HS (F : Fx) (B : Bd) (sb : List (List Int32)) (nL : Nat) (T : Tb) : Prop :=
  (∀ (oi : Nat) (n pc : Nat) (cc : ByteArray) (u : UInt32) (H : Heap) (locs : List Loc) (cells slots : Nat) (Q : State → Prop) (rls : Array Slot) (rest : List Value), B.c.code = cc → B.s.vm.findClass (q_cn oi) = some B.m.cls → rls.size = nL → decode cc pc = .ok (.invokevirtual n, 3) → (oi, n, 4) ∈ T.2.2.2.1 → u.toNat < sb.length → (rest.map fun v => v.category).sum ≤ 8 → cells ≤ B.R.cells → slots ≤ B.R.slots → va_S (q_A F) B.s.heap H locs →
    (∀ locs1, va_S (q_A F) B.s.heap H locs1 → q_W F B H locs1 cells slots Q (pc + 3) rls (.int (Int32.ofNat (sb.getD u.toNat []).length) :: rest)) → q_W F B H locs cells slots Q pc rls (.ref (F.sa u.toNat) :: rest)) ∧
  (∀ (oi : Nat) (n pc : Nat) (cc : ByteArray) (u : UInt32) (j : Int32) (H : Heap) (locs : List Loc) (cells slots : Nat) (Q : State → Prop) (rls : Array Slot) (rest : List Value), B.c.code = cc → B.s.vm.findClass (q_cn oi) = some B.m.cls → rls.size = nL → decode cc pc = .ok (.invokevirtual n, 3) → (oi, n, 5) ∈ T.2.2.2.1 → u.toNat < sb.length → ¬ q_out j (sb.getD u.toNat []).length → (rest.map fun v => v.category).sum ≤ 8 → cells ≤ B.R.cells → slots ≤ B.R.slots → va_S (q_A F) B.s.heap H locs →
    (∀ locs1, va_S (q_A F) B.s.heap H locs1 → q_W F B H locs1 cells slots Q (pc + 3) rls (.int ((sb.getD u.toNat []).getD j.toNatClampNeg 0) :: rest)) → q_W F B H locs cells slots Q pc rls (.int j :: .ref (F.sa u.toNat) :: rest))
/-! ===== A BODY: what the small machine does with it, the large one does ===== -/
section Body
variable {F : Fx} {B : Bd} {oi : Nat} {cc : ByteArray} {nL : Nat} {ret : Option FieldType} {ini : Bool} {X : Sx} {sk : List (String × Nat × String)} {T : Tb} {mt : List Mr} {d : Nat}
variable {sb : List (List Int32)} {cd : List En} {call : Nat → List Value → Hp → Rs} {k : Nat → Lc → List Value → Hp → Rs} {i : Nat} {ls : Lc} {st : List Value} {h h0 : Hp} {r : Ou × Hp} {Q : State → Prop} {info : List Nat} {c0 : Int32} {pc0 : Nat} {ins : Instr} {len : Nat}
theorem q_st_big {op : Nat} (ho : 54 ≤ op) (hcd : cd[i]? = some (op, info, c0, pc0, ins, len)) : q_st X sb cd call k i ls st h = none := by
  unfold q_st
  rw [hcd]
  dsimp only
  split <;> first | rfl | (exfalso; omega)
/-- where a call within a try may throw: its handler keeps the exception and answers a number -/
def q_HK (B : Bd) (own : String) (cc : ByteArray) (nL : Nat) (info : List Nat) (pc0 : Nat) : Prop := ∀ n : Nat, info.getD (n + 6) 0 ≠ 0 → ∃ (pre : List ExceptionTableEntry) (x : ExceptionTableEntry) (suf : List ExceptionTableEntry) (a al : Nat),
  B.c.exceptionTable.toList = pre ++ x :: suf ∧ (∀ z ∈ pre, covers z pc0 = false ∨ (z.catchType ≠ 0 ∧ ∃ nm : String, (Cond.classLink own z.catchType nm).before B.args B.s = true ∧ va_Nc (q_exn n) nm B.s)) ∧ covers x pc0 = true ∧ x.catchType ≠ 0 ∧
  (Cond.classLink own x.catchType (q_exn n)).before B.args B.s = true ∧ (Cond.castable (q_exn n) (q_exn n)).before B.args B.s = true ∧ a < nL ∧
  ((decode cc x.handlerPc = .ok (.astore a, 2) ∧ al = 2) ∨ ((∃ k : Fin 4, k.val = a ∧ decode cc x.handlerPc = .ok (.astore_n k, 1)) ∧ al = 1)) ∧ decode cc (x.handlerPc + al) = .ok (.iconst (info.getD (n + 6) 0 : Nat), 1) ∧ decode cc (x.handlerPc + al + 1) = .ok (.ireturn, 1)
theorem q_hx (C : q_B F B (q_cn oi) cc nL (some .int) ini) (HK : q_HK B (q_cn oi) cc nL info pc0) : ∀ (n q9 : Nat) (ce : Cell) (H1 : Heap) (locs1 : List Loc) (cells slots : Nat) (rls : Array Slot) (rest : List Value) (h1 : Hp), B.s.vm.findClass (q_exn n) = some ce.cls → H1[q9]? = some ce → ce.vm = .none → info.getD (n + 6) 0 ≠ 0 → q_R F h1 H1 → va_S (q_A F) B.s.heap H1 locs1 → q_L F.base F.sa nL rls ls → h0.2.2.2.1 + cells = h1.2.2.2.1 → h0.2.2.2.2 + slots = h1.2.2.2.2 →
      vx_W B.p F.l B.e B.R B.s B.m B.args B.below B.meth B.c H1 locs1 cells slots (q_Q F B h0 (.inl (some (.int (Int32.ofNat (info.getD (n + 6) 0)))), h1)) (F0 B.m pc0 rls rest) q9 := by
  intro n q9 ce H1 locs1 cells slots rls rest h1 hcl hce hcv hk hR hS hL hc hs
  obtain ⟨pre, x, suf, a, al, e1, e2, e3, e4, e5, e6, ha, e7, e8, e9⟩ := HK n hk
  obtain ⟨hx, hb, hml, hr, hown, hlocks, hini, hwm, hGb, hGk⟩ := id C
  refine vx_catch hown pre x suf e1 e2 e3 e4 e5 e6 hce hcv hcl ?_
  have tl : ∀ rl : Array Slot, q_W F B H1 locs1 cells slots (q_Q F B h0 (.inl (some (.int (Int32.ofNat (info.getD (n + 6) 0)))), h1)) (x.handlerPc + al) rl [] := by
    intro rl
    refine lv_iconst (v := Int32.ofNat (info.getD (n + 6) 0)) hx hb e8 rfl ?_
    have c1 : h1.2.2.2.1 - h0.2.2.2.1 = cells := by omega
    have c2 : h1.2.2.2.2 - h0.2.2.2.2 = slots := by omega
    show W _ _ _ _ _ _ _ _ _ _ H1 locs1 cells slots (vx_MQ _ _ _ _ _ (h1.2.2.2.1 - h0.2.2.2.1) (h1.2.2.2.2 - h0.2.2.2.2) _) _
    rw [c1, c2]
    exact vx_ret (W.iret hx hb hr (fun t ht hw => ⟨some (.int (Int32.ofNat (info.getD (n + 6) 0))), rfl, rfl, State.WarmedH.trans hwm hw, by rw [ht]; exact hR⟩) hS.2.2 e9 hlocks)
  rcases e7 with ⟨e7, rfl⟩ | ⟨⟨k, hk, e7⟩, rfl⟩
  · exact lv_astore hx hb e7 (q_L_has hL) ha rfl (fun ls' _ => tl ls')
  · exact lv_astore_n hx hb e7 hk (q_L_has hL) ha rfl (fun ls' _ => tl ls')
theorem m_39 (E : q_E F X sk) (HT : q_T T mt sk) (C : q_B F B (q_cn oi) cc nL ret ini) (RM : q_Rm B h0 d r) (MO : q_Mo k r) (HS : q_HS F B sb nL T) (hcd : cd[i]? = some (39, info, c0, pc0, ins, len)) (hok : q_ok T mt oi cc ret ini cd i (39, info, c0, pc0, ins, len) = true)
    (hrun : q_st X sb cd call k i ls st h = some r) (kk : ∀ i' ls' st' h', k i' ls' st' h' = some r → q_J F B nL cd h0 Q i' ls' st' h') : q_J F B nL cd h0 Q i ls st h := by
  intro H locs cells slots rls hR hS hL hc hs
  have h9 := Bool.and_eq_true_iff.mp (show (decide (decode cc pc0 = .ok (ins, len)) && q_ok39 T mt oi cc ret ini cd i (39, info, c0, pc0, ins, len)) = true from hok)
  have hd : decode cc pc0 = .ok (ins, len) := of_decide_eq_true h9.1
  replace hok := h9.2
  clear h9
  unfold q_ok39 at hok
  dsimp only at hok
  unfold q_st at hrun
  rw [hcd] at hrun
  replace hrun : (match (generalizing := false) st with
      | .float u :: r => bif Nat.blt u.toNat sb.length && Nat.ble (q_wd r) 8 then k (i + 1) ls (.int (Int32.ofNat (sb.getD u.toNat []).length) :: r) h else none
      | _ => none) = some r := hrun
  show q_W F B H locs cells slots Q (q_pc cd i) rls (st.map (q_rv F))
  rw [q_pc_at hcd]
  obtain ⟨hx, hb, hml, hr, hown, hlocks, hini, hwm, hGb, hGk⟩ := id C
  replace hok := Bool.and_eq_true_iff.mp hok
  obtain ⟨h8, hok⟩ := hok
  replace h8 := Bool.and_eq_true_iff.mp h8
  obtain ⟨hn, h7⟩ := h8
  simp only [beq_iff_eq] at h7
  subst h7
  split at hrun
  · rename_i u rr
    rw [Bool.cond_eq_ite] at hrun
    split at hrun
    · rename_i hcond
      rw [Bool.and_eq_true] at hcond
      obtain ⟨hu, hwd⟩ := hcond
      replace hu := Nat.blt_eq.mp hu
      replace hwd := Nat.ble_eq.mp hwd
      have hw2 := q_wd_map F rr
      split at hok
      · replace hok := of_decide_eq_true hok
        refine HS.1 oi _ _ cc u H locs cells slots Q rls _ hb hown hL.2.1 hd hok hu (Nat.le_trans hw2 hwd) (by obtain ⟨-, -, r1, -⟩ := RM; obtain ⟨m1, -⟩ := MO _ _ _ _ hrun; omega) (by obtain ⟨-, -, -, r2⟩ := RM; obtain ⟨-, m2⟩ := MO _ _ _ _ hrun; omega) hS (fun locs1 hS1 => ?_)
        have kk := kk _ _ _ _ hrun H locs1 cells slots rls hR hS1 hL hc hs
        rw [q_nx_of hn] at kk
        exact kk
      · cases hok
    · cases hrun
  · cases hrun
theorem m_40 (E : q_E F X sk) (HT : q_T T mt sk) (C : q_B F B (q_cn oi) cc nL ret ini) (RM : q_Rm B h0 d r) (MO : q_Mo k r) (HS : q_HS F B sb nL T) (hcd : cd[i]? = some (40, info, c0, pc0, ins, len)) (hok : q_ok T mt oi cc ret ini cd i (40, info, c0, pc0, ins, len) = true)
    (hrun : q_st X sb cd call k i ls st h = some r) (kk : ∀ i' ls' st' h', k i' ls' st' h' = some r → q_J F B nL cd h0 Q i' ls' st' h') : q_J F B nL cd h0 Q i ls st h := by
  intro H locs cells slots rls hR hS hL hc hs
  have h9 := Bool.and_eq_true_iff.mp (show (decide (decode cc pc0 = .ok (ins, len)) && q_ok40 T mt oi cc ret ini cd i (40, info, c0, pc0, ins, len)) = true from hok)
  have hd : decode cc pc0 = .ok (ins, len) := of_decide_eq_true h9.1
  replace hok := h9.2
  clear h9
  unfold q_ok40 at hok
  dsimp only at hok
  unfold q_st at hrun
  rw [hcd] at hrun
  replace hrun : (match (generalizing := false) st with
      | .int j :: .float u :: r => bif Nat.blt u.toNat sb.length && Nat.ble (q_wd r) 8 then (if q_out j (sb.getD u.toNat []).length then none else k (i + 1) ls (.int ((sb.getD u.toNat []).getD j.toNatClampNeg 0) :: r) h) else none
      | _ => none) = some r := hrun
  show q_W F B H locs cells slots Q (q_pc cd i) rls (st.map (q_rv F))
  rw [q_pc_at hcd]
  obtain ⟨hx, hb, hml, hr, hown, hlocks, hini, hwm, hGb, hGk⟩ := id C
  replace hok := Bool.and_eq_true_iff.mp hok
  obtain ⟨h8, hok⟩ := hok
  replace h8 := Bool.and_eq_true_iff.mp h8
  obtain ⟨hn, h7⟩ := h8
  simp only [beq_iff_eq] at h7
  subst h7
  split at hrun
  · rename_i j u rr
    rw [Bool.cond_eq_ite] at hrun
    split at hrun
    · rename_i hcond
      rw [Bool.and_eq_true] at hcond
      obtain ⟨hu, hwd⟩ := hcond
      replace hu := Nat.blt_eq.mp hu
      replace hwd := Nat.ble_eq.mp hwd
      have hw2 := q_wd_map F rr
      split at hrun
      · cases hrun
      rename_i hin
      split at hok
      · replace hok := of_decide_eq_true hok
        refine HS.2 oi _ _ cc u j H locs cells slots Q rls _ hb hown hL.2.1 hd hok hu hin (Nat.le_trans hw2 hwd) (by obtain ⟨-, -, r1, -⟩ := RM; obtain ⟨m1, -⟩ := MO _ _ _ _ hrun; omega) (by obtain ⟨-, -, -, r2⟩ := RM; obtain ⟨-, m2⟩ := MO _ _ _ _ hrun; omega) hS (fun locs1 hS1 => ?_)
        have kk := kk _ _ _ _ hrun H locs1 cells slots rls hR hS1 hL hc hs
        rw [q_nx_of hn] at kk
        exact kk
      · cases hok
    · cases hrun
  · cases hrun
set_option maxHeartbeats 4000000 in
theorem q_body {pg : List (Nat × List En)} (E : q_E F X sk) (HT : q_T T mt sk) (HM : ∀ (mi : Nat) (r9 : Mr), mt[mi]? = some r9 → q_mo r9) (HC : q_HC F mt d (q_call X sb pg d)) (C : q_B F B (q_cn oi) cc nL ret ini) (SZ : B.s.heap.size ≤ F.base + h0.2.2.2.1)
    (TAB : B.c.exceptionTable.toList = [] ∨ ∀ e ∈ cd, e.1 ≠ 33 ∧ e.1 ≠ 35 ∧ e.1 ≠ 51) (OK : ∀ (i : Nat) (e : En), cd[i]? = some e → q_ok T mt oi cc ret ini cd i e = true) (HK : ∀ (i : Nat) (info : List Nat) (c0 : Int32) (pc0 : Nat) (ins : Instr) (len : Nat), cd[i]? = some (48, info, c0, pc0, ins, len) → ret = some .int ∧ q_HK B (q_cn oi) cc nL info pc0)
    (HS : q_HS F B sb nL T) (HN : q_HN F T) : ∀ (n i : Nat) (ls : Lc) (st : List Value) (h : Hp) (r : Ou × Hp), q_ex X sb cd (q_call X sb pg d) n i ls st h = some r → q_Rm B h0 (d + 1) r → q_J F B nL cd h0 (q_Q F B h0 r) i ls st h := by
  intro n
  induction n with
  | zero => intro i ls st h r hr; cases hr
  | succ n ih =>
    intro i ls st h r hrun RM
    have hrun : q_st X sb cd (q_call X sb pg d) (q_ex X sb cd (q_call X sb pg d) n) i ls st h = some r := hrun
    have kk : ∀ i' ls' st' h', q_ex X sb cd (q_call X sb pg d) n i' ls' st' h' = some r → q_J F B nL cd h0 (q_Q F B h0 r) i' ls' st' h' := fun i' ls' st' h' hr => ih i' ls' st' h' r hr RM
    have MO : q_Mo (q_ex X sb cd (q_call X sb pg d) n) r := fun i' ls' st' h' hr => q_ex_mono (q_call_mono d) n _ _ _ _ _ hr
    cases hcd : cd[i]? with
    | none => unfold q_st at hrun; rw [hcd] at hrun; cases hrun
    | some e =>
      have hok := OK i e hcd
      have hmem : e ∈ cd := List.mem_of_getElem? hcd
      obtain ⟨op, info, c0, pc0, ins, len⟩ := e
      by_cases ho : op = 0
      · subst ho; exact m_0 E HT C hcd hok hrun kk
      by_cases ho : op = 1
      · subst ho; exact m_1 E HT C hcd hok hrun kk
      by_cases ho : op = 49
      · subst ho; exact m_49 E HT C hcd hok hrun kk
      by_cases ho : op = 2
      · subst ho; exact m_2 E HT C hcd hok hrun kk
      by_cases ho : op = 50
      · subst ho; exact m_50 E HT C hcd hok hrun kk
      by_cases ho : op = 3
      · subst ho; exact m_3 E HT C hcd hok hrun kk
      by_cases ho : op = 4
      · subst ho; exact m_4 E HT C hcd hok hrun kk
      by_cases ho : op = 5
      · subst ho; exact m_5 E HT C hcd hok hrun kk
      by_cases ho : op = 6
      · subst ho; exact m_6 E HT C hcd hok hrun kk
      by_cases ho : op = 7
      · subst ho; exact m_7 E HT C hcd hok hrun kk
      by_cases ho : op = 8
      · subst ho; exact m_8 E HT C hcd hok hrun kk
      by_cases ho : op = 9
      · subst ho; exact m_9 E HT C hcd hok hrun kk
      by_cases ho : op = 10
      · subst ho; exact m_10 E HT C hcd hok hrun kk
      by_cases ho : op = 11
      · subst ho; exact m_11 E HT C hcd hok hrun kk
      by_cases ho : op = 12
      · subst ho; exact m_12 E HT C hcd hok hrun kk
      by_cases ho : op = 13
      · subst ho; exact m_13 E HT C hcd hok hrun kk
      by_cases ho : op = 14
      · subst ho; exact m_14 E HT C hcd hok hrun kk
      by_cases ho : op = 15
      · subst ho; exact m_15 E HT C hcd hok hrun kk
      by_cases ho : op = 16
      · subst ho; exact m_16 E HT C hcd hok hrun kk
      by_cases ho : op = 17
      · subst ho; exact m_17 E HT C hcd hok hrun kk
      by_cases ho : op = 18
      · subst ho; exact m_18 E HT C hcd hok hrun kk
      by_cases ho : op = 19
      · subst ho; exact m_19 E HT C hcd hok hrun kk
      by_cases ho : op = 20
      · subst ho; exact m_20 E HT C hcd hok hrun kk
      by_cases ho : op = 21
      · subst ho; exact m_21 E HT C hcd hok hrun kk
      by_cases ho : op = 22
      · subst ho; exact m_22 E HT C hcd hok hrun kk
      by_cases ho : op = 23
      · subst ho; exact m_23 E HT C hcd hok hrun kk
      by_cases ho : op = 24
      · subst ho; exact m_24 E HT C hcd hok hrun kk
      by_cases ho : op = 25
      · subst ho; exact m_25 E HT C hcd hok hrun kk
      by_cases ho : op = 26
      · subst ho; exact m_26 E HT C hcd hok hrun kk
      by_cases ho : op = 27
      · subst ho; exact m_27 E HT C hcd hok hrun kk
      by_cases ho : op = 28
      · subst ho; exact m_28 E HT C hcd hok hrun kk
      by_cases ho : op = 32
      · subst ho; exact m_32 E HT C hcd hok hrun kk
      by_cases ho : op = 45
      · subst ho; exact m_45 E HT C hcd hok hrun kk
      by_cases ho : op = 46
      · subst ho; exact m_46 E HT C hcd hok hrun kk
      by_cases ho : op = 47
      · subst ho; exact m_47 E HT C hcd hok hrun kk
      by_cases ho : op = 29
      · subst ho; exact m_29 E HT C RM MO SZ hcd hok hrun kk
      by_cases ho : op = 30
      · subst ho; exact m_30 E HT C RM MO SZ hcd hok hrun kk
      by_cases ho : op = 31
      · subst ho; exact m_31 E HT C RM MO SZ hcd hok hrun kk
      by_cases ho : op = 34
      · subst ho; exact m_34 E HT C RM MO SZ hcd hok hrun kk
      by_cases ho : op = 36
      · subst ho; exact m_36 E HT C RM MO SZ hcd hok hrun kk
      by_cases ho : op = 37
      · subst ho; exact m_37 E HT C RM MO SZ hcd hok hrun kk
      by_cases ho : op = 38
      · subst ho; exact m_38 E HT C RM MO SZ hcd hok hrun kk
      by_cases ho : op = 41
      · subst ho; exact m_41 E HT C RM MO SZ hcd hok hrun kk
      by_cases ho : op = 42
      · subst ho; exact m_42 E HT C hcd hok hrun
      by_cases ho : op = 43
      · subst ho; exact m_43 E HT C hcd hok hrun
      by_cases ho : op = 44
      · subst ho; exact m_44 E HT C hcd hok hrun
      by_cases ho : op = 33
      · subst ho; exact m_33 E HT C RM MO SZ HC HM (by rcases TAB with TAB | TAB; exact TAB; exact absurd rfl (TAB _ hmem).1) hcd hok hrun kk
      by_cases ho : op = 51
      · subst ho; exact m_51 E HT C RM MO SZ HC HM (by rcases TAB with TAB | TAB; exact TAB; exact absurd rfl (TAB _ hmem).2.2) hcd hok hrun kk
      by_cases ho : op = 52
      · subst ho; exact m_52 E HT C RM MO SZ HC HM hcd hok hrun kk
      by_cases ho : op = 53
      · subst ho; exact m_53 E HT C RM MO SZ HC HM hcd hok hrun kk
      by_cases ho : op = 35
      · subst ho; exact m_35 E HT C RM (by rcases TAB with TAB | TAB; exact TAB; exact absurd rfl (TAB _ hmem).2.1) HN hcd hok hrun
      by_cases ho : op = 48
      · subst ho
        obtain ⟨hri, hhk⟩ := HK _ _ _ _ _ _ hcd
        subst hri
        exact m_48 E HT C RM MO SZ HC HM (q_hx C hhk) hcd hok hrun kk
      by_cases ho : op = 39
      · subst ho; exact m_39 E HT C RM MO HS hcd hok hrun kk
      by_cases ho : op = 40
      · subst ho; exact m_40 E HT C RM MO HS hcd hok hrun kk
      rw [q_st_big (by omega) hcd] at hrun
      cases hrun
end Body
