/-! ===== ROWS: a step of the small machine is one of the large one ===== -/
/-- a class's fields as the tables have them -/
def q_cf (ci : Nat) (w : vw_C) : Prop := (∀ x ∈ u_ws w.1 w.2.1 w.2.2, q_lk x) ∧ ∃ ty : Nat → FieldType, (∀ k, k < w.2.2 → parseFieldDescriptor (w.2.1 k).2.2.1 = some (ty k)) ∧ (∀ a, a < w.2.2 → ∀ b, b < w.2.2 → a ≠ b → (w.2.1 a).2.1 ≠ (w.2.1 b).2.1) ∧
  ∀ k, k < w.2.2 → (w.2.1 k).1 = w.1 ∧ (q_isr ci k = true → (w.2.1 k).2.2.2 = true ∧ ∀ a : Nat, narrow (ty k) (.ref a) = .ref a ∧ fits (ty k) (.ref a) = true ∧ defaultValue (ty k) = .null) ∧ (q_isr ci k = false → (w.2.1 k).2.2.2 = false ∧ ty k = if q_isz ci k = true then .boolean else .int)
/-- a word that moves with the tables -/
def q_isn (w : Cond) : Bool := goodWord w || match w with
  | .castable _ _ => true
  | .declares _ => true
  | _ => false
def q_up : List String := ["java/lang/RuntimeException", "java/lang/Exception"]
/-- what a throw wants -/
def q_xf (sk : List (String × Nat × String)) (own : String) (ik is ic E : Nat) : Prop := Bundle.fit (q_exn E) = true ∧ q_lk (.classLink own ik (q_exn E)) ∧ q_lk (.initialized (q_exn E)) ∧ (∃ (sid : Nat) (w : String × Nat × String), sk[sid]? = some w ∧ w.1 = own ∧ w.2.1 = is) ∧ (∀ w ∈ vx_atS own ic (q_exn E) q_up, w ∈ lw_tbl ∧ q_isn w = true) ∧ ∀ w ∈ Cond.classLink own ik (q_exn E) :: Cond.initialized (q_exn E) :: vx_atS own ic (q_exn E) q_up, vx_ot w = true
/-- words of the library that are wanted -/
def q_gw : Prop := (q_lk (.instanceMethod objectInit) ∧ q_lk (.code objectInit ⟨#[0xb1]⟩ 1 none)) ∧
  (q_lk (.initialized "java/lang/Math") ∧ (q_lk (.static Lib.Math.max.name) ∧ q_lk (.code Lib.Math.max.name Lib.Math.max.code 2 (some .int))) ∧ (q_lk (.static Lib.Math.min.name) ∧ q_lk (.code Lib.Math.min.name Lib.Math.min.code 2 (some .int))) ∧ (q_lk (.static Lib.Math.abs.name) ∧ q_lk (.code Lib.Math.abs.name Lib.Math.abs.code 1 (some .int)))) ∧
  (q_lk (.native arraycopyName) ∧ q_lk (.static arraycopyName) ∧ q_lk (.initialized "java/lang/System")) ∧
  (q_lk (.arrayClass .int) ∧ q_lk (.arrayClass .byte) ∧ q_lk (.arrayClass .long) ∧ Cond.arrayOver (.object "JarCabinet$Moment") ∈ lw_tbl)
def q_T (T : Tb) (mt : List Mr) (sk : List (String × Nat × String)) : Prop :=
  (∀ ci w, vwCl[ci]? = some w → q_cf ci w) ∧
  (∀ q ∈ T.1, ∃ w, vwCl[q.2.2.1]? = some w ∧ q.2.2.2 < w.2.2 ∧ q_lk (.fieldLink (q_cn q.1) q.2.1 (w.2.1 q.2.2.2).1 (w.2.1 q.2.2.2).2.1 (w.2.1 q.2.2.2).2.2.1)) ∧
  (∀ q ∈ T.2.1, ∃ r, mt[q.2.2]? = some r ∧ q_lk (.methodLink (q_cn q.1) q.2.1 r.1)) ∧
  (∀ q ∈ T.2.2.1, ∃ r, mt[q.2.2]? = some r ∧ (Cond.methodLinkNest (q_cn q.1) q.2.1 r.1 "JarCabinet") ∈ lw_tbl) ∧
  (∀ q ∈ T.2.2.2.1, q_lk (.methodLink (q_cn q.1) q.2.1 (q_xn q.2.2))) ∧
  (∀ q ∈ T.2.2.2.2.1, ∃ w, vwCl[q.2.2]? = some w ∧ q_lk (.classLink (q_cn q.1) q.2.1 w.1) ∧ q_lk (.instantiable w.1 w.2.2) ∧ q_lk (.initialized w.1)) ∧
  (∀ q ∈ T.2.2.2.2.2.1, q_lk (.constant (q_cn q.1) q.2.1 q.2.2)) ∧
  (∀ q ∈ T.2.2.2.2.2.2.1, ∃ w, sk[q.2.2]? = some w ∧ w.1 = q_cn q.1 ∧ w.2.1 = q.2.1) ∧ q_gw ∧ ∀ q ∈ T.2.2.2.2.2.2.2, q.2.2.2.2 = 3 ∨ q_xf sk (q_cn q.1) q.2.1 q.2.2.1 q.2.2.2.1 q.2.2.2.2
section Rows1
variable {F : Fx} {B : Bd} {oi : Nat} {cc : ByteArray} {nL : Nat} {ret : Option FieldType} {ini : Bool} {X : Sx} {sk : List (String × Nat × String)} {T : Tb} {mt : List Mr}
variable {sb : List (List Int32)} {cd : List En} {call : Nat → List Value → Hp → Rs} {k : Nat → Lc → List Value → Hp → Rs} {i : Nat} {ls : Lc} {st : List Value} {h h0 : Hp} {r : Ou × Hp} {Q : State → Prop} {info : List Nat} {c0 : Int32} {pc0 : Nat} {ins : Instr} {len : Nat}
theorem q_pc_at {e : En} (hcd : cd[i]? = some e) : q_pc cd i = e.2.2.2.1 := by simp [q_pc, hcd]
theorem q_nx_of {pc len : Nat} (h : q_nx cd i pc len = true) : q_pc cd (i + 1) = pc + len := by simpa [q_nx] using h
theorem q_tg_of {t pc : Nat} {off : Int} (h : q_tg cd t pc off = true) : (pc : Int) + off = (q_pc cd t : Int) := by simpa [q_tg] using h
theorem m_0 (E : q_E F X sk) (HT : q_T T mt sk) (C : q_B F B (q_cn oi) cc nL ret ini) (hcd : cd[i]? = some (0, info, c0, pc0, ins, len)) (hok : q_ok T mt oi cc ret ini cd i (0, info, c0, pc0, ins, len) = true)
    (hrun : q_st X sb cd call k i ls st h = some r) (kk : ∀ i' ls' st' h', k i' ls' st' h' = some r → q_J F B nL cd h0 Q i' ls' st' h') : q_J F B nL cd h0 Q i ls st h := by
  intro H locs cells slots rls hR hS hL hc hs
  have h9 := Bool.and_eq_true_iff.mp (show (decide (decode cc pc0 = .ok (ins, len)) && q_ok0 T mt oi cc ret ini cd i (0, info, c0, pc0, ins, len)) = true from hok)
  have hd : decode cc pc0 = .ok (ins, len) := of_decide_eq_true h9.1
  replace hok := h9.2
  clear h9
  unfold q_ok0 at hok
  dsimp only at hok
  unfold q_st at hrun
  rw [hcd] at hrun
  replace hrun : (k (i + 1) ls (.int c0 :: st) h) = some r := hrun
  show q_W F B H locs cells slots Q (q_pc cd i) rls (st.map (q_rv F))
  rw [q_pc_at hcd]
  obtain ⟨hx, hb, hml, hr, hown, hlocks, hini, hwm, hGb, hGk⟩ := id C
  replace hok := Bool.and_eq_true_iff.mp hok
  obtain ⟨hn, hok⟩ := hok
  have kk := kk _ _ _ _ hrun H locs cells slots rls hR hS hL hc hs
  rw [q_nx_of hn] at kk
  split at hok
  · simp only [Bool.and_eq_true, beq_iff_eq, decide_eq_true_eq] at hok
    obtain ⟨rfl, hv⟩ := hok
    exact lv_iconst hx hb hd hv kk
  · simp only [Bool.and_eq_true, beq_iff_eq, decide_eq_true_eq] at hok
    obtain ⟨rfl, hv⟩ := hok
    exact lv_bipush hx hb hd hv kk
  · simp only [Bool.and_eq_true, beq_iff_eq, decide_eq_true_eq] at hok
    obtain ⟨rfl, hv⟩ := hok
    exact lv_sipush hx hb hd hv kk
  · simp only [Bool.and_eq_true, beq_iff_eq, decide_eq_true_eq] at hok
    obtain ⟨rfl, hv⟩ := hok
    exact lv_ldc hx hb hown (q_word E C (HT.2.2.2.2.2.2.1 _ hv)) hd kk
  · simp only [Bool.and_eq_true, beq_iff_eq, decide_eq_true_eq] at hok
    obtain ⟨rfl, hv⟩ := hok
    exact lv_ldcw hx hb hown (q_word E C (HT.2.2.2.2.2.2.1 _ hv)) hd kk
  · cases hok
theorem m_1 (E : q_E F X sk) (HT : q_T T mt sk) (C : q_B F B (q_cn oi) cc nL ret ini) (hcd : cd[i]? = some (1, info, c0, pc0, ins, len)) (hok : q_ok T mt oi cc ret ini cd i (1, info, c0, pc0, ins, len) = true)
    (hrun : q_st X sb cd call k i ls st h = some r) (kk : ∀ i' ls' st' h', k i' ls' st' h' = some r → q_J F B nL cd h0 Q i' ls' st' h') : q_J F B nL cd h0 Q i ls st h := by
  intro H locs cells slots rls hR hS hL hc hs
  have h9 := Bool.and_eq_true_iff.mp (show (decide (decode cc pc0 = .ok (ins, len)) && q_ok1 T mt oi cc ret ini cd i (1, info, c0, pc0, ins, len)) = true from hok)
  have hd : decode cc pc0 = .ok (ins, len) := of_decide_eq_true h9.1
  replace hok := h9.2
  clear h9
  unfold q_ok1 at hok
  dsimp only at hok
  unfold q_st at hrun
  rw [hcd] at hrun
  replace hrun : (match (generalizing := false) ls[info.getD 0 0]? with
      | some (some (.int x)) => k (i + 1) ls (.int x :: st) h
      | _ => none) = some r := hrun
  show q_W F B H locs cells slots Q (q_pc cd i) rls (st.map (q_rv F))
  rw [q_pc_at hcd]
  obtain ⟨hx, hb, hml, hr, hown, hlocks, hini, hwm, hGb, hGk⟩ := id C
  replace hok := Bool.and_eq_true_iff.mp hok
  obtain ⟨hn, hok⟩ := hok
  split at hrun
  · rename_i x hx1
    have kk := kk _ _ _ _ hrun H locs cells slots rls hR hS hL hc hs
    rw [q_nx_of hn] at kk
    have hv : rls[info.getD 0 0]? = some (Slot.val (.int x)) := (hL.2.2.2 _ _ hx1).2
    split at hok
    · simp only [Bool.and_eq_true, beq_iff_eq] at hok
      obtain ⟨rfl, hn2⟩ := hok
      rw [← hn2] at hv
      exact lv_iload hx hb hd hv kk
    · simp only [Bool.and_eq_true, beq_iff_eq] at hok
      obtain ⟨rfl, hn2⟩ := hok
      exact lv_iload_n hx hb hd hn2 hv kk
    · cases hok
  · cases hrun
theorem m_49 (E : q_E F X sk) (HT : q_T T mt sk) (C : q_B F B (q_cn oi) cc nL ret ini) (hcd : cd[i]? = some (49, info, c0, pc0, ins, len)) (hok : q_ok T mt oi cc ret ini cd i (49, info, c0, pc0, ins, len) = true)
    (hrun : q_st X sb cd call k i ls st h = some r) (kk : ∀ i' ls' st' h', k i' ls' st' h' = some r → q_J F B nL cd h0 Q i' ls' st' h') : q_J F B nL cd h0 Q i ls st h := by
  intro H locs cells slots rls hR hS hL hc hs
  have h9 := Bool.and_eq_true_iff.mp (show (decide (decode cc pc0 = .ok (ins, len)) && q_ok49 T mt oi cc ret ini cd i (49, info, c0, pc0, ins, len)) = true from hok)
  have hd : decode cc pc0 = .ok (ins, len) := of_decide_eq_true h9.1
  replace hok := h9.2
  clear h9
  unfold q_ok49 at hok
  dsimp only at hok
  unfold q_st at hrun
  rw [hcd] at hrun
  replace hrun : (match (generalizing := false) ls[info.getD 0 0]? with
      | some (some (.ref a)) => k (i + 1) ls (.ref a :: st) h
      | some (some (.float u)) => k (i + 1) ls (.float u :: st) h
      | _ => none) = some r := hrun
  show q_W F B H locs cells slots Q (q_pc cd i) rls (st.map (q_rv F))
  rw [q_pc_at hcd]
  obtain ⟨hx, hb, hml, hr, hown, hlocks, hini, hwm, hGb, hGk⟩ := id C
  replace hok := Bool.and_eq_true_iff.mp hok
  obtain ⟨hn, hok⟩ := hok
  split at hrun
  · rename_i a hx1
    have kk := kk _ _ _ _ hrun H locs cells slots rls hR hS hL hc hs
    rw [q_nx_of hn] at kk
    have hv : rls[info.getD 0 0]? = some (Slot.val (.ref (F.base + a))) := (hL.2.2.2 _ _ hx1).2
    split at hok
    · simp only [Bool.and_eq_true, beq_iff_eq] at hok
      obtain ⟨rfl, hn2⟩ := hok
      rw [← hn2] at hv
      exact lv_aload hx hb hd hv kk
    · simp only [Bool.and_eq_true, beq_iff_eq] at hok
      obtain ⟨rfl, hn2⟩ := hok
      exact lv_aload_n hx hb hd hn2 hv kk
    · cases hok
  · rename_i u hx1
    have kk := kk _ _ _ _ hrun H locs cells slots rls hR hS hL hc hs
    rw [q_nx_of hn] at kk
    have hv : rls[info.getD 0 0]? = some (Slot.val (.ref (F.sa u.toNat))) := (hL.2.2.2 _ _ hx1).2
    split at hok
    · simp only [Bool.and_eq_true, beq_iff_eq] at hok
      obtain ⟨rfl, hn2⟩ := hok
      rw [← hn2] at hv
      exact lv_aload hx hb hd hv kk
    · simp only [Bool.and_eq_true, beq_iff_eq] at hok
      obtain ⟨rfl, hn2⟩ := hok
      exact lv_aload_n hx hb hd hn2 hv kk
    · cases hok
  · cases hrun
theorem m_2 (E : q_E F X sk) (HT : q_T T mt sk) (C : q_B F B (q_cn oi) cc nL ret ini) (hcd : cd[i]? = some (2, info, c0, pc0, ins, len)) (hok : q_ok T mt oi cc ret ini cd i (2, info, c0, pc0, ins, len) = true)
    (hrun : q_st X sb cd call k i ls st h = some r) (kk : ∀ i' ls' st' h', k i' ls' st' h' = some r → q_J F B nL cd h0 Q i' ls' st' h') : q_J F B nL cd h0 Q i ls st h := by
  intro H locs cells slots rls hR hS hL hc hs
  have h9 := Bool.and_eq_true_iff.mp (show (decide (decode cc pc0 = .ok (ins, len)) && q_ok2 T mt oi cc ret ini cd i (2, info, c0, pc0, ins, len)) = true from hok)
  have hd : decode cc pc0 = .ok (ins, len) := of_decide_eq_true h9.1
  replace hok := h9.2
  clear h9
  unfold q_ok2 at hok
  dsimp only at hok
  unfold q_st at hrun
  rw [hcd] at hrun
  replace hrun : (match (generalizing := false) st with
      | .int x :: r => bif Nat.blt (info.getD 0 0) ls.length then k (i + 1) (ls.set (info.getD 0 0) (some (.int x))) r h else none
      | _ => none) = some r := hrun
  show q_W F B H locs cells slots Q (q_pc cd i) rls (st.map (q_rv F))
  rw [q_pc_at hcd]
  obtain ⟨hx, hb, hml, hr, hown, hlocks, hini, hwm, hGb, hGk⟩ := id C
  replace hok := Bool.and_eq_true_iff.mp hok
  obtain ⟨hn, hok⟩ := hok
  split at hrun
  · rename_i x rr
    rw [Bool.cond_eq_ite] at hrun
    split at hrun
    · rename_i hlt
      have hlt : info.getD 0 0 < nL := by rw [← hL.1]; exact Nat.blt_eq.mp hlt
      split at hok
      · simp only [Bool.and_eq_true, beq_iff_eq] at hok
        obtain ⟨rfl, hn2⟩ := hok
        rw [← hn2] at hlt hrun
        exact lv_istore hx hb hd (q_L_has hL) hlt rfl (fun ls' hl' => by
          have kk := kk _ _ _ _ hrun H locs cells slots ls' hR hS (q_L_store (v := .int x) hL rfl hl') hc hs
          rw [q_nx_of hn] at kk
          exact kk)
      · simp only [Bool.and_eq_true, beq_iff_eq] at hok
        obtain ⟨rfl, hn2⟩ := hok
        exact lv_istore_n hx hb hd hn2 (q_L_has hL) hlt rfl (fun ls' hl' => by
          have kk := kk _ _ _ _ hrun H locs cells slots ls' hR hS (q_L_store (v := .int x) hL rfl hl') hc hs
          rw [q_nx_of hn] at kk
          exact kk)
      · cases hok
    · cases hrun
  · cases hrun
theorem m_50 (E : q_E F X sk) (HT : q_T T mt sk) (C : q_B F B (q_cn oi) cc nL ret ini) (hcd : cd[i]? = some (50, info, c0, pc0, ins, len)) (hok : q_ok T mt oi cc ret ini cd i (50, info, c0, pc0, ins, len) = true)
    (hrun : q_st X sb cd call k i ls st h = some r) (kk : ∀ i' ls' st' h', k i' ls' st' h' = some r → q_J F B nL cd h0 Q i' ls' st' h') : q_J F B nL cd h0 Q i ls st h := by
  intro H locs cells slots rls hR hS hL hc hs
  have h9 := Bool.and_eq_true_iff.mp (show (decide (decode cc pc0 = .ok (ins, len)) && q_ok50 T mt oi cc ret ini cd i (50, info, c0, pc0, ins, len)) = true from hok)
  have hd : decode cc pc0 = .ok (ins, len) := of_decide_eq_true h9.1
  replace hok := h9.2
  clear h9
  unfold q_ok50 at hok
  dsimp only at hok
  unfold q_st at hrun
  rw [hcd] at hrun
  replace hrun : (match (generalizing := false) st with
      | .ref a :: r => bif Nat.blt (info.getD 0 0) ls.length then k (i + 1) (ls.set (info.getD 0 0) (some (.ref a))) r h else none
      | _ => none) = some r := hrun
  show q_W F B H locs cells slots Q (q_pc cd i) rls (st.map (q_rv F))
  rw [q_pc_at hcd]
  obtain ⟨hx, hb, hml, hr, hown, hlocks, hini, hwm, hGb, hGk⟩ := id C
  replace hok := Bool.and_eq_true_iff.mp hok
  obtain ⟨hn, hok⟩ := hok
  split at hrun
  · rename_i a rr
    rw [Bool.cond_eq_ite] at hrun
    split at hrun
    · rename_i hlt
      have hlt : info.getD 0 0 < nL := by rw [← hL.1]; exact Nat.blt_eq.mp hlt
      split at hok
      · simp only [Bool.and_eq_true, beq_iff_eq] at hok
        obtain ⟨rfl, hn2⟩ := hok
        rw [← hn2] at hlt hrun
        exact lv_astore hx hb hd (q_L_has hL) hlt rfl (fun ls' hl' => by
          have kk := kk _ _ _ _ hrun H locs cells slots ls' hR hS (q_L_store (v := .ref a) hL rfl hl') hc hs
          rw [q_nx_of hn] at kk
          exact kk)
      · simp only [Bool.and_eq_true, beq_iff_eq] at hok
        obtain ⟨rfl, hn2⟩ := hok
        exact lv_astore_n hx hb hd hn2 (q_L_has hL) hlt rfl (fun ls' hl' => by
          have kk := kk _ _ _ _ hrun H locs cells slots ls' hR hS (q_L_store (v := .ref a) hL rfl hl') hc hs
          rw [q_nx_of hn] at kk
          exact kk)
      · cases hok
    · cases hrun
  · cases hrun
theorem m_3 (E : q_E F X sk) (HT : q_T T mt sk) (C : q_B F B (q_cn oi) cc nL ret ini) (hcd : cd[i]? = some (3, info, c0, pc0, ins, len)) (hok : q_ok T mt oi cc ret ini cd i (3, info, c0, pc0, ins, len) = true)
    (hrun : q_st X sb cd call k i ls st h = some r) (kk : ∀ i' ls' st' h', k i' ls' st' h' = some r → q_J F B nL cd h0 Q i' ls' st' h') : q_J F B nL cd h0 Q i ls st h := by
  intro H locs cells slots rls hR hS hL hc hs
  have h9 := Bool.and_eq_true_iff.mp (show (decide (decode cc pc0 = .ok (ins, len)) && q_ok3 T mt oi cc ret ini cd i (3, info, c0, pc0, ins, len)) = true from hok)
  have hd : decode cc pc0 = .ok (ins, len) := of_decide_eq_true h9.1
  replace hok := h9.2
  clear h9
  unfold q_ok3 at hok
  dsimp only at hok
  unfold q_st at hrun
  rw [hcd] at hrun
  replace hrun : (match (generalizing := false) ls[info.getD 0 0]? with
      | some (some (.int x)) => k (i + 1) (ls.set (info.getD 0 0) (some (.int (x + c0)))) st h
      | _ => none) = some r := hrun
  show q_W F B H locs cells slots Q (q_pc cd i) rls (st.map (q_rv F))
  rw [q_pc_at hcd]
  obtain ⟨hx, hb, hml, hr, hown, hlocks, hini, hwm, hGb, hGk⟩ := id C
  replace hok := Bool.and_eq_true_iff.mp hok
  obtain ⟨hn, hok⟩ := hok
  split at hrun
  · rename_i x hx1
    split at hok
    · simp only [Bool.and_eq_true, beq_iff_eq, decide_eq_true_eq] at hok
      obtain ⟨⟨rfl, hn2⟩, hv⟩ := hok
      have hlt : info.getD 0 0 < nL := by rw [← hL.1]; exact (List.getElem?_eq_some_iff.mp hx1).1
      have hm : (info.getD 0 0, Value.int x) ∈ q_as F.base F.sa ls := q_as_in.mpr ⟨.int x, hx1, rfl⟩
      obtain ⟨kx, hkx⟩ := List.getElem?_of_mem hm
      rw [← hn2] at hlt hrun hkx
      exact lv_iinc hx hb hd (q_L_has hL) hkx (by rw [hv]) hlt rfl (fun ls' hl' => by
        have kk := kk _ _ _ _ hrun H locs cells slots ls' hR hS (q_L_store (v := .int (x + c0)) hL rfl hl') hc hs
        rw [q_nx_of hn] at kk
        exact kk)
    · cases hok
  · cases hrun
theorem m_4 (E : q_E F X sk) (HT : q_T T mt sk) (C : q_B F B (q_cn oi) cc nL ret ini) (hcd : cd[i]? = some (4, info, c0, pc0, ins, len)) (hok : q_ok T mt oi cc ret ini cd i (4, info, c0, pc0, ins, len) = true)
    (hrun : q_st X sb cd call k i ls st h = some r) (kk : ∀ i' ls' st' h', k i' ls' st' h' = some r → q_J F B nL cd h0 Q i' ls' st' h') : q_J F B nL cd h0 Q i ls st h := by
  intro H locs cells slots rls hR hS hL hc hs
  have h9 := Bool.and_eq_true_iff.mp (show (decide (decode cc pc0 = .ok (ins, len)) && q_ok4 T mt oi cc ret ini cd i (4, info, c0, pc0, ins, len)) = true from hok)
  have hd : decode cc pc0 = .ok (ins, len) := of_decide_eq_true h9.1
  replace hok := h9.2
  clear h9
  unfold q_ok4 at hok
  dsimp only at hok
  unfold q_st at hrun
  rw [hcd] at hrun
  replace hrun : (match (generalizing := false) st with
      | .int y :: .int x :: r => k (i + 1) ls (.int (q_ar (info.getD 0 0) x y) :: r) h
      | _ => none) = some r := hrun
  show q_W F B H locs cells slots Q (q_pc cd i) rls (st.map (q_rv F))
  rw [q_pc_at hcd]
  obtain ⟨hx, hb, hml, hr, hown, hlocks, hini, hwm, hGb, hGk⟩ := id C
  replace hok := Bool.and_eq_true_iff.mp hok
  obtain ⟨h8, hok⟩ := hok
  replace h8 := Bool.and_eq_true_iff.mp h8
  obtain ⟨hn, h7⟩ := h8
  simp only [beq_iff_eq] at h7
  subst h7
  split at hrun
  · rename_i y x rr
    have kk := kk _ _ _ _ hrun H locs cells slots rls hR hS hL hc hs
    rw [q_nx_of hn] at kk
    split at hok
    · simp only [beq_iff_eq] at hok
      rw [hok] at kk
      exact lv_iadd hx hb hd kk
    · simp only [beq_iff_eq] at hok
      rw [hok] at kk
      exact lv_isub hx hb hd kk
    · simp only [beq_iff_eq] at hok
      rw [hok] at kk
      exact lv_imul hx hb hd kk
    · simp only [beq_iff_eq] at hok
      rw [hok] at kk
      exact lv_iand hx hb hd kk
    · simp only [beq_iff_eq] at hok
      rw [hok] at kk
      exact lv_ior hx hb hd kk
    · simp only [beq_iff_eq] at hok
      rw [hok] at kk
      exact lv_ixor hx hb hd kk
    · simp only [beq_iff_eq] at hok
      rw [hok] at kk
      exact lv_ishl hx hb hd kk
    · simp only [beq_iff_eq] at hok
      rw [hok] at kk
      exact lv_ishr hx hb hd kk
    · simp only [beq_iff_eq] at hok
      rw [hok] at kk
      exact lv_iushr hx hb hd rfl kk
    · cases hok
  · cases hrun
theorem m_5 (E : q_E F X sk) (HT : q_T T mt sk) (C : q_B F B (q_cn oi) cc nL ret ini) (hcd : cd[i]? = some (5, info, c0, pc0, ins, len)) (hok : q_ok T mt oi cc ret ini cd i (5, info, c0, pc0, ins, len) = true)
    (hrun : q_st X sb cd call k i ls st h = some r) (kk : ∀ i' ls' st' h', k i' ls' st' h' = some r → q_J F B nL cd h0 Q i' ls' st' h') : q_J F B nL cd h0 Q i ls st h := by
  intro H locs cells slots rls hR hS hL hc hs
  have h9 := Bool.and_eq_true_iff.mp (show (decide (decode cc pc0 = .ok (ins, len)) && q_ok5 T mt oi cc ret ini cd i (5, info, c0, pc0, ins, len)) = true from hok)
  have hd : decode cc pc0 = .ok (ins, len) := of_decide_eq_true h9.1
  replace hok := h9.2
  clear h9
  unfold q_ok5 at hok
  dsimp only at hok
  unfold q_st at hrun
  rw [hcd] at hrun
  replace hrun : (match (generalizing := false) st with
      | .int y :: .int x :: r => if y = 0 then none else k (i + 1) ls (.int (x / y) :: r) h
      | _ => none) = some r := hrun
  show q_W F B H locs cells slots Q (q_pc cd i) rls (st.map (q_rv F))
  rw [q_pc_at hcd]
  obtain ⟨hx, hb, hml, hr, hown, hlocks, hini, hwm, hGb, hGk⟩ := id C
  replace hok := Bool.and_eq_true_iff.mp hok
  obtain ⟨hn, hok⟩ := hok
  replace hok := of_decide_eq_true hok
  cases hok
  split at hrun
  · rename_i y x rr
    split at hrun
    · cases hrun
    · rename_i hy
      have kk := kk _ _ _ _ hrun H locs cells slots rls hR hS hL hc hs
      rw [q_nx_of hn] at kk
      exact lv_idiv hx hb hd hy kk
  · cases hrun
theorem m_6 (E : q_E F X sk) (HT : q_T T mt sk) (C : q_B F B (q_cn oi) cc nL ret ini) (hcd : cd[i]? = some (6, info, c0, pc0, ins, len)) (hok : q_ok T mt oi cc ret ini cd i (6, info, c0, pc0, ins, len) = true)
    (hrun : q_st X sb cd call k i ls st h = some r) (kk : ∀ i' ls' st' h', k i' ls' st' h' = some r → q_J F B nL cd h0 Q i' ls' st' h') : q_J F B nL cd h0 Q i ls st h := by
  intro H locs cells slots rls hR hS hL hc hs
  have h9 := Bool.and_eq_true_iff.mp (show (decide (decode cc pc0 = .ok (ins, len)) && q_ok6 T mt oi cc ret ini cd i (6, info, c0, pc0, ins, len)) = true from hok)
  have hd : decode cc pc0 = .ok (ins, len) := of_decide_eq_true h9.1
  replace hok := h9.2
  clear h9
  unfold q_ok6 at hok
  dsimp only at hok
  unfold q_st at hrun
  rw [hcd] at hrun
  replace hrun : (match (generalizing := false) st with
      | .int y :: .int x :: r => if y = 0 then none else k (i + 1) ls (.int (x - x / y * y) :: r) h
      | _ => none) = some r := hrun
  show q_W F B H locs cells slots Q (q_pc cd i) rls (st.map (q_rv F))
  rw [q_pc_at hcd]
  obtain ⟨hx, hb, hml, hr, hown, hlocks, hini, hwm, hGb, hGk⟩ := id C
  replace hok := Bool.and_eq_true_iff.mp hok
  obtain ⟨hn, hok⟩ := hok
  replace hok := of_decide_eq_true hok
  cases hok
  split at hrun
  · rename_i y x rr
    split at hrun
    · cases hrun
    · rename_i hy
      have kk := kk _ _ _ _ hrun H locs cells slots rls hR hS hL hc hs
      rw [q_nx_of hn] at kk
      exact lv_irem hx hb hd hy kk
  · cases hrun
theorem m_7 (E : q_E F X sk) (HT : q_T T mt sk) (C : q_B F B (q_cn oi) cc nL ret ini) (hcd : cd[i]? = some (7, info, c0, pc0, ins, len)) (hok : q_ok T mt oi cc ret ini cd i (7, info, c0, pc0, ins, len) = true)
    (hrun : q_st X sb cd call k i ls st h = some r) (kk : ∀ i' ls' st' h', k i' ls' st' h' = some r → q_J F B nL cd h0 Q i' ls' st' h') : q_J F B nL cd h0 Q i ls st h := by
  intro H locs cells slots rls hR hS hL hc hs
  have h9 := Bool.and_eq_true_iff.mp (show (decide (decode cc pc0 = .ok (ins, len)) && q_ok7 T mt oi cc ret ini cd i (7, info, c0, pc0, ins, len)) = true from hok)
  have hd : decode cc pc0 = .ok (ins, len) := of_decide_eq_true h9.1
  replace hok := h9.2
  clear h9
  unfold q_ok7 at hok
  dsimp only at hok
  unfold q_st at hrun
  rw [hcd] at hrun
  replace hrun : (match (generalizing := false) st with
      | .int x :: r => k (i + 1) ls (.int (-x) :: r) h
      | _ => none) = some r := hrun
  show q_W F B H locs cells slots Q (q_pc cd i) rls (st.map (q_rv F))
  rw [q_pc_at hcd]
  obtain ⟨hx, hb, hml, hr, hown, hlocks, hini, hwm, hGb, hGk⟩ := id C
  replace hok := Bool.and_eq_true_iff.mp hok
  obtain ⟨hn, hok⟩ := hok
  replace hok := of_decide_eq_true hok
  cases hok
  split at hrun
  · rename_i x rr
    have kk := kk _ _ _ _ hrun H locs cells slots rls hR hS hL hc hs
    rw [q_nx_of hn] at kk
    exact lv_ineg hx hb hd kk
  · cases hrun
theorem m_8 (E : q_E F X sk) (HT : q_T T mt sk) (C : q_B F B (q_cn oi) cc nL ret ini) (hcd : cd[i]? = some (8, info, c0, pc0, ins, len)) (hok : q_ok T mt oi cc ret ini cd i (8, info, c0, pc0, ins, len) = true)
    (hrun : q_st X sb cd call k i ls st h = some r) (kk : ∀ i' ls' st' h', k i' ls' st' h' = some r → q_J F B nL cd h0 Q i' ls' st' h') : q_J F B nL cd h0 Q i ls st h := by
  intro H locs cells slots rls hR hS hL hc hs
  have h9 := Bool.and_eq_true_iff.mp (show (decide (decode cc pc0 = .ok (ins, len)) && q_ok8 T mt oi cc ret ini cd i (8, info, c0, pc0, ins, len)) = true from hok)
  have hd : decode cc pc0 = .ok (ins, len) := of_decide_eq_true h9.1
  replace hok := h9.2
  clear h9
  unfold q_ok8 at hok
  dsimp only at hok
  unfold q_st at hrun
  rw [hcd] at hrun
  replace hrun : (match (generalizing := false) st with
      | .int x :: r => k (i + 1) ls (.int x.toInt8.toInt32 :: r) h
      | _ => none) = some r := hrun
  show q_W F B H locs cells slots Q (q_pc cd i) rls (st.map (q_rv F))
  rw [q_pc_at hcd]
  obtain ⟨hx, hb, hml, hr, hown, hlocks, hini, hwm, hGb, hGk⟩ := id C
  replace hok := Bool.and_eq_true_iff.mp hok
  obtain ⟨hn, hok⟩ := hok
  replace hok := of_decide_eq_true hok
  cases hok
  split at hrun
  · rename_i x rr
    have kk := kk _ _ _ _ hrun H locs cells slots rls hR hS hL hc hs
    rw [q_nx_of hn] at kk
    exact lv_i2b hx hb hd rfl kk
  · cases hrun
theorem m_9 (E : q_E F X sk) (HT : q_T T mt sk) (C : q_B F B (q_cn oi) cc nL ret ini) (hcd : cd[i]? = some (9, info, c0, pc0, ins, len)) (hok : q_ok T mt oi cc ret ini cd i (9, info, c0, pc0, ins, len) = true)
    (hrun : q_st X sb cd call k i ls st h = some r) (kk : ∀ i' ls' st' h', k i' ls' st' h' = some r → q_J F B nL cd h0 Q i' ls' st' h') : q_J F B nL cd h0 Q i ls st h := by
  intro H locs cells slots rls hR hS hL hc hs
  have h9 := Bool.and_eq_true_iff.mp (show (decide (decode cc pc0 = .ok (ins, len)) && q_ok9 T mt oi cc ret ini cd i (9, info, c0, pc0, ins, len)) = true from hok)
  have hd : decode cc pc0 = .ok (ins, len) := of_decide_eq_true h9.1
  replace hok := h9.2
  clear h9
  unfold q_ok9 at hok
  dsimp only at hok
  unfold q_st at hrun
  rw [hcd] at hrun
  replace hrun : (match (generalizing := false) st with
      | .int x :: r => k (i + 1) ls (.long x.toInt64 :: r) h
      | _ => none) = some r := hrun
  show q_W F B H locs cells slots Q (q_pc cd i) rls (st.map (q_rv F))
  rw [q_pc_at hcd]
  obtain ⟨hx, hb, hml, hr, hown, hlocks, hini, hwm, hGb, hGk⟩ := id C
  replace hok := Bool.and_eq_true_iff.mp hok
  obtain ⟨hn, hok⟩ := hok
  replace hok := of_decide_eq_true hok
  cases hok
  split at hrun
  · rename_i x rr
    have kk := kk _ _ _ _ hrun H locs cells slots rls hR hS hL hc hs
    rw [q_nx_of hn] at kk
    exact lv_i2l hx hb hd rfl kk
  · cases hrun
theorem m_10 (E : q_E F X sk) (HT : q_T T mt sk) (C : q_B F B (q_cn oi) cc nL ret ini) (hcd : cd[i]? = some (10, info, c0, pc0, ins, len)) (hok : q_ok T mt oi cc ret ini cd i (10, info, c0, pc0, ins, len) = true)
    (hrun : q_st X sb cd call k i ls st h = some r) (kk : ∀ i' ls' st' h', k i' ls' st' h' = some r → q_J F B nL cd h0 Q i' ls' st' h') : q_J F B nL cd h0 Q i ls st h := by
  intro H locs cells slots rls hR hS hL hc hs
  have h9 := Bool.and_eq_true_iff.mp (show (decide (decode cc pc0 = .ok (ins, len)) && q_ok10 T mt oi cc ret ini cd i (10, info, c0, pc0, ins, len)) = true from hok)
  have hd : decode cc pc0 = .ok (ins, len) := of_decide_eq_true h9.1
  replace hok := h9.2
  clear h9
  unfold q_ok10 at hok
  dsimp only at hok
  unfold q_st at hrun
  rw [hcd] at hrun
  replace hrun : (match (generalizing := false) st with
      | .int x :: r => k (i + 1) ls (.int x :: .int x :: r) h
      | .ref a :: r => k (i + 1) ls (.ref a :: .ref a :: r) h
      | _ => none) = some r := hrun
  show q_W F B H locs cells slots Q (q_pc cd i) rls (st.map (q_rv F))
  rw [q_pc_at hcd]
  obtain ⟨hx, hb, hml, hr, hown, hlocks, hini, hwm, hGb, hGk⟩ := id C
  replace hok := Bool.and_eq_true_iff.mp hok
  obtain ⟨hn, hok⟩ := hok
  replace hok := of_decide_eq_true hok
  cases hok
  split at hrun
  · rename_i x rr
    have kk := kk _ _ _ _ hrun H locs cells slots rls hR hS hL hc hs
    rw [q_nx_of hn] at kk
    exact lv_dup hx hb hd rfl kk
  · rename_i a rr
    have kk := kk _ _ _ _ hrun H locs cells slots rls hR hS hL hc hs
    rw [q_nx_of hn] at kk
    exact lv_dup hx hb hd rfl kk
  · cases hrun
theorem m_11 (E : q_E F X sk) (HT : q_T T mt sk) (C : q_B F B (q_cn oi) cc nL ret ini) (hcd : cd[i]? = some (11, info, c0, pc0, ins, len)) (hok : q_ok T mt oi cc ret ini cd i (11, info, c0, pc0, ins, len) = true)
    (hrun : q_st X sb cd call k i ls st h = some r) (kk : ∀ i' ls' st' h', k i' ls' st' h' = some r → q_J F B nL cd h0 Q i' ls' st' h') : q_J F B nL cd h0 Q i ls st h := by
  intro H locs cells slots rls hR hS hL hc hs
  have h9 := Bool.and_eq_true_iff.mp (show (decide (decode cc pc0 = .ok (ins, len)) && q_ok11 T mt oi cc ret ini cd i (11, info, c0, pc0, ins, len)) = true from hok)
  have hd : decode cc pc0 = .ok (ins, len) := of_decide_eq_true h9.1
  replace hok := h9.2
  clear h9
  unfold q_ok11 at hok
  dsimp only at hok
  unfold q_st at hrun
  rw [hcd] at hrun
  replace hrun : (match (generalizing := false) st with
      | .int x :: .ref a :: r => k (i + 1) ls (.int x :: .ref a :: .int x :: .ref a :: r) h
      | _ => none) = some r := hrun
  show q_W F B H locs cells slots Q (q_pc cd i) rls (st.map (q_rv F))
  rw [q_pc_at hcd]
  obtain ⟨hx, hb, hml, hr, hown, hlocks, hini, hwm, hGb, hGk⟩ := id C
  replace hok := Bool.and_eq_true_iff.mp hok
  obtain ⟨hn, hok⟩ := hok
  replace hok := of_decide_eq_true hok
  cases hok
  split at hrun
  · rename_i x a rr
    have kk := kk _ _ _ _ hrun H locs cells slots rls hR hS hL hc hs
    rw [q_nx_of hn] at kk
    exact lv_dup2_11 hx hb hd rfl rfl kk
  · cases hrun
theorem m_12 (E : q_E F X sk) (HT : q_T T mt sk) (C : q_B F B (q_cn oi) cc nL ret ini) (hcd : cd[i]? = some (12, info, c0, pc0, ins, len)) (hok : q_ok T mt oi cc ret ini cd i (12, info, c0, pc0, ins, len) = true)
    (hrun : q_st X sb cd call k i ls st h = some r) (kk : ∀ i' ls' st' h', k i' ls' st' h' = some r → q_J F B nL cd h0 Q i' ls' st' h') : q_J F B nL cd h0 Q i ls st h := by
  intro H locs cells slots rls hR hS hL hc hs
  have h9 := Bool.and_eq_true_iff.mp (show (decide (decode cc pc0 = .ok (ins, len)) && q_ok12 T mt oi cc ret ini cd i (12, info, c0, pc0, ins, len)) = true from hok)
  have hd : decode cc pc0 = .ok (ins, len) := of_decide_eq_true h9.1
  replace hok := h9.2
  clear h9
  unfold q_ok12 at hok
  dsimp only at hok
  unfold q_st at hrun
  rw [hcd] at hrun
  replace hrun : (match (generalizing := false) st with
      | .int y :: .int x :: r => (match (generalizing := false) info.getD 0 0 with
        | 0 => if x = y then k (info.getD 1 0) ls r h else k (i + 1) ls r h
        | 1 => if x = y then k (i + 1) ls r h else k (info.getD 1 0) ls r h
        | 2 => if x < y then k (info.getD 1 0) ls r h else k (i + 1) ls r h
        | 3 => if x < y then k (i + 1) ls r h else k (info.getD 1 0) ls r h
        | 4 => if y < x then k (info.getD 1 0) ls r h else k (i + 1) ls r h
        | _ => if y < x then k (i + 1) ls r h else k (info.getD 1 0) ls r h)
      | _ => none) = some r := hrun
  show q_W F B H locs cells slots Q (q_pc cd i) rls (st.map (q_rv F))
  rw [q_pc_at hcd]
  obtain ⟨hx, hb, hml, hr, hown, hlocks, hini, hwm, hGb, hGk⟩ := id C
  replace hok := Bool.and_eq_true_iff.mp hok
  obtain ⟨h8, hok⟩ := hok
  replace h8 := Bool.and_eq_true_iff.mp h8
  obtain ⟨hn, h7⟩ := h8
  simp only [beq_iff_eq] at h7
  subst h7
  split at hrun
  · rename_i y x rr
    split at hok
    · rename_i off
      simp only [Bool.and_eq_true, beq_iff_eq] at hok
      obtain ⟨hco, htg⟩ := hok
      have htg := q_tg_of htg
      rw [hco] at hrun
      replace hrun : (if x = y then k (info.getD 1 0) ls rr h else k (i + 1) ls rr h) = some r := hrun
      refine lv_icmp_eq hx hb hd htg (fun ht => ?_) (fun ht => ?_)
      · rw [if_pos ht] at hrun
        exact kk _ _ _ _ hrun H locs cells slots rls hR hS hL hc hs
      · rw [if_neg ht] at hrun
        have kk := kk _ _ _ _ hrun H locs cells slots rls hR hS hL hc hs
        rw [q_nx_of hn] at kk
        exact kk
    · rename_i off
      simp only [Bool.and_eq_true, beq_iff_eq] at hok
      obtain ⟨hco, htg⟩ := hok
      have htg := q_tg_of htg
      rw [hco] at hrun
      replace hrun : (if x = y then k (i + 1) ls rr h else k (info.getD 1 0) ls rr h) = some r := hrun
      refine lv_icmp_ne hx hb hd htg (fun ht => ?_) (fun ht => ?_)
      · rw [if_neg ht] at hrun
        exact kk _ _ _ _ hrun H locs cells slots rls hR hS hL hc hs
      · rw [if_pos ht] at hrun
        have kk := kk _ _ _ _ hrun H locs cells slots rls hR hS hL hc hs
        rw [q_nx_of hn] at kk
        exact kk
    · rename_i off
      simp only [Bool.and_eq_true, beq_iff_eq] at hok
      obtain ⟨hco, htg⟩ := hok
      have htg := q_tg_of htg
      rw [hco] at hrun
      replace hrun : (if x < y then k (info.getD 1 0) ls rr h else k (i + 1) ls rr h) = some r := hrun
      refine lv_icmp_lt hx hb hd htg (fun ht => ?_) (fun ht => ?_)
      · rw [if_pos ht] at hrun
        exact kk _ _ _ _ hrun H locs cells slots rls hR hS hL hc hs
      · rw [if_neg ht] at hrun
        have kk := kk _ _ _ _ hrun H locs cells slots rls hR hS hL hc hs
        rw [q_nx_of hn] at kk
        exact kk
    · rename_i off
      simp only [Bool.and_eq_true, beq_iff_eq] at hok
      obtain ⟨hco, htg⟩ := hok
      have htg := q_tg_of htg
      rw [hco] at hrun
      replace hrun : (if x < y then k (i + 1) ls rr h else k (info.getD 1 0) ls rr h) = some r := hrun
      refine lv_icmp_ge hx hb hd htg (fun ht => ?_) (fun ht => ?_)
      · rw [if_neg (Int32.not_lt.mpr ht)] at hrun
        exact kk _ _ _ _ hrun H locs cells slots rls hR hS hL hc hs
      · rw [if_pos (Int32.not_le.mp ht)] at hrun
        have kk := kk _ _ _ _ hrun H locs cells slots rls hR hS hL hc hs
        rw [q_nx_of hn] at kk
        exact kk
    · rename_i off
      simp only [Bool.and_eq_true, beq_iff_eq] at hok
      obtain ⟨hco, htg⟩ := hok
      have htg := q_tg_of htg
      rw [hco] at hrun
      replace hrun : (if y < x then k (info.getD 1 0) ls rr h else k (i + 1) ls rr h) = some r := hrun
      refine lv_icmp_gt hx hb hd htg (fun ht => ?_) (fun ht => ?_)
      · rw [if_pos ht] at hrun
        exact kk _ _ _ _ hrun H locs cells slots rls hR hS hL hc hs
      · rw [if_neg ht] at hrun
        have kk := kk _ _ _ _ hrun H locs cells slots rls hR hS hL hc hs
        rw [q_nx_of hn] at kk
        exact kk
    · rename_i off
      simp only [Bool.and_eq_true, beq_iff_eq] at hok
      obtain ⟨hco, htg⟩ := hok
      have htg := q_tg_of htg
      rw [hco] at hrun
      replace hrun : (if y < x then k (i + 1) ls rr h else k (info.getD 1 0) ls rr h) = some r := hrun
      refine lv_icmp_le hx hb hd htg (fun ht => ?_) (fun ht => ?_)
      · rw [if_neg (Int32.not_lt.mpr ht)] at hrun
        exact kk _ _ _ _ hrun H locs cells slots rls hR hS hL hc hs
      · rw [if_pos (Int32.not_le.mp ht)] at hrun
        have kk := kk _ _ _ _ hrun H locs cells slots rls hR hS hL hc hs
        rw [q_nx_of hn] at kk
        exact kk
    · cases hok
  · cases hrun
theorem m_13 (E : q_E F X sk) (HT : q_T T mt sk) (C : q_B F B (q_cn oi) cc nL ret ini) (hcd : cd[i]? = some (13, info, c0, pc0, ins, len)) (hok : q_ok T mt oi cc ret ini cd i (13, info, c0, pc0, ins, len) = true)
    (hrun : q_st X sb cd call k i ls st h = some r) (kk : ∀ i' ls' st' h', k i' ls' st' h' = some r → q_J F B nL cd h0 Q i' ls' st' h') : q_J F B nL cd h0 Q i ls st h := by
  intro H locs cells slots rls hR hS hL hc hs
  have h9 := Bool.and_eq_true_iff.mp (show (decide (decode cc pc0 = .ok (ins, len)) && q_ok13 T mt oi cc ret ini cd i (13, info, c0, pc0, ins, len)) = true from hok)
  have hd : decode cc pc0 = .ok (ins, len) := of_decide_eq_true h9.1
  replace hok := h9.2
  clear h9
  unfold q_ok13 at hok
  dsimp only at hok
  unfold q_st at hrun
  rw [hcd] at hrun
  replace hrun : (match (generalizing := false) st with
      | .int x :: r => (match (generalizing := false) info.getD 0 0 with
        | 0 => if x = 0 then k (info.getD 1 0) ls r h else k (i + 1) ls r h
        | 1 => if x = 0 then k (i + 1) ls r h else k (info.getD 1 0) ls r h
        | 2 => if x < 0 then k (info.getD 1 0) ls r h else k (i + 1) ls r h
        | 3 => if x < 0 then k (i + 1) ls r h else k (info.getD 1 0) ls r h
        | 4 => if 0 < x then k (info.getD 1 0) ls r h else k (i + 1) ls r h
        | _ => if 0 < x then k (i + 1) ls r h else k (info.getD 1 0) ls r h)
      | _ => none) = some r := hrun
  show q_W F B H locs cells slots Q (q_pc cd i) rls (st.map (q_rv F))
  rw [q_pc_at hcd]
  obtain ⟨hx, hb, hml, hr, hown, hlocks, hini, hwm, hGb, hGk⟩ := id C
  replace hok := Bool.and_eq_true_iff.mp hok
  obtain ⟨h8, hok⟩ := hok
  replace h8 := Bool.and_eq_true_iff.mp h8
  obtain ⟨hn, h7⟩ := h8
  simp only [beq_iff_eq] at h7
  subst h7
  split at hrun
  · rename_i x rr
    split at hok
    · rename_i off
      simp only [Bool.and_eq_true, beq_iff_eq] at hok
      obtain ⟨hco, htg⟩ := hok
      have htg := q_tg_of htg
      rw [hco] at hrun
      replace hrun : (if x = 0 then k (info.getD 1 0) ls rr h else k (i + 1) ls rr h) = some r := hrun
      refine lv_if_eq hx hb hd htg (fun ht => ?_) (fun ht => ?_)
      · rw [if_pos ht] at hrun
        exact kk _ _ _ _ hrun H locs cells slots rls hR hS hL hc hs
      · rw [if_neg ht] at hrun
        have kk := kk _ _ _ _ hrun H locs cells slots rls hR hS hL hc hs
        rw [q_nx_of hn] at kk
        exact kk
    · rename_i off
      simp only [Bool.and_eq_true, beq_iff_eq] at hok
      obtain ⟨hco, htg⟩ := hok
      have htg := q_tg_of htg
      rw [hco] at hrun
      replace hrun : (if x = 0 then k (i + 1) ls rr h else k (info.getD 1 0) ls rr h) = some r := hrun
      refine lv_if_ne hx hb hd htg (fun ht => ?_) (fun ht => ?_)
      · rw [if_neg ht] at hrun
        exact kk _ _ _ _ hrun H locs cells slots rls hR hS hL hc hs
      · rw [if_pos ht] at hrun
        have kk := kk _ _ _ _ hrun H locs cells slots rls hR hS hL hc hs
        rw [q_nx_of hn] at kk
        exact kk
    · rename_i off
      simp only [Bool.and_eq_true, beq_iff_eq] at hok
      obtain ⟨hco, htg⟩ := hok
      have htg := q_tg_of htg
      rw [hco] at hrun
      replace hrun : (if x < 0 then k (info.getD 1 0) ls rr h else k (i + 1) ls rr h) = some r := hrun
      refine lv_if_lt hx hb hd htg (fun ht => ?_) (fun ht => ?_)
      · rw [if_pos ht] at hrun
        exact kk _ _ _ _ hrun H locs cells slots rls hR hS hL hc hs
      · rw [if_neg ht] at hrun
        have kk := kk _ _ _ _ hrun H locs cells slots rls hR hS hL hc hs
        rw [q_nx_of hn] at kk
        exact kk
    · rename_i off
      simp only [Bool.and_eq_true, beq_iff_eq] at hok
      obtain ⟨hco, htg⟩ := hok
      have htg := q_tg_of htg
      rw [hco] at hrun
      replace hrun : (if x < 0 then k (i + 1) ls rr h else k (info.getD 1 0) ls rr h) = some r := hrun
      refine lv_if_ge hx hb hd htg (fun ht => ?_) (fun ht => ?_)
      · rw [if_neg (Int32.not_lt.mpr ht)] at hrun
        exact kk _ _ _ _ hrun H locs cells slots rls hR hS hL hc hs
      · rw [if_pos (Int32.not_le.mp ht)] at hrun
        have kk := kk _ _ _ _ hrun H locs cells slots rls hR hS hL hc hs
        rw [q_nx_of hn] at kk
        exact kk
    · rename_i off
      simp only [Bool.and_eq_true, beq_iff_eq] at hok
      obtain ⟨hco, htg⟩ := hok
      have htg := q_tg_of htg
      rw [hco] at hrun
      replace hrun : (if 0 < x then k (info.getD 1 0) ls rr h else k (i + 1) ls rr h) = some r := hrun
      refine lv_if_gt hx hb hd htg (fun ht => ?_) (fun ht => ?_)
      · rw [if_pos ht] at hrun
        exact kk _ _ _ _ hrun H locs cells slots rls hR hS hL hc hs
      · rw [if_neg ht] at hrun
        have kk := kk _ _ _ _ hrun H locs cells slots rls hR hS hL hc hs
        rw [q_nx_of hn] at kk
        exact kk
    · rename_i off
      simp only [Bool.and_eq_true, beq_iff_eq] at hok
      obtain ⟨hco, htg⟩ := hok
      have htg := q_tg_of htg
      rw [hco] at hrun
      replace hrun : (if 0 < x then k (i + 1) ls rr h else k (info.getD 1 0) ls rr h) = some r := hrun
      refine lv_if_le hx hb hd htg (fun ht => ?_) (fun ht => ?_)
      · rw [if_neg (Int32.not_lt.mpr ht)] at hrun
        exact kk _ _ _ _ hrun H locs cells slots rls hR hS hL hc hs
      · rw [if_pos (Int32.not_le.mp ht)] at hrun
        have kk := kk _ _ _ _ hrun H locs cells slots rls hR hS hL hc hs
        rw [q_nx_of hn] at kk
        exact kk
    · cases hok
  · cases hrun
theorem m_14 (E : q_E F X sk) (HT : q_T T mt sk) (C : q_B F B (q_cn oi) cc nL ret ini) (hcd : cd[i]? = some (14, info, c0, pc0, ins, len)) (hok : q_ok T mt oi cc ret ini cd i (14, info, c0, pc0, ins, len) = true)
    (hrun : q_st X sb cd call k i ls st h = some r) (kk : ∀ i' ls' st' h', k i' ls' st' h' = some r → q_J F B nL cd h0 Q i' ls' st' h') : q_J F B nL cd h0 Q i ls st h := by
  intro H locs cells slots rls hR hS hL hc hs
  have h9 := Bool.and_eq_true_iff.mp (show (decide (decode cc pc0 = .ok (ins, len)) && q_ok14 T mt oi cc ret ini cd i (14, info, c0, pc0, ins, len)) = true from hok)
  have hd : decode cc pc0 = .ok (ins, len) := of_decide_eq_true h9.1
  replace hok := h9.2
  clear h9
  unfold q_ok14 at hok
  dsimp only at hok
  unfold q_st at hrun
  rw [hcd] at hrun
  replace hrun : (k (info.getD 0 0) ls st h) = some r := hrun
  show q_W F B H locs cells slots Q (q_pc cd i) rls (st.map (q_rv F))
  rw [q_pc_at hcd]
  obtain ⟨hx, hb, hml, hr, hown, hlocks, hini, hwm, hGb, hGk⟩ := id C
  replace hok := Bool.and_eq_true_iff.mp hok
  obtain ⟨h7, hok⟩ := hok
  simp only [beq_iff_eq] at h7
  subst h7
  split at hok
  · exact lv_goto hx hb hd (q_tg_of hok) (kk _ _ _ _ hrun H locs cells slots rls hR hS hL hc hs)
  · cases hok
end Rows1
