/-! ===== ROWS that make, that call the library, that end ===== -/
section Rows3
variable {F : Fx} {B : Bd} {oi : Nat} {cc : ByteArray} {nL : Nat} {ret : Option FieldType} {ini : Bool} {X : Sx} {sk : List (String × Nat × String)} {T : Tb} {mt : List Mr}
variable {sb : List (List Int32)} {cd : List En} {call : Nat → List Value → Hp → Rs} {k : Nat → Lc → List Value → Hp → Rs} {i : Nat} {ls : Lc} {st : List Value} {h h0 : Hp} {r : Ou × Hp} {Q : State → Prop} {info : List Nat} {c0 : Int32} {pc0 : Nat} {ins : Instr} {len : Nat}
/-- what a body owes at its end -/
def q_Q (F : Fx) (B : Bd) (h0 : Hp) (r : Ou × Hp) : State → Prop := vx_MQ B.below (q_Qc F r.1 r.2) (q_XC F r.1 r.2) B.args B.s (r.2.2.2.2.1 - h0.2.2.2.1) (r.2.2.2.2.2 - h0.2.2.2.2) (q_A F)
/-- room: at least so much -/
def q_Rm (B : Bd) (h0 : Hp) (d : Nat) (r : Ou × Hp) : Prop := d + 6 ≤ B.R.frames ∧ 60 * d + 120 ≤ B.R.locals ∧ r.2.2.2.2.1 ≤ h0.2.2.2.1 + B.R.cells ∧ r.2.2.2.2.2 ≤ h0.2.2.2.2 + B.R.slots
def q_Mo (k : Nat → Lc → List Value → Hp → Rs) (r : Ou × Hp) : Prop := ∀ i' ls' st' h', k i' ls' st' h' = some r → h'.2.2.2.1 ≤ r.2.2.2.2.1 ∧ h'.2.2.2.2 ≤ r.2.2.2.2.2
theorem q_wd_map (F : Fx) : ∀ st : List Value, ((st.map (q_rv F)).map fun v => v.category).sum ≤ q_wd st
  | [] => Nat.le_refl _
  | v :: t => by
    have ih := q_wd_map F t
    have h1 : (q_rv F v).category ≤ v.category := by cases v <;> first | exact Nat.le_refl _ | decide
    simp only [q_wd, List.map_cons, List.sum_cons] at ih ⊢
    exact Nat.add_le_add h1 ih
/-- the new cell's address -/
theorem q_new_at {H1 : Heap} {e : va_E} {q : Nat} {cells : Nat} (hP : va_P F.D vwCl (q_ws F.base F.cs h ++ [(q, e)]) H1) (hD : va_D (q_A F) (q_ws F.base F.cs h ++ [(q, e)])) (hz : H1.size ≤ F.base + h.1.length + 1) : q = F.base + h.1.length := by
  have hl : (q_ws F.base F.cs h ++ [(q, e)])[h.1.length]? = some (q, e) := by rw [List.getElem?_append_right (by rw [q_ws_len]; exact Nat.le_refl _), q_ws_len, Nat.sub_self]; rfl
  have h1 : q < H1.size := (hP _ _ hl).lt
  have h2 : F.base ≤ q := hD.2 _ _ hl
  rcases Nat.lt_or_ge q (F.base + h.1.length) with h3 | h3
  · have h4 : q - F.base < h.1.length := by omega
    have h5 : (q_ws F.base F.cs h ++ [(q, e)])[q - F.base]? = some (F.base + (q - F.base), q_cell F.base F.cs h.1[q - F.base] (h.2.1 (q - F.base)) (h.2.2.1 (q - F.base))) := by
      rw [List.getElem?_append_left (by rw [q_ws_len]; exact h4)]
      exact q_ws_at (List.getElem?_eq_getElem h4)
    have h6 := hD.1 _ _ _ _ h5 hl (by show F.base + (q - F.base) = q; omega)
    omega
  · omega
theorem m_29 (E : q_E F X sk) (HT : q_T T mt sk) (C : q_B F B (q_cn oi) cc nL ret ini) {d : Nat} (RM : q_Rm B h0 d r) (MO : q_Mo k r) (SZ : B.s.heap.size ≤ F.base + h0.2.2.2.1) (hcd : cd[i]? = some (29, info, c0, pc0, ins, len)) (hok : q_ok T mt oi cc ret ini cd i (29, info, c0, pc0, ins, len) = true)
    (hrun : q_st X sb cd call k i ls st h = some r) (kk : ∀ i' ls' st' h', k i' ls' st' h' = some r → q_J F B nL cd h0 Q i' ls' st' h') : q_J F B nL cd h0 Q i ls st h := by
  intro H locs cells slots rls hR hS hL hc hs
  have h9 := Bool.and_eq_true_iff.mp (show (decide (decode cc pc0 = .ok (ins, len)) && q_ok29 T mt oi cc ret ini cd i (29, info, c0, pc0, ins, len)) = true from hok)
  have hd : decode cc pc0 = .ok (ins, len) := of_decide_eq_true h9.1
  replace hok := h9.2
  clear h9
  unfold q_ok29 at hok
  dsimp only at hok
  unfold q_st at hrun
  rw [hcd] at hrun
  replace hrun : (bif h.2.2.2.1 == h.1.length then k (i + 1) ls (.ref h.1.length :: st) (q_mk h (info.getD 0 0, info.getD 1 0, List.replicate (info.getD 1 0) none)) else none) = some r := hrun
  show q_W F B H locs cells slots Q (q_pc cd i) rls (st.map (q_rv F))
  rw [q_pc_at hcd]
  obtain ⟨hx, hb, hml, hr, hown, hlocks, hini, hwm, hGb, hGk⟩ := id C
  replace hok := Bool.and_eq_true_iff.mp hok
  obtain ⟨h8, hok⟩ := hok
  replace h8 := Bool.and_eq_true_iff.mp h8
  obtain ⟨hn, h7⟩ := h8
  simp only [beq_iff_eq] at h7
  subst h7
  rw [Bool.cond_eq_ite] at hrun
  split at hrun
  · rename_i hnc
    rw [beq_iff_eq] at hnc
    split at hok
    · replace hok := Bool.and_eq_true_iff.mp hok
      obtain ⟨hkl, hN⟩ := hok
      replace hkl := of_decide_eq_true hkl
      obtain ⟨w, hw, hk1, hk2, hk3⟩ := HT.2.2.2.2.2.1 _ hkl
      dsimp only at hw hk1 hk2 hk3
      rw [hw] at hN
      replace hN : w.2.2 = info.getD 1 0 := by simpa only [beq_iff_eq] using hN
      have hcf := HT.1 _ _ hw
      have h13 := q_lt13 hw
      obtain ⟨ty, hty, hnm, hfl⟩ := hcf.2
      obtain ⟨m1, m2⟩ := MO _ _ _ _ hrun
      obtain ⟨-, -, r1, r2⟩ := RM
      have m1 : h.2.2.2.1 + 1 ≤ r.2.2.2.2.1 := m1
      have m2 : h.2.2.2.2 + info.getD 1 0 ≤ r.2.2.2.2.2 := m2
      refine va_new (D := F.D) (C := w.1) (T := w.2.1) (N := w.2.2) (fs := q_fs F.base (info.getD 0 0) (info.getD 1 0) (List.replicate (info.getD 1 0) none) (fun _ => 0)) hx hb (fun x hx => q_word E C (hcf.1 x hx)) (fun _ h => h) ty hty hown (q_word E C hk1) (q_word E C hk2) (q_word E C hk3) (q_K E C) hR.1 q_ws_D hS (fun q hq => Nat.le_trans hGb hq) hw ?_ (by omega) (by rw [hN]; omega) hd (fun q H1 hP hD hS => ?_)
      · intro j hj
        obtain ⟨-, f1, f2⟩ := hfl j hj
        rw [hN] at hj
        have hv := q_fs_at (base := F.base) (ci := info.getD 0 0) (rs := List.replicate (info.getD 1 0) none) (f := fun _ => 0) hj
        unfold vp_V
        rw [List.getD_eq_getElem?_getD (l := q_fs F.base (info.getD 0 0) (info.getD 1 0) (List.replicate (info.getD 1 0) none) (fun _ => 0)), hv]
        cases hi : q_isr (info.getD 0 0) j with
        | true =>
          obtain ⟨-, g⟩ := f1 hi
          rw [(g 0).2.2, if_pos rfl, List.getD_eq_getElem?_getD (l := List.replicate (info.getD 1 0) none), List.getElem?_replicate, if_pos hj]
          rfl
        | false =>
          rw [(f2 hi).2]
          cases q_isz (info.getD 0 0) j <;> rfl
      · rw [hN]
        intro T2 hT2 X2
        have hz2 : H1.size ≤ F.base + h.1.length + 1 := by
          have := X2.heapSize
          rw [hT2] at this
          omega
        have hq := q_new_at (cells := cells) hP hD hz2
        subst hq
        have hP2 : va_P F.D vwCl (q_ws F.base F.cs (q_mk h (info.getD 0 0, info.getD 1 0, List.replicate (info.getD 1 0) none))) H1 := by
          rw [← q_ws_mk]
          have e9 : q_cell F.base F.cs (info.getD 0 0, info.getD 1 0, List.replicate (info.getD 1 0) none) (fun _ => 0) (fun _ => 0) = .inr (info.getD 0 0, q_fs F.base (info.getD 0 0) (info.getD 1 0) (List.replicate (info.getD 1 0) none) (fun _ => 0)) := by unfold q_cell; rw [if_pos (show info.getD 0 0 < 100 by omega)]
          rw [e9]; exact hP
        have kk := kk _ _ _ _ hrun H1 locs (cells + 1) (slots + info.getD 1 0) rls (q_R_of C hP2 hS) hS hL (by show h0.2.2.2.1 + (cells + 1) = h.2.2.2.1 + 1; omega) (by show h0.2.2.2.2 + (slots + info.getD 1 0) = h.2.2.2.2 + info.getD 1 0; omega)
        rw [q_nx_of hn] at kk
        exact kk T2 hT2 X2
    · cases hok
  · cases hrun
theorem m_30 (E : q_E F X sk) (HT : q_T T mt sk) (C : q_B F B (q_cn oi) cc nL ret ini) {d : Nat} (RM : q_Rm B h0 d r) (MO : q_Mo k r) (SZ : B.s.heap.size ≤ F.base + h0.2.2.2.1) (hcd : cd[i]? = some (30, info, c0, pc0, ins, len)) (hok : q_ok T mt oi cc ret ini cd i (30, info, c0, pc0, ins, len) = true)
    (hrun : q_st X sb cd call k i ls st h = some r) (kk : ∀ i' ls' st' h', k i' ls' st' h' = some r → q_J F B nL cd h0 Q i' ls' st' h') : q_J F B nL cd h0 Q i ls st h := by
  intro H locs cells slots rls hR hS hL hc hs
  have h9 := Bool.and_eq_true_iff.mp (show (decide (decode cc pc0 = .ok (ins, len)) && q_ok30 T mt oi cc ret ini cd i (30, info, c0, pc0, ins, len)) = true from hok)
  have hd : decode cc pc0 = .ok (ins, len) := of_decide_eq_true h9.1
  replace hok := h9.2
  clear h9
  unfold q_ok30 at hok
  dsimp only at hok
  unfold q_st at hrun
  rw [hcd] at hrun
  replace hrun : (match (generalizing := false) st with
      | .int n :: r => if n < 0 then none else bif h.2.2.2.1 == h.1.length && Nat.ble n.toNatClampNeg 1000000 then k (i + 1) ls (.ref h.1.length :: r) (q_mk h (info.getD 0 0, n.toNatClampNeg, [])) else none
      | _ => none) = some r := hrun
  show q_W F B H locs cells slots Q (q_pc cd i) rls (st.map (q_rv F))
  rw [q_pc_at hcd]
  obtain ⟨hx, hb, hml, hr, hown, hlocks, hini, hwm, hGb, hGk⟩ := id C
  replace hok := Bool.and_eq_true_iff.mp hok
  obtain ⟨h8, hok⟩ := hok
  replace h8 := Bool.and_eq_true_iff.mp h8
  obtain ⟨hn, h7⟩ := h8
  simp only [beq_iff_eq] at h7
  subst h7
  split at hrun
  · rename_i n rr
    split at hrun
    · cases hrun
    rename_i hneg
    rw [Bool.cond_eq_ite] at hrun
    split at hrun
    · rename_i hnc
      rw [Bool.and_eq_true, beq_iff_eq] at hnc
      obtain ⟨hnc, hbig⟩ := hnc
      replace hbig := Nat.ble_eq.mp hbig
      obtain ⟨m1, m2⟩ := MO _ _ _ _ hrun
      obtain ⟨-, -, r1, r2⟩ := RM
      have m1 : h.2.2.2.1 + 1 ≤ r.2.2.2.2.1 := m1
      have m2 : h.2.2.2.2 + n.toNatClampNeg ≤ r.2.2.2.2.2 := m2
      split at hok
      · simp only [beq_iff_eq] at hok
        rw [hok] at hrun
        refine va_newa (atype := .int) (D := F.D) (a0 := (n.toNatClampNeg, .inl (fun _ => 0))) hx hb (q_word E C HT.2.2.2.2.2.2.2.2.1.2.2.2.1) (ty := .int) rfl (q_K E C) hR.1 q_ws_D hS (fun q hq => Nat.le_trans hGb hq) (fun _ => rfl) hneg rfl (by show n.toNatClampNeg * 4 ≤ _; omega) (by omega) (by omega) hd (fun q cA H1 hK9 hP hD hS => ?_)
        have hcA : cA = F.cs 100 := Option.some.inj (((hK9.2 4 (cA, .int) rfl).2).symm.trans ((q_K E C).2 0 _ rfl).2)
        subst hcA
        intro T2 hT2 X2
        have hz2 : H1.size ≤ F.base + h.1.length + 1 := by
          have := X2.heapSize
          rw [hT2] at this
          omega
        have hq := q_new_at (cells := cells) hP hD hz2
        subst hq
        have hP2 : va_P F.D vwCl (q_ws F.base F.cs (q_mk h (100, n.toNatClampNeg, []))) H1 := by
          rw [← q_ws_mk]
          have e9 : q_cell F.base F.cs (100, n.toNatClampNeg, []) (fun _ => 0) (fun _ => 0) = .inl (F.cs 100, n.toNatClampNeg, .inl (fun _ => 0)) := by simp [q_cell]
          rw [e9]; exact hP
        have kk := kk _ _ _ _ hrun H1 locs (cells + 1) (slots + n.toNatClampNeg) rls (q_R_of C hP2 hS) hS hL (by show h0.2.2.2.1 + (cells + 1) = h.2.2.2.1 + 1; omega) (by show h0.2.2.2.2 + (slots + n.toNatClampNeg) = h.2.2.2.2 + n.toNatClampNeg; omega)
        rw [q_nx_of hn] at kk
        exact kk T2 hT2 X2
      · simp only [beq_iff_eq] at hok
        rw [hok] at hrun
        refine va_newa (atype := .byte) (D := F.D) (a0 := (n.toNatClampNeg, .inl (fun _ => 0))) hx hb (q_word E C HT.2.2.2.2.2.2.2.2.1.2.2.2.2.1) (ty := .byte) rfl (q_K E C) hR.1 q_ws_D hS (fun q hq => Nat.le_trans hGb hq) (fun _ => rfl) hneg rfl (by show n.toNatClampNeg * 1 ≤ _; omega) (by omega) (by omega) hd (fun q cA H1 hK9 hP hD hS => ?_)
        have hcA : cA = F.cs 101 := Option.some.inj (((hK9.2 4 (cA, .byte) rfl).2).symm.trans ((q_K E C).2 1 _ rfl).2)
        subst hcA
        intro T2 hT2 X2
        have hz2 : H1.size ≤ F.base + h.1.length + 1 := by
          have := X2.heapSize
          rw [hT2] at this
          omega
        have hq := q_new_at (cells := cells) hP hD hz2
        subst hq
        have hP2 : va_P F.D vwCl (q_ws F.base F.cs (q_mk h (101, n.toNatClampNeg, []))) H1 := by
          rw [← q_ws_mk]
          have e9 : q_cell F.base F.cs (101, n.toNatClampNeg, []) (fun _ => 0) (fun _ => 0) = .inl (F.cs 101, n.toNatClampNeg, .inl (fun _ => 0)) := by simp [q_cell]
          rw [e9]; exact hP
        have kk := kk _ _ _ _ hrun H1 locs (cells + 1) (slots + n.toNatClampNeg) rls (q_R_of C hP2 hS) hS hL (by show h0.2.2.2.1 + (cells + 1) = h.2.2.2.1 + 1; omega) (by show h0.2.2.2.2 + (slots + n.toNatClampNeg) = h.2.2.2.2 + n.toNatClampNeg; omega)
        rw [q_nx_of hn] at kk
        exact kk T2 hT2 X2
      · simp only [beq_iff_eq] at hok
        rw [hok] at hrun
        refine va_newa (atype := .long) (D := F.D) (a0 := (n.toNatClampNeg, .inr (.inl (fun _ => 0)))) hx hb (q_word E C HT.2.2.2.2.2.2.2.2.1.2.2.2.2.2.1) (ty := .long) rfl (q_K E C) hR.1 q_ws_D hS (fun q hq => Nat.le_trans hGb hq) (fun _ => rfl) hneg rfl (by show n.toNatClampNeg * 8 ≤ _; omega) (by omega) (by omega) hd (fun q cA H1 hK9 hP hD hS => ?_)
        have hcA : cA = F.cs 102 := Option.some.inj (((hK9.2 4 (cA, .long) rfl).2).symm.trans ((q_K E C).2 2 _ rfl).2)
        subst hcA
        intro T2 hT2 X2
        have hz2 : H1.size ≤ F.base + h.1.length + 1 := by
          have := X2.heapSize
          rw [hT2] at this
          omega
        have hq := q_new_at (cells := cells) hP hD hz2
        subst hq
        have hP2 : va_P F.D vwCl (q_ws F.base F.cs (q_mk h (102, n.toNatClampNeg, []))) H1 := by
          rw [← q_ws_mk]
          have e9 : q_cell F.base F.cs (102, n.toNatClampNeg, []) (fun _ => 0) (fun _ => 0) = .inl (F.cs 102, n.toNatClampNeg, .inr (.inl (fun _ => 0))) := by simp [q_cell]
          rw [e9]; exact hP
        have kk := kk _ _ _ _ hrun H1 locs (cells + 1) (slots + n.toNatClampNeg) rls (q_R_of C hP2 hS) hS hL (by show h0.2.2.2.1 + (cells + 1) = h.2.2.2.1 + 1; omega) (by show h0.2.2.2.2 + (slots + n.toNatClampNeg) = h.2.2.2.2 + n.toNatClampNeg; omega)
        rw [q_nx_of hn] at kk
        exact kk T2 hT2 X2
      · cases hok
    · cases hrun
  · cases hrun
theorem m_31 (E : q_E F X sk) (HT : q_T T mt sk) (C : q_B F B (q_cn oi) cc nL ret ini) {d : Nat} (RM : q_Rm B h0 d r) (MO : q_Mo k r) (SZ : B.s.heap.size ≤ F.base + h0.2.2.2.1) (hcd : cd[i]? = some (31, info, c0, pc0, ins, len)) (hok : q_ok T mt oi cc ret ini cd i (31, info, c0, pc0, ins, len) = true)
    (hrun : q_st X sb cd call k i ls st h = some r) (kk : ∀ i' ls' st' h', k i' ls' st' h' = some r → q_J F B nL cd h0 Q i' ls' st' h') : q_J F B nL cd h0 Q i ls st h := by
  intro H locs cells slots rls hR hS hL hc hs
  have h9 := Bool.and_eq_true_iff.mp (show (decide (decode cc pc0 = .ok (ins, len)) && q_ok31 T mt oi cc ret ini cd i (31, info, c0, pc0, ins, len)) = true from hok)
  have hd : decode cc pc0 = .ok (ins, len) := of_decide_eq_true h9.1
  replace hok := h9.2
  clear h9
  unfold q_ok31 at hok
  dsimp only at hok
  unfold q_st at hrun
  rw [hcd] at hrun
  replace hrun : (match (generalizing := false) st with
      | .int n :: r => if n < 0 then none else bif h.2.2.2.1 == h.1.length && Nat.ble n.toNatClampNeg 1000000 then k (i + 1) ls (.ref h.1.length :: r) (q_mk h (103, n.toNatClampNeg, List.replicate n.toNatClampNeg none)) else none
      | _ => none) = some r := hrun
  show q_W F B H locs cells slots Q (q_pc cd i) rls (st.map (q_rv F))
  rw [q_pc_at hcd]
  obtain ⟨hx, hb, hml, hr, hown, hlocks, hini, hwm, hGb, hGk⟩ := id C
  replace hok := Bool.and_eq_true_iff.mp hok
  obtain ⟨h8, hok⟩ := hok
  replace h8 := Bool.and_eq_true_iff.mp h8
  obtain ⟨hn, h7⟩ := h8
  simp only [beq_iff_eq] at h7
  subst h7
  split at hrun
  · rename_i n rr
    split at hrun
    · cases hrun
    rename_i hneg
    rw [Bool.cond_eq_ite] at hrun
    split at hrun
    · rename_i hnc
      rw [Bool.and_eq_true, beq_iff_eq] at hnc
      obtain ⟨hnc, hbig⟩ := hnc
      replace hbig := Nat.ble_eq.mp hbig
      obtain ⟨m1, m2⟩ := MO _ _ _ _ hrun
      obtain ⟨-, -, r1, r2⟩ := RM
      have m1 : h.2.2.2.1 + 1 ≤ r.2.2.2.2.1 := m1
      have m2 : h.2.2.2.2 + n.toNatClampNeg ≤ r.2.2.2.2.2 := m2
      split at hok
      · replace hok := of_decide_eq_true hok
        obtain ⟨w, hw, hk1, hk2, hk3⟩ := HT.2.2.2.2.2.1 _ hok
        dsimp only at hw hk1 hk2 hk3
        have hw7 : w = (RX7, TX7, 10) := (Option.some.inj hw).symm
        subst hw7
        refine va_newq (D := F.D) (C := RX7) hx hb hown (q_word E C hk1) (va_AO.moved hwm.alike (va_AO.of (E.2.1 _ HT.2.2.2.2.2.2.2.2.1.2.2.2.2.2.2))) (q_K E C) hR.1 q_ws_D hS (fun q hq => Nat.le_trans hGb hq) hneg rfl (by omega) (by omega) (by omega) hd (fun q cA H1 hK9 hP hD hS => ?_)
        have hcA : cA = F.cs 103 := by
          obtain ⟨_, _, -, -, -, g1⟩ := (hK9.2 4 (cA, .object RX7) rfl).2
          obtain ⟨_, _, -, -, -, g2⟩ := ((q_K E C).2 3 _ rfl).2
          exact Option.some.inj (g1.symm.trans g2)
        subst hcA
        intro T2 hT2 X2
        have hz2 : H1.size ≤ F.base + h.1.length + 1 := by
          have := X2.heapSize
          rw [hT2] at this
          omega
        have hq := q_new_at (cells := cells) hP hD hz2
        subst hq
        have hP2 : va_P F.D vwCl (q_ws F.base F.cs (q_mk h (103, n.toNatClampNeg, List.replicate n.toNatClampNeg none))) H1 := by
          rw [← q_ws_mk]
          have e8 : (fun k => ((List.replicate n.toNatClampNeg (none : Option Nat)).getD k none).map (fun r => F.base + r)) = fun _ => none := by
            funext q
            rw [List.getD_eq_getElem?_getD, List.getElem?_replicate]
            split <;> rfl
          have e9 : q_cell F.base F.cs (103, n.toNatClampNeg, List.replicate n.toNatClampNeg none) (fun _ => 0) (fun _ => 0) = .inl (F.cs 103, n.toNatClampNeg, .inr (.inr (.inr (.inr (fun _ => none))))) := by simp only [q_cell, e8]; rfl
          rw [e9]; exact hP
        have kk := kk _ _ _ _ hrun H1 locs (cells + 1) (slots + n.toNatClampNeg) rls (q_R_of C hP2 hS) hS hL (by show h0.2.2.2.1 + (cells + 1) = h.2.2.2.1 + 1; omega) (by show h0.2.2.2.2 + (slots + n.toNatClampNeg) = h.2.2.2.2 + n.toNatClampNeg; omega)
        rw [q_nx_of hn] at kk
        exact kk T2 hT2 X2
      · cases hok
    · cases hrun
  · cases hrun
theorem m_34 (E : q_E F X sk) (HT : q_T T mt sk) (C : q_B F B (q_cn oi) cc nL ret ini) {d : Nat} (RM : q_Rm B h0 d r) (MO : q_Mo k r) (SZ : B.s.heap.size ≤ F.base + h0.2.2.2.1) (hcd : cd[i]? = some (34, info, c0, pc0, ins, len)) (hok : q_ok T mt oi cc ret ini cd i (34, info, c0, pc0, ins, len) = true)
    (hrun : q_st X sb cd call k i ls st h = some r) (kk : ∀ i' ls' st' h', k i' ls' st' h' = some r → q_J F B nL cd h0 Q i' ls' st' h') : q_J F B nL cd h0 Q i ls st h := by
  intro H locs cells slots rls hR hS hL hc hs
  have h9 := Bool.and_eq_true_iff.mp (show (decide (decode cc pc0 = .ok (ins, len)) && q_ok34 T mt oi cc ret ini cd i (34, info, c0, pc0, ins, len)) = true from hok)
  have hd : decode cc pc0 = .ok (ins, len) := of_decide_eq_true h9.1
  replace hok := h9.2
  clear h9
  unfold q_ok34 at hok
  dsimp only at hok
  unfold q_st at hrun
  rw [hcd] at hrun
  replace hrun : (match (generalizing := false) st with
      | .ref _ :: r => bif Nat.ble (q_wd r) 8 then k (i + 1) ls r h else none
      | _ => none) = some r := hrun
  show q_W F B H locs cells slots Q (q_pc cd i) rls (st.map (q_rv F))
  rw [q_pc_at hcd]
  obtain ⟨hx, hb, hml, hr, hown, hlocks, hini, hwm, hGb, hGk⟩ := id C
  replace hok := Bool.and_eq_true_iff.mp hok
  obtain ⟨h8, hok⟩ := hok
  replace h8 := Bool.and_eq_true_iff.mp h8
  obtain ⟨hn, h7⟩ := h8
  simp only [beq_iff_eq] at h7
  subst h7
  split at hrun
  · rename_i a rr
    rw [Bool.cond_eq_ite] at hrun
    split at hrun
    · rename_i hwd
      replace hwd := Nat.ble_eq.mp hwd
      have hw2 := q_wd_map F rr
      obtain ⟨f1, f2, r1, r2⟩ := RM
      obtain ⟨m1, m2⟩ := MO _ _ _ _ hrun
      have kk := kk _ _ _ _ hrun H locs cells slots rls hR hS hL hc hs
      rw [q_nx_of hn] at kk
      split at hok
      · replace hok := of_decide_eq_true hok
        exact W.objInit hx hb hown (q_word E C (HT.2.2.2.2.1 _ hok)) (q_word E C HT.2.2.2.2.2.2.2.2.1.1.1) (q_word E C HT.2.2.2.2.2.2.2.2.1.1.2) rfl (by rw [hml]; exact hL.2.1) rfl hd (by omega) (by show 2 * 0 + _ + 12 ≤ _; omega) kk
      · cases hok
    · cases hrun
  · cases hrun
theorem m_36 (E : q_E F X sk) (HT : q_T T mt sk) (C : q_B F B (q_cn oi) cc nL ret ini) {d : Nat} (RM : q_Rm B h0 d r) (MO : q_Mo k r) (SZ : B.s.heap.size ≤ F.base + h0.2.2.2.1) (hcd : cd[i]? = some (36, info, c0, pc0, ins, len)) (hok : q_ok T mt oi cc ret ini cd i (36, info, c0, pc0, ins, len) = true)
    (hrun : q_st X sb cd call k i ls st h = some r) (kk : ∀ i' ls' st' h', k i' ls' st' h' = some r → q_J F B nL cd h0 Q i' ls' st' h') : q_J F B nL cd h0 Q i ls st h := by
  intro H locs cells slots rls hR hS hL hc hs
  have h9 := Bool.and_eq_true_iff.mp (show (decide (decode cc pc0 = .ok (ins, len)) && q_ok36 T mt oi cc ret ini cd i (36, info, c0, pc0, ins, len)) = true from hok)
  have hd : decode cc pc0 = .ok (ins, len) := of_decide_eq_true h9.1
  replace hok := h9.2
  clear h9
  unfold q_ok36 at hok
  dsimp only at hok
  unfold q_st at hrun
  rw [hcd] at hrun
  replace hrun : (match (generalizing := false) st with
      | .int y :: .int x :: r => bif Nat.ble (q_wd r) 8 then k (i + 1) ls (.int (if x < y then y else x) :: r) h else none
      | _ => none) = some r := hrun
  show q_W F B H locs cells slots Q (q_pc cd i) rls (st.map (q_rv F))
  rw [q_pc_at hcd]
  obtain ⟨hx, hb, hml, hr, hown, hlocks, hini, hwm, hGb, hGk⟩ := id C
  replace hok := Bool.and_eq_true_iff.mp hok
  obtain ⟨h8, hok⟩ := hok
  replace h8 := Bool.and_eq_true_iff.mp h8
  obtain ⟨hn, h7⟩ := h8
  simp only [beq_iff_eq] at h7
  subst h7
  split at hrun
  · rename_i y x rr
    rw [Bool.cond_eq_ite] at hrun
    split at hrun
    · rename_i hwd
      replace hwd := Nat.ble_eq.mp hwd
      have hw2 := q_wd_map F rr
      obtain ⟨f1, f2, r1, r2⟩ := RM
      obtain ⟨m1, m2⟩ := MO _ _ _ _ hrun
      have kk := kk _ _ _ _ hrun H locs cells slots rls hR hS hL hc hs
      rw [q_nx_of hn] at kk
      split at hok
      · replace hok := of_decide_eq_true hok
        exact va_mmax hx hb (by rw [hml]; exact hL.2.1.symm) hown (q_word E C (HT.2.2.2.2.1 _ hok)) (q_word E C HT.2.2.2.2.2.2.2.2.1.2.1.2.1.1) (q_word E C HT.2.2.2.2.2.2.2.2.1.2.1.1) (q_word E C HT.2.2.2.2.2.2.2.2.1.2.1.2.1.2) (by omega) (by omega) (by omega) (by omega) hd kk
      · cases hok
    · cases hrun
  · cases hrun
theorem m_37 (E : q_E F X sk) (HT : q_T T mt sk) (C : q_B F B (q_cn oi) cc nL ret ini) {d : Nat} (RM : q_Rm B h0 d r) (MO : q_Mo k r) (SZ : B.s.heap.size ≤ F.base + h0.2.2.2.1) (hcd : cd[i]? = some (37, info, c0, pc0, ins, len)) (hok : q_ok T mt oi cc ret ini cd i (37, info, c0, pc0, ins, len) = true)
    (hrun : q_st X sb cd call k i ls st h = some r) (kk : ∀ i' ls' st' h', k i' ls' st' h' = some r → q_J F B nL cd h0 Q i' ls' st' h') : q_J F B nL cd h0 Q i ls st h := by
  intro H locs cells slots rls hR hS hL hc hs
  have h9 := Bool.and_eq_true_iff.mp (show (decide (decode cc pc0 = .ok (ins, len)) && q_ok37 T mt oi cc ret ini cd i (37, info, c0, pc0, ins, len)) = true from hok)
  have hd : decode cc pc0 = .ok (ins, len) := of_decide_eq_true h9.1
  replace hok := h9.2
  clear h9
  unfold q_ok37 at hok
  dsimp only at hok
  unfold q_st at hrun
  rw [hcd] at hrun
  replace hrun : (match (generalizing := false) st with
      | .int y :: .int x :: r => bif Nat.ble (q_wd r) 8 then k (i + 1) ls (.int (if y < x then y else x) :: r) h else none
      | _ => none) = some r := hrun
  show q_W F B H locs cells slots Q (q_pc cd i) rls (st.map (q_rv F))
  rw [q_pc_at hcd]
  obtain ⟨hx, hb, hml, hr, hown, hlocks, hini, hwm, hGb, hGk⟩ := id C
  replace hok := Bool.and_eq_true_iff.mp hok
  obtain ⟨h8, hok⟩ := hok
  replace h8 := Bool.and_eq_true_iff.mp h8
  obtain ⟨hn, h7⟩ := h8
  simp only [beq_iff_eq] at h7
  subst h7
  split at hrun
  · rename_i y x rr
    rw [Bool.cond_eq_ite] at hrun
    split at hrun
    · rename_i hwd
      replace hwd := Nat.ble_eq.mp hwd
      have hw2 := q_wd_map F rr
      obtain ⟨f1, f2, r1, r2⟩ := RM
      obtain ⟨m1, m2⟩ := MO _ _ _ _ hrun
      have kk := kk _ _ _ _ hrun H locs cells slots rls hR hS hL hc hs
      rw [q_nx_of hn] at kk
      split at hok
      · replace hok := of_decide_eq_true hok
        exact va_mmin hx hb (by rw [hml]; exact hL.2.1.symm) hown (q_word E C (HT.2.2.2.2.1 _ hok)) (q_word E C HT.2.2.2.2.2.2.2.2.1.2.1.2.2.1.1) (q_word E C HT.2.2.2.2.2.2.2.2.1.2.1.1) (q_word E C HT.2.2.2.2.2.2.2.2.1.2.1.2.2.1.2) (by omega) (by omega) (by omega) (by omega) hd kk
      · cases hok
    · cases hrun
  · cases hrun
theorem m_38 (E : q_E F X sk) (HT : q_T T mt sk) (C : q_B F B (q_cn oi) cc nL ret ini) {d : Nat} (RM : q_Rm B h0 d r) (MO : q_Mo k r) (SZ : B.s.heap.size ≤ F.base + h0.2.2.2.1) (hcd : cd[i]? = some (38, info, c0, pc0, ins, len)) (hok : q_ok T mt oi cc ret ini cd i (38, info, c0, pc0, ins, len) = true)
    (hrun : q_st X sb cd call k i ls st h = some r) (kk : ∀ i' ls' st' h', k i' ls' st' h' = some r → q_J F B nL cd h0 Q i' ls' st' h') : q_J F B nL cd h0 Q i ls st h := by
  intro H locs cells slots rls hR hS hL hc hs
  have h9 := Bool.and_eq_true_iff.mp (show (decide (decode cc pc0 = .ok (ins, len)) && q_ok38 T mt oi cc ret ini cd i (38, info, c0, pc0, ins, len)) = true from hok)
  have hd : decode cc pc0 = .ok (ins, len) := of_decide_eq_true h9.1
  replace hok := h9.2
  clear h9
  unfold q_ok38 at hok
  dsimp only at hok
  unfold q_st at hrun
  rw [hcd] at hrun
  replace hrun : (match (generalizing := false) st with
      | .int x :: r => bif Nat.ble (q_wd r) 8 then k (i + 1) ls (.int (if 0 ≤ x then x else 0 - x) :: r) h else none
      | _ => none) = some r := hrun
  show q_W F B H locs cells slots Q (q_pc cd i) rls (st.map (q_rv F))
  rw [q_pc_at hcd]
  obtain ⟨hx, hb, hml, hr, hown, hlocks, hini, hwm, hGb, hGk⟩ := id C
  replace hok := Bool.and_eq_true_iff.mp hok
  obtain ⟨h8, hok⟩ := hok
  replace h8 := Bool.and_eq_true_iff.mp h8
  obtain ⟨hn, h7⟩ := h8
  simp only [beq_iff_eq] at h7
  subst h7
  split at hrun
  · rename_i x rr
    rw [Bool.cond_eq_ite] at hrun
    split at hrun
    · rename_i hwd
      replace hwd := Nat.ble_eq.mp hwd
      have hw2 := q_wd_map F rr
      obtain ⟨f1, f2, r1, r2⟩ := RM
      obtain ⟨m1, m2⟩ := MO _ _ _ _ hrun
      have kk := kk _ _ _ _ hrun H locs cells slots rls hR hS hL hc hs
      rw [q_nx_of hn] at kk
      split at hok
      · replace hok := of_decide_eq_true hok
        exact va_mabs hx hb (by rw [hml]; exact hL.2.1.symm) hown (q_word E C (HT.2.2.2.2.1 _ hok)) (q_word E C HT.2.2.2.2.2.2.2.2.1.2.1.2.2.2.1) (q_word E C HT.2.2.2.2.2.2.2.2.1.2.1.1) (q_word E C HT.2.2.2.2.2.2.2.2.1.2.1.2.2.2.2) (by omega) (by omega) (by omega) (by omega) hd kk
      · cases hok
    · cases hrun
  · cases hrun
theorem m_41 (E : q_E F X sk) (HT : q_T T mt sk) (C : q_B F B (q_cn oi) cc nL ret ini) {d : Nat} (RM : q_Rm B h0 d r) (MO : q_Mo k r) (SZ : B.s.heap.size ≤ F.base + h0.2.2.2.1) (hcd : cd[i]? = some (41, info, c0, pc0, ins, len)) (hok : q_ok T mt oi cc ret ini cd i (41, info, c0, pc0, ins, len) = true)
    (hrun : q_st X sb cd call k i ls st h = some r) (kk : ∀ i' ls' st' h', k i' ls' st' h' = some r → q_J F B nL cd h0 Q i' ls' st' h') : q_J F B nL cd h0 Q i ls st h := by
  intro H locs cells slots rls hR hS hL hc hs
  have h9 := Bool.and_eq_true_iff.mp (show (decide (decode cc pc0 = .ok (ins, len)) && q_ok41 T mt oi cc ret ini cd i (41, info, c0, pc0, ins, len)) = true from hok)
  have hd : decode cc pc0 = .ok (ins, len) := of_decide_eq_true h9.1
  replace hok := h9.2
  clear h9
  unfold q_ok41 at hok
  dsimp only at hok
  unfold q_st at hrun
  rw [hcd] at hrun
  replace hrun : (match (generalizing := false) st with
      | .int n :: .int dp :: .ref b :: .int sp :: .ref a :: r => bif q_tag h.1 a == 100 && q_tag h.1 b == 100 && Nat.ble (q_wd r) 8 then
          (if sp < 0 ∨ dp < 0 ∨ n < 0 then none else bif Nat.ble (sp.toNatClampNeg + n.toNatClampNeg) (q_len h.1 a) && Nat.ble (dp.toNatClampNeg + n.toNatClampNeg) (q_len h.1 b) then k (i + 1) ls r (q_cp h a sp.toNatClampNeg b dp.toNatClampNeg n.toNatClampNeg) else none) else none
      | _ => none) = some r := hrun
  show q_W F B H locs cells slots Q (q_pc cd i) rls (st.map (q_rv F))
  rw [q_pc_at hcd]
  obtain ⟨hx, hb, hml, hr, hown, hlocks, hini, hwm, hGb, hGk⟩ := id C
  replace hok := Bool.and_eq_true_iff.mp hok
  obtain ⟨h8, hok⟩ := hok
  replace h8 := Bool.and_eq_true_iff.mp h8
  obtain ⟨hn, h7⟩ := h8
  simp only [beq_iff_eq] at h7
  subst h7
  split at hrun
  · rename_i n dp b sp a rr
    rw [Bool.cond_eq_ite] at hrun
    split at hrun
    · rename_i hcond
      rw [Bool.and_eq_true, Bool.and_eq_true, beq_iff_eq, beq_iff_eq] at hcond
      obtain ⟨⟨hta, htb⟩, hwd⟩ := hcond
      replace hwd := Nat.ble_eq.mp hwd
      split at hrun
      · cases hrun
      rename_i hneg
      rw [Bool.cond_eq_ite] at hrun
      split at hrun
      · rename_i hcond
        rw [Bool.and_eq_true] at hcond
        obtain ⟨hs1, hs2⟩ := hcond
        replace hs1 := Nat.ble_eq.mp hs1
        replace hs2 := Nat.ble_eq.mp hs2
        obtain ⟨n1, rs1, hz1, hl1, -⟩ := q_tag_z hta (by decide)
        obtain ⟨n2, rs2, hz2, hl2, -⟩ := q_tag_z htb (by decide)
        rw [hl1] at hs1
        rw [hl2] at hs2
        have hw2 := q_wd_map F rr
        obtain ⟨f1, f2, r1, r2⟩ := RM
        split at hok
        · replace hok := of_decide_eq_true hok
          have hgw := HT.2.2.2.2.2.2.2.2.1.2.2.1
          have hnf : nativeFrameWords "java/lang/System" "arraycopy" 5 ≤ 60 := by decide
          refine va_copyi (D := F.D) hx hb (by rw [hml]; exact hL.2.1.symm) hown (q_word E C (HT.2.2.2.2.1 _ hok)) (q_word E C hgw.1) (q_word E C hgw.2.1) (q_word E C hgw.2.2) (q_K E C) hR.1 q_ws_D hS a b 0 0 (q_arr hz1 (Or.inl rfl)) (q_arr hz2 (Or.inl rfl)) rfl rfl rfl (fun e => hneg (Or.inl e)) (fun e => hneg (Or.inr (Or.inl e))) (fun e => hneg (Or.inr (Or.inr e))) hs1 hs2 (fun _ _ => rfl) (by omega) (by omega) hd (fun H1 locs1 hP hD hS => ?_)
          have hP2 : va_P F.D vwCl (q_ws F.base F.cs (q_cp h a sp.toNatClampNeg b dp.toNatClampNeg n.toNatClampNeg)) H1 := by
            rw [← q_ws_cp (base := F.base) (cs := F.cs) hz2]
            have e9 : q_cell F.base F.cs (100, n2, rs2) (va_cpy (h.2.1 a) (h.2.1 b) sp.toNatClampNeg dp.toNatClampNeg n.toNatClampNeg) (h.2.2.1 b) = .inl (F.cs 100, n2, .inl (va_cpy (h.2.1 a) (h.2.1 b) sp.toNatClampNeg dp.toNatClampNeg n.toNatClampNeg)) := by simp [q_cell]
            rw [e9]; exact hP
          have kk := kk _ _ _ _ hrun H1 locs1 cells slots rls (q_R_of C hP2 hS) hS hL hc hs
          rw [q_nx_of hn] at kk
          exact kk
        · cases hok
      · cases hrun
    · cases hrun
  · cases hrun
theorem m_42 (E : q_E F X sk) (HT : q_T T mt sk) (C : q_B F B (q_cn oi) cc nL ret ini) (hcd : cd[i]? = some (42, info, c0, pc0, ins, len)) (hok : q_ok T mt oi cc ret ini cd i (42, info, c0, pc0, ins, len) = true)
    (hrun : q_st X sb cd call k i ls st h = some r) : q_J F B nL cd h0 (q_Q F B h0 r) i ls st h := by
  intro H locs cells slots rls hR hS hL hc hs
  have h9 := Bool.and_eq_true_iff.mp (show (decide (decode cc pc0 = .ok (ins, len)) && q_ok42 T mt oi cc ret ini cd i (42, info, c0, pc0, ins, len)) = true from hok)
  have hd : decode cc pc0 = .ok (ins, len) := of_decide_eq_true h9.1
  replace hok := h9.2
  clear h9
  unfold q_ok42 at hok
  dsimp only at hok
  unfold q_st at hrun
  rw [hcd] at hrun
  replace hrun : (match (generalizing := false) st with
      | .int v :: [] => some (.inl (some (.int v)), h)
      | _ => none) = some r := hrun
  show q_W F B H locs cells slots (q_Q F B h0 r) (q_pc cd i) rls (st.map (q_rv F))
  rw [q_pc_at hcd]
  obtain ⟨hx, hb, hml, hr, hown, hlocks, hini, hwm, hGb, hGk⟩ := id C
  replace hok := Bool.and_eq_true_iff.mp hok
  obtain ⟨hok, hrt⟩ := hok
  replace hok := of_decide_eq_true hok
  cases hok
  replace hrt := of_decide_eq_true hrt
  rw [hrt] at hr
  split at hrun
  · rename_i v
    cases hrun
    have e1 : h.2.2.2.1 - h0.2.2.2.1 = cells := by omega
    have e2 : h.2.2.2.2 - h0.2.2.2.2 = slots := by omega
    show W _ _ _ _ _ _ _ _ _ _ H locs cells slots (vx_MQ _ _ _ _ _ (h.2.2.2.1 - h0.2.2.2.1) (h.2.2.2.2 - h0.2.2.2.2) _) _
    rw [e1, e2]
    refine vx_ret (W.iret hx hb hr (fun t ht hw => ⟨some (.int v), rfl, rfl, State.WarmedH.trans hwm hw, by rw [ht]; exact hR⟩) hS.2.2 hd hlocks)
  · cases hrun
theorem m_43 (E : q_E F X sk) (HT : q_T T mt sk) (C : q_B F B (q_cn oi) cc nL ret ini) (hcd : cd[i]? = some (43, info, c0, pc0, ins, len)) (hok : q_ok T mt oi cc ret ini cd i (43, info, c0, pc0, ins, len) = true)
    (hrun : q_st X sb cd call k i ls st h = some r) : q_J F B nL cd h0 (q_Q F B h0 r) i ls st h := by
  intro H locs cells slots rls hR hS hL hc hs
  have h9 := Bool.and_eq_true_iff.mp (show (decide (decode cc pc0 = .ok (ins, len)) && q_ok43 T mt oi cc ret ini cd i (43, info, c0, pc0, ins, len)) = true from hok)
  have hd : decode cc pc0 = .ok (ins, len) := of_decide_eq_true h9.1
  replace hok := h9.2
  clear h9
  unfold q_ok43 at hok
  dsimp only at hok
  unfold q_st at hrun
  rw [hcd] at hrun
  replace hrun : (match (generalizing := false) st with
      | .int v :: [] => if v = 0 ∨ v = 1 then some (.inl (some (.int v)), h) else none
      | _ => none) = some r := hrun
  show q_W F B H locs cells slots (q_Q F B h0 r) (q_pc cd i) rls (st.map (q_rv F))
  rw [q_pc_at hcd]
  obtain ⟨hx, hb, hml, hr, hown, hlocks, hini, hwm, hGb, hGk⟩ := id C
  replace hok := Bool.and_eq_true_iff.mp hok
  obtain ⟨hok, hrt⟩ := hok
  replace hok := of_decide_eq_true hok
  cases hok
  replace hrt := of_decide_eq_true hrt
  rw [hrt] at hr
  split at hrun
  · rename_i v
    split at hrun
    rotate_left
    · cases hrun
    rename_i hv01
    cases hrun
    have e1 : h.2.2.2.1 - h0.2.2.2.1 = cells := by omega
    have e2 : h.2.2.2.2 - h0.2.2.2.2 = slots := by omega
    show W _ _ _ _ _ _ _ _ _ _ H locs cells slots (vx_MQ _ _ _ _ _ (h.2.2.2.1 - h0.2.2.2.1) (h.2.2.2.2 - h0.2.2.2.2) _) _
    rw [e1, e2]
    refine vx_ret (W.zret hx hb hr (by rcases hv01 with rfl | rfl <;> rfl) (fun t ht hw => ⟨some (.int v), rfl, rfl, State.WarmedH.trans hwm hw, by rw [ht]; exact hR⟩) hS.2.2 hd hlocks)
  · cases hrun
theorem m_44 (E : q_E F X sk) (HT : q_T T mt sk) (C : q_B F B (q_cn oi) cc nL ret ini) (hcd : cd[i]? = some (44, info, c0, pc0, ins, len)) (hok : q_ok T mt oi cc ret ini cd i (44, info, c0, pc0, ins, len) = true)
    (hrun : q_st X sb cd call k i ls st h = some r) : q_J F B nL cd h0 (q_Q F B h0 r) i ls st h := by
  intro H locs cells slots rls hR hS hL hc hs
  have h9 := Bool.and_eq_true_iff.mp (show (decide (decode cc pc0 = .ok (ins, len)) && q_ok44 T mt oi cc ret ini cd i (44, info, c0, pc0, ins, len)) = true from hok)
  have hd : decode cc pc0 = .ok (ins, len) := of_decide_eq_true h9.1
  replace hok := h9.2
  clear h9
  unfold q_ok44 at hok
  dsimp only at hok
  unfold q_st at hrun
  rw [hcd] at hrun
  replace hrun : (match (generalizing := false) st with
      | [] => some (.inl none, h)
      | _ => none) = some r := hrun
  show q_W F B H locs cells slots (q_Q F B h0 r) (q_pc cd i) rls (st.map (q_rv F))
  rw [q_pc_at hcd]
  obtain ⟨hx, hb, hml, hr, hown, hlocks, hini, hwm, hGb, hGk⟩ := id C
  replace hok := Bool.and_eq_true_iff.mp hok
  obtain ⟨hok, hrt⟩ := hok
  replace hok := of_decide_eq_true hok
  cases hok
  replace hrt := of_decide_eq_true hrt
  rw [hrt] at hr
  split at hrun
  · skip
    cases hrun
    have e1 : h.2.2.2.1 - h0.2.2.2.1 = cells := by omega
    have e2 : h.2.2.2.2 - h0.2.2.2.2 = slots := by omega
    show W _ _ _ _ _ _ _ _ _ _ H locs cells slots (vx_MQ _ _ _ _ _ (h.2.2.2.1 - h0.2.2.2.1) (h.2.2.2.2 - h0.2.2.2.2) _) _
    rw [e1, e2]
    refine vx_ret (W.vret hx hb hr (fun t ht hw => ⟨none, rfl, rfl, State.WarmedH.trans hwm hw, by rw [ht]; exact hR⟩) hS.2.2 hd hlocks)
  · cases hrun
theorem m_45 (E : q_E F X sk) (HT : q_T T mt sk) (C : q_B F B (q_cn oi) cc nL ret ini) (hcd : cd[i]? = some (45, info, c0, pc0, ins, len)) (hok : q_ok T mt oi cc ret ini cd i (45, info, c0, pc0, ins, len) = true)
    (hrun : q_st X sb cd call k i ls st h = some r) (kk : ∀ i' ls' st' h', k i' ls' st' h' = some r → q_J F B nL cd h0 Q i' ls' st' h') : q_J F B nL cd h0 Q i ls st h := by
  intro H locs cells slots rls hR hS hL hc hs
  have h9 := Bool.and_eq_true_iff.mp (show (decide (decode cc pc0 = .ok (ins, len)) && q_ok45 T mt oi cc ret ini cd i (45, info, c0, pc0, ins, len)) = true from hok)
  have hd : decode cc pc0 = .ok (ins, len) := of_decide_eq_true h9.1
  replace hok := h9.2
  clear h9
  unfold q_ok45 at hok
  dsimp only at hok
  unfold q_st at hrun
  rw [hcd] at hrun
  replace hrun : (match (generalizing := false) st with
      | .int x :: r => if q_out x (info.length - 1) then k (info.getD 0 0) ls r h else k (info.getD (x.toNatClampNeg + 1) 0) ls r h
      | _ => none) = some r := hrun
  show q_W F B H locs cells slots Q (q_pc cd i) rls (st.map (q_rv F))
  rw [q_pc_at hcd]
  obtain ⟨hx, hb, hml, hr, hown, hlocks, hini, hwm, hGb, hGk⟩ := id C
  split at hok
  · rename_i dflt lo hi offs
    simp only [Bool.and_eq_true, decide_eq_true_eq] at hok
    obtain ⟨⟨⟨⟨⟨hlo, hhi⟩, hsz⟩, hlt⟩, htd⟩, hall⟩ := hok
    subst hlo
    have hi9 : hi = (offs.size : Int) - 1 := by omega
    split at hrun
    · rename_i x rr
      have hln : info.length - 1 = offs.size := by omega
      rw [hln] at hrun
      split at hrun
      · rename_i ho
        have kk := kk _ _ _ _ hrun H locs cells slots rls hR hS hL hc hs
        refine lv_tableOut hx hb hd ?_ (q_tg_of htd) kk
        rcases ho with ho | ho
        · exact Or.inl (by have := Int32.lt_iff_toInt_lt.mp ho; simpa using this)
        · have hxx : x.toNatClampNeg = x.toInt.toNat := rfl
          by_cases hneg : x.toInt < 0
          · exact Or.inl hneg
          · exact Or.inr (by omega)
      · rename_i ho
        have kk := kk _ _ _ _ hrun H locs cells slots rls hR hS hL hc hs
        have hx0 : ¬ x.toInt < 0 := fun e => ho (Or.inl (Int32.lt_iff_toInt_lt.mpr (by simpa using e)))
        have hx1 : x.toNatClampNeg = x.toInt.toNat := rfl
        have hx2 : x.toNatClampNeg < offs.size := Nat.not_le.mp (fun e => ho (Or.inr e))
        have hg := List.all_eq_true.mp hall x.toNatClampNeg (List.mem_range.mpr hx2)
        refine lv_tableIn (off := offs.getD x.toNatClampNeg 0) hx hb hd hx0 (by omega) ?_ (q_tg_of hg) kk
        rw [show (x.toInt - 0).toNat = x.toNatClampNeg by rw [hx1]; simp]
        rw [Array.getElem?_eq_getElem hx2]
        simp [Array.getD, hx2]
    · cases hrun
  · cases hok
theorem m_46 (E : q_E F X sk) (HT : q_T T mt sk) (C : q_B F B (q_cn oi) cc nL ret ini) (hcd : cd[i]? = some (46, info, c0, pc0, ins, len)) (hok : q_ok T mt oi cc ret ini cd i (46, info, c0, pc0, ins, len) = true)
    (hrun : q_st X sb cd call k i ls st h = some r) (kk : ∀ i' ls' st' h', k i' ls' st' h' = some r → q_J F B nL cd h0 Q i' ls' st' h') : q_J F B nL cd h0 Q i ls st h := by
  intro H locs cells slots rls hR hS hL hc hs
  have h9 := Bool.and_eq_true_iff.mp (show (decide (decode cc pc0 = .ok (ins, len)) && q_ok46 T mt oi cc ret ini cd i (46, info, c0, pc0, ins, len)) = true from hok)
  have hd : decode cc pc0 = .ok (ins, len) := of_decide_eq_true h9.1
  replace hok := h9.2
  clear h9
  unfold q_ok46 at hok
  dsimp only at hok
  unfold q_st at hrun
  rw [hcd] at hrun
  replace hrun : (match (generalizing := false) st with
      | .long y :: .long x :: r => k (i + 1) ls (.int (lg_cmp x y) :: r) h
      | _ => none) = some r := hrun
  show q_W F B H locs cells slots Q (q_pc cd i) rls (st.map (q_rv F))
  rw [q_pc_at hcd]
  obtain ⟨hx, hb, hml, hr, hown, hlocks, hini, hwm, hGb, hGk⟩ := id C
  replace hok := Bool.and_eq_true_iff.mp hok
  obtain ⟨hn, hok⟩ := hok
  replace hok := of_decide_eq_true hok
  cases hok
  split at hrun
  · rename_i y x rr
    have kk := kk _ _ _ _ hrun H locs cells slots rls hR hS hL hc hs
    rw [q_nx_of hn] at kk
    exact W.lcmp hx hb hd kk
  · cases hrun
theorem m_47 (E : q_E F X sk) (HT : q_T T mt sk) (C : q_B F B (q_cn oi) cc nL ret ini) (hcd : cd[i]? = some (47, info, c0, pc0, ins, len)) (hok : q_ok T mt oi cc ret ini cd i (47, info, c0, pc0, ins, len) = true)
    (hrun : q_st X sb cd call k i ls st h = some r) (kk : ∀ i' ls' st' h', k i' ls' st' h' = some r → q_J F B nL cd h0 Q i' ls' st' h') : q_J F B nL cd h0 Q i ls st h := by
  intro H locs cells slots rls hR hS hL hc hs
  have h9 := Bool.and_eq_true_iff.mp (show (decide (decode cc pc0 = .ok (ins, len)) && q_ok47 T mt oi cc ret ini cd i (47, info, c0, pc0, ins, len)) = true from hok)
  have hd : decode cc pc0 = .ok (ins, len) := of_decide_eq_true h9.1
  replace hok := h9.2
  clear h9
  unfold q_ok47 at hok
  dsimp only at hok
  unfold q_st at hrun
  rw [hcd] at hrun
  replace hrun : (k (i + 1) ls (.long (Int64.ofNat (info.getD 0 0)) :: st) h) = some r := hrun
  show q_W F B H locs cells slots Q (q_pc cd i) rls (st.map (q_rv F))
  rw [q_pc_at hcd]
  obtain ⟨hx, hb, hml, hr, hown, hlocks, hini, hwm, hGb, hGk⟩ := id C
  replace hok := Bool.and_eq_true_iff.mp hok
  obtain ⟨h8, hok⟩ := hok
  replace h8 := Bool.and_eq_true_iff.mp h8
  obtain ⟨hn, h7⟩ := h8
  simp only [beq_iff_eq] at h7
  subst h7
  have kk := kk _ _ _ _ hrun H locs cells slots rls hR hS hL hc hs
  rw [q_nx_of hn] at kk
  split at hok
  · simp only [beq_iff_eq] at hok
    exact lv_lconst hx hb hd (by rw [hok]) kk
  · cases hok
end Rows3
