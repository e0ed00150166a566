/-! ===== ROWS on cells ===== -/
section Rows2
variable {F : Fx} {B : Bd} {oi : Nat} {cc : ByteArray} {nL : Nat} {ret : Option FieldType} {ini : Bool} {X : Sx} {sk : List (String × Nat × String)} {T : Tb} {mt : List Mr}
variable {sb : List (List Int32)} {cd : List En} {call : Nat → List Value → Hp → Rs} {k : Nat → Lc → List Value → Hp → Rs} {i : Nat} {ls : Lc} {st : List Value} {h h0 : Hp} {r : Ou × Hp} {Q : State → Prop} {info : List Nat} {c0 : Int32} {pc0 : Nat} {ins : Instr} {len : Nat}
theorem q_R_of {own : String} (C : q_B F B own cc nL ret ini) {H : Heap} {locs : List Loc} (hP : va_P F.D vwCl (q_ws F.base F.cs h) H) (hS : va_S (q_A F) B.s.heap H locs) : q_R F h H := by
  obtain ⟨-, -, -, -, -, -, -, -, h1, h2⟩ := C
  refine ⟨hP, Nat.le_trans h1 hS.1, fun q hq => ?_⟩
  rw [hS.2.1 q (Nat.lt_of_lt_of_le hq h1) (fun e => Nat.not_le.mpr hq e)]
  exact h2 q hq
theorem q_X {own : String} (E : q_E F X sk) (C : q_B F B own cc nL ret ini) : va_X F.b X.1 X.2 B.s B.s.heap := by
  obtain ⟨-, -, -, ⟨scr, h1, h2, h3⟩, hb, -⟩ := E
  obtain ⟨-, -, -, -, -, -, -, hw, -, hk⟩ := C
  exact ⟨scr, by rw [hk _ hb]; exact h1, State.isArrayOf_alike hw.alike h2, h3⟩
theorem q_obj {a ci n : Nat} {rs : List (Option Nat)} (hz : h.1[a]? = some (ci, n, rs)) (hci : ci < 100) : (q_ws F.base F.cs h)[a]? = some (F.base + a, .inr (ci, q_fs F.base ci n rs (h.2.1 a))) := by
  rw [q_ws_at hz]
  simp [q_cell, hci]
theorem q_arr {a t n : Nat} {rs : List (Option Nat)} (hz : h.1[a]? = some (t, n, rs)) (ht : t = 100 ∨ t = 101) : (q_ws F.base F.cs h)[a]? = some (F.base + a, .inl (F.cs t, n, .inl (h.2.1 a))) := by
  rw [q_ws_at hz]
  rcases ht with rfl | rfl <;> simp [q_cell]
theorem q_arl {a n : Nat} {rs : List (Option Nat)} (hz : h.1[a]? = some (102, n, rs)) : (q_ws F.base F.cs h)[a]? = some (F.base + a, .inl (F.cs 102, n, .inr (.inl (h.2.2.1 a)))) := by
  rw [q_ws_at hz]
  simp [q_cell]
theorem q_arq {a n : Nat} {rs : List (Option Nat)} (hz : h.1[a]? = some (103, n, rs)) : (q_ws F.base F.cs h)[a]? = some (F.base + a, .inl (F.cs 103, n, .inr (.inr (.inr (.inr (fun k => (rs.getD k none).map (fun r => F.base + r))))))) := by
  rw [q_ws_at hz]
  simp [q_cell]
theorem q_upd (f : Nat → Int32) (k : Nat) (x : Int32) : upd f k x = va_up f k x := rfl
theorem q_updL (f : Nat → Int64) (k : Nat) (x : Int64) : vp_updL f k x = va_up f k x := rfl
theorem q_lt13 {ci : Nat} {w : vw_C} (hw : vwCl[ci]? = some w) : ci < 13 := (List.getElem?_eq_some_iff.mp hw).1
theorem m_15 (E : q_E F X sk) (HT : q_T T mt sk) (C : q_B F B (q_cn oi) cc nL ret ini) (hcd : cd[i]? = some (15, info, c0, pc0, ins, len)) (hok : q_ok T mt oi cc ret ini cd i (15, info, c0, pc0, ins, len) = true)
    (hrun : q_st X sb cd call k i ls st h = some r) (kk : ∀ i' ls' st' h', k i' ls' st' h' = some r → q_J F B nL cd h0 Q i' ls' st' h') : q_J F B nL cd h0 Q i ls st h := by
  intro H locs cells slots rls hR hS hL hc hs
  have h9 := Bool.and_eq_true_iff.mp (show (decide (decode cc pc0 = .ok (ins, len)) && q_ok15 T mt oi cc ret ini cd i (15, info, c0, pc0, ins, len)) = true from hok)
  have hd : decode cc pc0 = .ok (ins, len) := of_decide_eq_true h9.1
  replace hok := h9.2
  clear h9
  unfold q_ok15 at hok
  dsimp only at hok
  unfold q_st at hrun
  rw [hcd] at hrun
  replace hrun : (match (generalizing := false) st with
      | .ref a :: r => bif q_tag h.1 a == info.getD 0 0 && Nat.blt (info.getD 1 0) (q_len h.1 a) then k (i + 1) ls (.int (h.2.1 a (info.getD 1 0)) :: r) h else none
      | _ => none) = some r := hrun
  show q_W F B H locs cells slots Q (q_pc cd i) rls (st.map (q_rv F))
  rw [q_pc_at hcd]
  obtain ⟨hx, hb, hml, hr, hown, hlocks, hini, hwm, hGb, hGk⟩ := id C
  replace hok := Bool.and_eq_true_iff.mp hok
  obtain ⟨h8, hok⟩ := hok
  replace h8 := Bool.and_eq_true_iff.mp h8
  obtain ⟨h8, hir⟩ := h8
  replace h8 := Bool.and_eq_true_iff.mp h8
  obtain ⟨hn, h7⟩ := h8
  simp only [beq_iff_eq] at h7
  subst h7
  split at hrun
  · rename_i a rr
    rw [Bool.cond_eq_ite] at hrun
    split at hrun
    · rename_i hcond
      rw [Bool.and_eq_true, beq_iff_eq] at hcond
      obtain ⟨htag, hlt⟩ := hcond
      have hlt := Nat.blt_eq.mp hlt
      split at hok
      · replace hok := of_decide_eq_true hok
        obtain ⟨w, hw, hkw, hlk⟩ := HT.2.1 _ hok
        dsimp only at hw hkw hlk
        have h13 := q_lt13 hw
        obtain ⟨n, rs, hz, hl, hrf⟩ := q_tag_z htag (by omega)
        rw [hl] at hlt
        have hcf := HT.1 _ _ hw
        have hob := q_obj (F := F) hz (by omega)
        have kk := kk _ _ _ _ hrun H locs cells slots rls hR hS hL hc hs
        rw [q_nx_of hn] at kk
        have hv := q_fs_at (base := F.base) (ci := info.getD 0 0) (rs := rs) (f := h.2.1 a) hlt
        simp only [beq_iff_eq] at hir
        rw [hir] at hv
        exact va_get (D := F.D) (C := w.1) (T := w.2.1) (N := w.2.2) hx hb (fun x hx => q_word E C (hcf.1 x hx)) (fun _ h => h) hown (q_K E C) hR.1 a hob hw _ hkw (q_word E C hlk) (fun _ h => h) hv hd kk
      · cases hok
    · cases hrun
  · cases hrun
theorem m_16 (E : q_E F X sk) (HT : q_T T mt sk) (C : q_B F B (q_cn oi) cc nL ret ini) (hcd : cd[i]? = some (16, info, c0, pc0, ins, len)) (hok : q_ok T mt oi cc ret ini cd i (16, info, c0, pc0, ins, len) = true)
    (hrun : q_st X sb cd call k i ls st h = some r) (kk : ∀ i' ls' st' h', k i' ls' st' h' = some r → q_J F B nL cd h0 Q i' ls' st' h') : q_J F B nL cd h0 Q i ls st h := by
  intro H locs cells slots rls hR hS hL hc hs
  have h9 := Bool.and_eq_true_iff.mp (show (decide (decode cc pc0 = .ok (ins, len)) && q_ok16 T mt oi cc ret ini cd i (16, info, c0, pc0, ins, len)) = true from hok)
  have hd : decode cc pc0 = .ok (ins, len) := of_decide_eq_true h9.1
  replace hok := h9.2
  clear h9
  unfold q_ok16 at hok
  dsimp only at hok
  unfold q_st at hrun
  rw [hcd] at hrun
  replace hrun : (match (generalizing := false) st with
      | .ref a :: r => bif q_tag h.1 a == info.getD 0 0 && Nat.blt (info.getD 1 0) (q_len h.1 a) then (match (generalizing := false) q_ref h.1 a (info.getD 1 0) with
        | some (some b) => k (i + 1) ls (.ref b :: r) h
        | _ => none) else none
      | _ => none) = some r := hrun
  show q_W F B H locs cells slots Q (q_pc cd i) rls (st.map (q_rv F))
  rw [q_pc_at hcd]
  obtain ⟨hx, hb, hml, hr, hown, hlocks, hini, hwm, hGb, hGk⟩ := id C
  replace hok := Bool.and_eq_true_iff.mp hok
  obtain ⟨h8, hok⟩ := hok
  replace h8 := Bool.and_eq_true_iff.mp h8
  obtain ⟨h8, hir⟩ := h8
  replace h8 := Bool.and_eq_true_iff.mp h8
  obtain ⟨hn, h7⟩ := h8
  simp only [beq_iff_eq] at h7
  subst h7
  split at hrun
  · rename_i a rr
    rw [Bool.cond_eq_ite] at hrun
    split at hrun
    · rename_i hcond
      rw [Bool.and_eq_true, beq_iff_eq] at hcond
      obtain ⟨htag, hlt⟩ := hcond
      have hlt := Nat.blt_eq.mp hlt
      split at hok
      · replace hok := of_decide_eq_true hok
        obtain ⟨w, hw, hkw, hlk⟩ := HT.2.1 _ hok
        dsimp only at hw hkw hlk
        have h13 := q_lt13 hw
        obtain ⟨n, rs, hz, hl, hrf⟩ := q_tag_z htag (by omega)
        rw [hl] at hlt
        have hcf := HT.1 _ _ hw
        have hob := q_obj (F := F) hz (by omega)
        rw [hrf] at hrun
        split at hrun
        · rename_i b hrb
          have kk := kk _ _ _ _ hrun H locs cells slots rls hR hS hL hc hs
          rw [q_nx_of hn] at kk
          have hv := q_fs_at (base := F.base) (ci := info.getD 0 0) (rs := rs) (f := h.2.1 a) hlt
          have e8 : rs.getD (info.getD 1 0) none = some b := by rw [List.getD_eq_getElem?_getD (l := rs), hrb]; rfl
          rw [if_pos hir, e8] at hv
          exact va_get (D := F.D) (C := w.1) (T := w.2.1) (N := w.2.2) hx hb (fun x hx => q_word E C (hcf.1 x hx)) (fun _ h => h) hown (q_K E C) hR.1 a hob hw _ hkw (q_word E C hlk) (fun _ h => h) hv hd kk
        · cases hrun
      · cases hok
    · cases hrun
  · cases hrun
theorem m_17 (E : q_E F X sk) (HT : q_T T mt sk) (C : q_B F B (q_cn oi) cc nL ret ini) (hcd : cd[i]? = some (17, info, c0, pc0, ins, len)) (hok : q_ok T mt oi cc ret ini cd i (17, info, c0, pc0, ins, len) = true)
    (hrun : q_st X sb cd call k i ls st h = some r) (kk : ∀ i' ls' st' h', k i' ls' st' h' = some r → q_J F B nL cd h0 Q i' ls' st' h') : q_J F B nL cd h0 Q i ls st h := by
  intro H locs cells slots rls hR hS hL hc hs
  have h9 := Bool.and_eq_true_iff.mp (show (decide (decode cc pc0 = .ok (ins, len)) && q_ok17 T mt oi cc ret ini cd i (17, info, c0, pc0, ins, len)) = true from hok)
  have hd : decode cc pc0 = .ok (ins, len) := of_decide_eq_true h9.1
  replace hok := h9.2
  clear h9
  unfold q_ok17 at hok
  dsimp only at hok
  unfold q_st at hrun
  rw [hcd] at hrun
  replace hrun : (match (generalizing := false) st with
      | .int x :: .ref a :: r => bif q_tag h.1 a == info.getD 0 0 && Nat.blt (info.getD 1 0) (q_len h.1 a) then k (i + 1) ls r (q_ui h a (info.getD 1 0) x) else none
      | _ => none) = some r := hrun
  show q_W F B H locs cells slots Q (q_pc cd i) rls (st.map (q_rv F))
  rw [q_pc_at hcd]
  obtain ⟨hx, hb, hml, hr, hown, hlocks, hini, hwm, hGb, hGk⟩ := id C
  replace hok := Bool.and_eq_true_iff.mp hok
  obtain ⟨h8, hok⟩ := hok
  replace h8 := Bool.and_eq_true_iff.mp h8
  obtain ⟨h8, hiz⟩ := h8
  replace h8 := Bool.and_eq_true_iff.mp h8
  obtain ⟨h8, hir⟩ := h8
  replace h8 := Bool.and_eq_true_iff.mp h8
  obtain ⟨hn, h7⟩ := h8
  simp only [beq_iff_eq] at h7
  subst h7
  simp only [beq_iff_eq] at hir hiz
  split at hrun
  · rename_i x a rr
    rw [Bool.cond_eq_ite] at hrun
    split at hrun
    · rename_i hcond
      rw [Bool.and_eq_true, beq_iff_eq] at hcond
      obtain ⟨htag, hlt⟩ := hcond
      have hlt := Nat.blt_eq.mp hlt
      split at hok
      · replace hok := of_decide_eq_true hok
        obtain ⟨w, hw, hkw, hlk⟩ := HT.2.1 _ hok
        dsimp only at hw hkw hlk
        have h13 := q_lt13 hw
        obtain ⟨n, rs, hz, hl, hrf⟩ := q_tag_z htag (by omega)
        rw [hl] at hlt
        have hcf := HT.1 _ _ hw
        have hob := q_obj (F := F) hz (by omega)
        obtain ⟨ty, hty, hnm, hfl⟩ := hcf.2
        obtain ⟨hde, -, hfi⟩ := hfl _ hkw
        obtain ⟨hfin, htk⟩ := hfi hir
        rw [hiz] at htk
        refine va_put (D := F.D) (C := w.1) (T := w.2.1) (N := w.2.2) (v := .int x) (ty := ty (info.getD 1 0)) hx hb (fun x hx => q_word E C (hcf.1 x hx)) (fun _ h => h) ty hty hnm hown (q_K E C) hR.1 q_ws_D hS a hob hw _ hkw (q_word E C hlk) (fun _ h => h) hfin (hty _ hkw) (by rw [htk]; rfl) (by rw [htk]; rfl) (by rw [q_fs_len]; exact hlt) hd (fun H1 locs1 hP hD hS => ?_)
        rw [q_fs_i x hlt hir] at hP
        have hP2 : va_P F.D vwCl (q_ws F.base F.cs (q_ui h a (info.getD 1 0) x)) H1 := by
          rw [← q_ws_ui (base := F.base) (cs := F.cs) x hz]
          have e9 : q_cell F.base F.cs (info.getD 0 0, n, rs) (va_up (h.2.1 a) (info.getD 1 0) x) (h.2.2.1 a) = .inr (info.getD 0 0, q_fs F.base (info.getD 0 0) n rs (va_up (h.2.1 a) (info.getD 1 0) x)) := by unfold q_cell; rw [if_pos (show (info.getD 0 0, n, rs).1 < 100 by show info.getD 0 0 < 100; omega)]
          rw [e9]; exact hP
        have kk := kk _ _ _ _ hrun H1 locs1 cells slots rls (q_R_of C hP2 hS) hS hL hc hs
        rw [q_nx_of hn] at kk
        exact kk
      · cases hok
    · cases hrun
  · cases hrun
theorem m_18 (E : q_E F X sk) (HT : q_T T mt sk) (C : q_B F B (q_cn oi) cc nL ret ini) (hcd : cd[i]? = some (18, info, c0, pc0, ins, len)) (hok : q_ok T mt oi cc ret ini cd i (18, info, c0, pc0, ins, len) = true)
    (hrun : q_st X sb cd call k i ls st h = some r) (kk : ∀ i' ls' st' h', k i' ls' st' h' = some r → q_J F B nL cd h0 Q i' ls' st' h') : q_J F B nL cd h0 Q i ls st h := by
  intro H locs cells slots rls hR hS hL hc hs
  have h9 := Bool.and_eq_true_iff.mp (show (decide (decode cc pc0 = .ok (ins, len)) && q_ok18 T mt oi cc ret ini cd i (18, info, c0, pc0, ins, len)) = true from hok)
  have hd : decode cc pc0 = .ok (ins, len) := of_decide_eq_true h9.1
  replace hok := h9.2
  clear h9
  unfold q_ok18 at hok
  dsimp only at hok
  unfold q_st at hrun
  rw [hcd] at hrun
  replace hrun : (match (generalizing := false) st with
      | .int x :: .ref a :: r => bif q_tag h.1 a == info.getD 0 0 && Nat.blt (info.getD 1 0) (q_len h.1 a) then (if x = 0 ∨ x = 1 then k (i + 1) ls r (q_ui h a (info.getD 1 0) x) else none) else none
      | _ => none) = some r := hrun
  show q_W F B H locs cells slots Q (q_pc cd i) rls (st.map (q_rv F))
  rw [q_pc_at hcd]
  obtain ⟨hx, hb, hml, hr, hown, hlocks, hini, hwm, hGb, hGk⟩ := id C
  replace hok := Bool.and_eq_true_iff.mp hok
  obtain ⟨h8, hok⟩ := hok
  replace h8 := Bool.and_eq_true_iff.mp h8
  obtain ⟨h8, hiz⟩ := h8
  replace h8 := Bool.and_eq_true_iff.mp h8
  obtain ⟨h8, hir⟩ := h8
  replace h8 := Bool.and_eq_true_iff.mp h8
  obtain ⟨hn, h7⟩ := h8
  simp only [beq_iff_eq] at h7
  subst h7
  simp only [beq_iff_eq] at hir hiz
  split at hrun
  · rename_i x a rr
    rw [Bool.cond_eq_ite] at hrun
    split at hrun
    · rename_i hcond
      rw [Bool.and_eq_true, beq_iff_eq] at hcond
      obtain ⟨htag, hlt⟩ := hcond
      have hlt := Nat.blt_eq.mp hlt
      split at hrun
      rotate_left
      · cases hrun
      rename_i hx01
      split at hok
      · replace hok := of_decide_eq_true hok
        obtain ⟨w, hw, hkw, hlk⟩ := HT.2.1 _ hok
        dsimp only at hw hkw hlk
        have h13 := q_lt13 hw
        obtain ⟨n, rs, hz, hl, hrf⟩ := q_tag_z htag (by omega)
        rw [hl] at hlt
        have hcf := HT.1 _ _ hw
        have hob := q_obj (F := F) hz (by omega)
        obtain ⟨ty, hty, hnm, hfl⟩ := hcf.2
        obtain ⟨hde, -, hfi⟩ := hfl _ hkw
        obtain ⟨hfin, htk⟩ := hfi hir
        rw [hiz] at htk
        refine va_put (D := F.D) (C := w.1) (T := w.2.1) (N := w.2.2) (v := .int x) (ty := ty (info.getD 1 0)) hx hb (fun x hx => q_word E C (hcf.1 x hx)) (fun _ h => h) ty hty hnm hown (q_K E C) hR.1 q_ws_D hS a hob hw _ hkw (q_word E C hlk) (fun _ h => h) hfin (hty _ hkw) (by rw [htk]; rcases hx01 with rfl | rfl <;> rfl) (by rw [htk]; rcases hx01 with rfl | rfl <;> rfl) (by rw [q_fs_len]; exact hlt) hd (fun H1 locs1 hP hD hS => ?_)
        rw [q_fs_i x hlt hir] at hP
        have hP2 : va_P F.D vwCl (q_ws F.base F.cs (q_ui h a (info.getD 1 0) x)) H1 := by
          rw [← q_ws_ui (base := F.base) (cs := F.cs) x hz]
          have e9 : q_cell F.base F.cs (info.getD 0 0, n, rs) (va_up (h.2.1 a) (info.getD 1 0) x) (h.2.2.1 a) = .inr (info.getD 0 0, q_fs F.base (info.getD 0 0) n rs (va_up (h.2.1 a) (info.getD 1 0) x)) := by unfold q_cell; rw [if_pos (show (info.getD 0 0, n, rs).1 < 100 by show info.getD 0 0 < 100; omega)]
          rw [e9]; exact hP
        have kk := kk _ _ _ _ hrun H1 locs1 cells slots rls (q_R_of C hP2 hS) hS hL hc hs
        rw [q_nx_of hn] at kk
        exact kk
      · cases hok
    · cases hrun
  · cases hrun
theorem m_19 (E : q_E F X sk) (HT : q_T T mt sk) (C : q_B F B (q_cn oi) cc nL ret ini) (hcd : cd[i]? = some (19, info, c0, pc0, ins, len)) (hok : q_ok T mt oi cc ret ini cd i (19, info, c0, pc0, ins, len) = true)
    (hrun : q_st X sb cd call k i ls st h = some r) (kk : ∀ i' ls' st' h', k i' ls' st' h' = some r → q_J F B nL cd h0 Q i' ls' st' h') : q_J F B nL cd h0 Q i ls st h := by
  intro H locs cells slots rls hR hS hL hc hs
  have h9 := Bool.and_eq_true_iff.mp (show (decide (decode cc pc0 = .ok (ins, len)) && q_ok19 T mt oi cc ret ini cd i (19, info, c0, pc0, ins, len)) = true from hok)
  have hd : decode cc pc0 = .ok (ins, len) := of_decide_eq_true h9.1
  replace hok := h9.2
  clear h9
  unfold q_ok19 at hok
  dsimp only at hok
  unfold q_st at hrun
  rw [hcd] at hrun
  replace hrun : (match (generalizing := false) st with
      | .ref b :: .ref a :: r => bif q_tag h.1 a == info.getD 0 0 && Nat.blt (info.getD 1 0) (q_len h.1 a) && Nat.blt (info.getD 1 0) (q_rl h.1 a) then k (i + 1) ls r (q_uz h a (info.getD 1 0) (some b)) else none
      | _ => none) = some r := hrun
  show q_W F B H locs cells slots Q (q_pc cd i) rls (st.map (q_rv F))
  rw [q_pc_at hcd]
  obtain ⟨hx, hb, hml, hr, hown, hlocks, hini, hwm, hGb, hGk⟩ := id C
  replace hok := Bool.and_eq_true_iff.mp hok
  obtain ⟨h8, hok⟩ := hok
  replace h8 := Bool.and_eq_true_iff.mp h8
  obtain ⟨h8, hoi⟩ := h8
  replace h8 := Bool.and_eq_true_iff.mp h8
  obtain ⟨h8, hinit⟩ := h8
  replace h8 := Bool.and_eq_true_iff.mp h8
  obtain ⟨h8, hir⟩ := h8
  replace h8 := Bool.and_eq_true_iff.mp h8
  obtain ⟨hn, h7⟩ := h8
  simp only [beq_iff_eq] at h7 hoi
  subst h7
  split at hrun
  · rename_i b a rr
    rw [Bool.cond_eq_ite] at hrun
    split at hrun
    · rename_i hcond
      rw [Bool.and_eq_true] at hcond
      obtain ⟨hcond, hrs⟩ := hcond
      rw [Bool.and_eq_true, beq_iff_eq] at hcond
      obtain ⟨htag, hlt⟩ := hcond
      have hlt := Nat.blt_eq.mp hlt
      split at hok
      · replace hok := of_decide_eq_true hok
        obtain ⟨w, hw, hkw, hlk⟩ := HT.2.1 _ hok
        dsimp only at hw hkw hlk
        have h13 := q_lt13 hw
        obtain ⟨n, rs, hz, hl, hrf⟩ := q_tag_z htag (by omega)
        rw [hl] at hlt
        have hcf := HT.1 _ _ hw
        have hob := q_obj (F := F) hz (by omega)
        obtain ⟨ty, hty, hnm, hfl⟩ := hcf.2
        obtain ⟨hde, hfi, -⟩ := hfl _ hkw
        obtain ⟨hfin, htk⟩ := hfi hir
        obtain ⟨t1, t2, -⟩ := htk (F.base + b)
        have hon : q_cn oi = w.1 := by rw [hoi]; unfold q_cn; rw [hw]
        rw [hon] at hlk hown
        refine va_putF (D := F.D) (own := w.1) (C := w.1) (T := w.2.1) (N := w.2.2) (v := .ref (F.base + b)) (ty := ty (info.getD 1 0)) hx hb (fun x hx => q_word E C (hcf.1 x hx)) (fun _ h => h) ty hty hnm hown (q_K E C) hR.1 q_ws_D hS a hob hw _ hkw (q_word E C hlk) (fun _ h => h) hfin (hini hinit) hde (hty _ hkw) t1 t2 (by rw [q_fs_len]; exact hlt) hd (fun H1 locs1 hP hD hS => ?_)
        have hrl : info.getD 1 0 < rs.length := by simpa [q_rl, hz] using hrs
        rw [q_fs_r hlt hrl hir] at hP
        have hP2 : va_P F.D vwCl (q_ws F.base F.cs (q_uz h a (info.getD 1 0) (some b))) H1 := by
          rw [← q_ws_uz (base := F.base) (cs := F.cs) (some b) hz]
          have e9 : q_cell F.base F.cs (info.getD 0 0, n, rs.set (info.getD 1 0) (some b)) (h.2.1 a) (h.2.2.1 a) = .inr (info.getD 0 0, q_fs F.base (info.getD 0 0) n (rs.set (info.getD 1 0) (some b)) (h.2.1 a)) := by unfold q_cell; rw [if_pos (show info.getD 0 0 < 100 by omega)]
          dsimp only
          rw [e9]; exact hP
        have kk := kk _ _ _ _ hrun H1 locs1 cells slots rls (q_R_of C hP2 hS) hS hL hc hs
        rw [q_nx_of hn] at kk
        exact kk
      · cases hok
    · cases hrun
  · cases hrun
theorem m_20 (E : q_E F X sk) (HT : q_T T mt sk) (C : q_B F B (q_cn oi) cc nL ret ini) (hcd : cd[i]? = some (20, info, c0, pc0, ins, len)) (hok : q_ok T mt oi cc ret ini cd i (20, info, c0, pc0, ins, len) = true)
    (hrun : q_st X sb cd call k i ls st h = some r) (kk : ∀ i' ls' st' h', k i' ls' st' h' = some r → q_J F B nL cd h0 Q i' ls' st' h') : q_J F B nL cd h0 Q i ls st h := by
  intro H locs cells slots rls hR hS hL hc hs
  have h9 := Bool.and_eq_true_iff.mp (show (decide (decode cc pc0 = .ok (ins, len)) && q_ok20 T mt oi cc ret ini cd i (20, info, c0, pc0, ins, len)) = true from hok)
  have hd : decode cc pc0 = .ok (ins, len) := of_decide_eq_true h9.1
  replace hok := h9.2
  clear h9
  unfold q_ok20 at hok
  dsimp only at hok
  unfold q_st at hrun
  rw [hcd] at hrun
  replace hrun : (match (generalizing := false) st with
      | .int j :: .ref a :: r => bif q_tag h.1 a == info.getD 0 0 then (if q_out j (q_len h.1 a) then none else k (i + 1) ls (.int (h.2.1 a j.toNatClampNeg) :: r) h) else none
      | _ => none) = some r := hrun
  show q_W F B H locs cells slots Q (q_pc cd i) rls (st.map (q_rv F))
  rw [q_pc_at hcd]
  obtain ⟨hx, hb, hml, hr, hown, hlocks, hini, hwm, hGb, hGk⟩ := id C
  replace hok := Bool.and_eq_true_iff.mp hok
  obtain ⟨h8, hok⟩ := hok
  replace h8 := Bool.and_eq_true_iff.mp h8
  obtain ⟨hn, h7⟩ := h8
  simp only [beq_iff_eq] at h7
  subst h7
  split at hrun
  · rename_i j a rr
    rw [Bool.cond_eq_ite] at hrun
    split at hrun
    · rename_i htag
      rw [beq_iff_eq] at htag
      split at hrun
      · cases hrun
      · rename_i hin
        have kk := kk _ _ _ _ hrun H locs cells slots rls hR hS hL hc hs
        rw [q_nx_of hn] at kk
        split at hok
        · simp only [beq_iff_eq] at hok
          rw [hok] at htag
          obtain ⟨n, rs, hz, hl, hrf⟩ := q_tag_z htag (by decide)
          rw [hl] at hin
          exact va_iald (D := F.D) hx hb (q_K E C) hR.1 a 0 (q_arr hz (Or.inl rfl)) rfl hin hd kk
        · simp only [beq_iff_eq] at hok
          rw [hok] at htag
          obtain ⟨n, rs, hz, hl, hrf⟩ := q_tag_z htag (by decide)
          rw [hl] at hin
          exact va_bald (D := F.D) hx hb (q_K E C) hR.1 a 1 (q_arr hz (Or.inr rfl)) rfl hin hd kk
        · cases hok
    · cases hrun
  · cases hrun
theorem m_21 (E : q_E F X sk) (HT : q_T T mt sk) (C : q_B F B (q_cn oi) cc nL ret ini) (hcd : cd[i]? = some (21, info, c0, pc0, ins, len)) (hok : q_ok T mt oi cc ret ini cd i (21, info, c0, pc0, ins, len) = true)
    (hrun : q_st X sb cd call k i ls st h = some r) (kk : ∀ i' ls' st' h', k i' ls' st' h' = some r → q_J F B nL cd h0 Q i' ls' st' h') : q_J F B nL cd h0 Q i ls st h := by
  intro H locs cells slots rls hR hS hL hc hs
  have h9 := Bool.and_eq_true_iff.mp (show (decide (decode cc pc0 = .ok (ins, len)) && q_ok21 T mt oi cc ret ini cd i (21, info, c0, pc0, ins, len)) = true from hok)
  have hd : decode cc pc0 = .ok (ins, len) := of_decide_eq_true h9.1
  replace hok := h9.2
  clear h9
  unfold q_ok21 at hok
  dsimp only at hok
  unfold q_st at hrun
  rw [hcd] at hrun
  replace hrun : (match (generalizing := false) st with
      | .int x :: .int j :: .ref a :: r => bif q_tag h.1 a == 100 then (if q_out j (q_len h.1 a) then none else k (i + 1) ls r (q_ui h a j.toNatClampNeg x)) else none
      | _ => none) = some r := hrun
  show q_W F B H locs cells slots Q (q_pc cd i) rls (st.map (q_rv F))
  rw [q_pc_at hcd]
  obtain ⟨hx, hb, hml, hr, hown, hlocks, hini, hwm, hGb, hGk⟩ := id C
  replace hok := Bool.and_eq_true_iff.mp hok
  obtain ⟨hn, hok⟩ := hok
  replace hok := of_decide_eq_true hok
  cases hok
  split at hrun
  · rename_i x j a rr
    rw [Bool.cond_eq_ite] at hrun
    split at hrun
    · rename_i htag
      rw [beq_iff_eq] at htag
      split at hrun
      · cases hrun
      · rename_i hin
        obtain ⟨n, rs, hz, hl, hrf⟩ := q_tag_z htag (by decide)
        rw [hl] at hin
        refine va_iast (D := F.D) hx hb (q_K E C) hR.1 q_ws_D hS a 0 (q_arr hz (Or.inl rfl)) rfl hin hd (fun H1 locs1 hP hD hS => ?_)
        have hP2 : va_P F.D vwCl (q_ws F.base F.cs (q_ui h a j.toNatClampNeg x)) H1 := by
          rw [← q_ws_ui (base := F.base) (cs := F.cs) x hz]
          have e9 : q_cell F.base F.cs (100, n, rs) (va_up (h.2.1 a) j.toNatClampNeg x) (h.2.2.1 a) = .inl (F.cs 100, n, .inl (va_up (h.2.1 a) j.toNatClampNeg x)) := by simp [q_cell]
          rw [e9]; exact hP
        have kk := kk _ _ _ _ hrun H1 locs1 cells slots rls (q_R_of C hP2 hS) hS hL hc hs
        rw [q_nx_of hn] at kk
        exact kk
    · cases hrun
  · cases hrun
theorem m_22 (E : q_E F X sk) (HT : q_T T mt sk) (C : q_B F B (q_cn oi) cc nL ret ini) (hcd : cd[i]? = some (22, info, c0, pc0, ins, len)) (hok : q_ok T mt oi cc ret ini cd i (22, info, c0, pc0, ins, len) = true)
    (hrun : q_st X sb cd call k i ls st h = some r) (kk : ∀ i' ls' st' h', k i' ls' st' h' = some r → q_J F B nL cd h0 Q i' ls' st' h') : q_J F B nL cd h0 Q i ls st h := by
  intro H locs cells slots rls hR hS hL hc hs
  have h9 := Bool.and_eq_true_iff.mp (show (decide (decode cc pc0 = .ok (ins, len)) && q_ok22 T mt oi cc ret ini cd i (22, info, c0, pc0, ins, len)) = true from hok)
  have hd : decode cc pc0 = .ok (ins, len) := of_decide_eq_true h9.1
  replace hok := h9.2
  clear h9
  unfold q_ok22 at hok
  dsimp only at hok
  unfold q_st at hrun
  rw [hcd] at hrun
  replace hrun : (match (generalizing := false) st with
      | .int x :: .int j :: .ref a :: r => bif q_tag h.1 a == 101 then (if q_out j (q_len h.1 a) then none else k (i + 1) ls r (q_ui h a j.toNatClampNeg x.toInt8.toInt32)) else none
      | _ => none) = some r := hrun
  show q_W F B H locs cells slots Q (q_pc cd i) rls (st.map (q_rv F))
  rw [q_pc_at hcd]
  obtain ⟨hx, hb, hml, hr, hown, hlocks, hini, hwm, hGb, hGk⟩ := id C
  replace hok := Bool.and_eq_true_iff.mp hok
  obtain ⟨hn, hok⟩ := hok
  replace hok := of_decide_eq_true hok
  cases hok
  split at hrun
  · rename_i x j a rr
    rw [Bool.cond_eq_ite] at hrun
    split at hrun
    · rename_i htag
      rw [beq_iff_eq] at htag
      split at hrun
      · cases hrun
      · rename_i hin
        obtain ⟨n, rs, hz, hl, hrf⟩ := q_tag_z htag (by decide)
        rw [hl] at hin
        refine va_bast (D := F.D) hx hb (q_K E C) hR.1 q_ws_D hS a 1 (q_arr hz (Or.inr rfl)) rfl hin hd (fun H1 locs1 hP hD hS => ?_)
        have hP2 : va_P F.D vwCl (q_ws F.base F.cs (q_ui h a j.toNatClampNeg x.toInt8.toInt32)) H1 := by
          rw [← q_ws_ui (base := F.base) (cs := F.cs) x.toInt8.toInt32 hz]
          have e9 : q_cell F.base F.cs (101, n, rs) (va_up (h.2.1 a) j.toNatClampNeg x.toInt8.toInt32) (h.2.2.1 a) = .inl (F.cs 101, n, .inl (va_up (h.2.1 a) j.toNatClampNeg x.toInt8.toInt32)) := by simp [q_cell]
          rw [e9]; rw [vp_nar_byte] at hP; exact hP
        have kk := kk _ _ _ _ hrun H1 locs1 cells slots rls (q_R_of C hP2 hS) hS hL hc hs
        rw [q_nx_of hn] at kk
        exact kk
    · cases hrun
  · cases hrun
theorem m_23 (E : q_E F X sk) (HT : q_T T mt sk) (C : q_B F B (q_cn oi) cc nL ret ini) (hcd : cd[i]? = some (23, info, c0, pc0, ins, len)) (hok : q_ok T mt oi cc ret ini cd i (23, info, c0, pc0, ins, len) = true)
    (hrun : q_st X sb cd call k i ls st h = some r) (kk : ∀ i' ls' st' h', k i' ls' st' h' = some r → q_J F B nL cd h0 Q i' ls' st' h') : q_J F B nL cd h0 Q i ls st h := by
  intro H locs cells slots rls hR hS hL hc hs
  have h9 := Bool.and_eq_true_iff.mp (show (decide (decode cc pc0 = .ok (ins, len)) && q_ok23 T mt oi cc ret ini cd i (23, info, c0, pc0, ins, len)) = true from hok)
  have hd : decode cc pc0 = .ok (ins, len) := of_decide_eq_true h9.1
  replace hok := h9.2
  clear h9
  unfold q_ok23 at hok
  dsimp only at hok
  unfold q_st at hrun
  rw [hcd] at hrun
  replace hrun : (match (generalizing := false) st with
      | .int j :: .ref a :: r => bif q_tag h.1 a == 102 then (if q_out j (q_len h.1 a) then none else k (i + 1) ls (.long (h.2.2.1 a j.toNatClampNeg) :: r) h) else none
      | _ => none) = some r := hrun
  show q_W F B H locs cells slots Q (q_pc cd i) rls (st.map (q_rv F))
  rw [q_pc_at hcd]
  obtain ⟨hx, hb, hml, hr, hown, hlocks, hini, hwm, hGb, hGk⟩ := id C
  replace hok := Bool.and_eq_true_iff.mp hok
  obtain ⟨hn, hok⟩ := hok
  replace hok := of_decide_eq_true hok
  cases hok
  split at hrun
  · rename_i j a rr
    rw [Bool.cond_eq_ite] at hrun
    split at hrun
    · rename_i htag
      rw [beq_iff_eq] at htag
      split at hrun
      · cases hrun
      · rename_i hin
        obtain ⟨n, rs, hz, hl, hrf⟩ := q_tag_z htag (by decide)
        rw [hl] at hin
        have kk := kk _ _ _ _ hrun H locs cells slots rls hR hS hL hc hs
        rw [q_nx_of hn] at kk
        exact va_lald (D := F.D) hx hb (q_K E C) hR.1 a 2 (q_arl hz) rfl hin hd kk
    · cases hrun
  · cases hrun
theorem m_24 (E : q_E F X sk) (HT : q_T T mt sk) (C : q_B F B (q_cn oi) cc nL ret ini) (hcd : cd[i]? = some (24, info, c0, pc0, ins, len)) (hok : q_ok T mt oi cc ret ini cd i (24, info, c0, pc0, ins, len) = true)
    (hrun : q_st X sb cd call k i ls st h = some r) (kk : ∀ i' ls' st' h', k i' ls' st' h' = some r → q_J F B nL cd h0 Q i' ls' st' h') : q_J F B nL cd h0 Q i ls st h := by
  intro H locs cells slots rls hR hS hL hc hs
  have h9 := Bool.and_eq_true_iff.mp (show (decide (decode cc pc0 = .ok (ins, len)) && q_ok24 T mt oi cc ret ini cd i (24, info, c0, pc0, ins, len)) = true from hok)
  have hd : decode cc pc0 = .ok (ins, len) := of_decide_eq_true h9.1
  replace hok := h9.2
  clear h9
  unfold q_ok24 at hok
  dsimp only at hok
  unfold q_st at hrun
  rw [hcd] at hrun
  replace hrun : (match (generalizing := false) st with
      | .long x :: .int j :: .ref a :: r => bif q_tag h.1 a == 102 then (if q_out j (q_len h.1 a) then none else k (i + 1) ls r (q_ul h a j.toNatClampNeg x)) else none
      | _ => none) = some r := hrun
  show q_W F B H locs cells slots Q (q_pc cd i) rls (st.map (q_rv F))
  rw [q_pc_at hcd]
  obtain ⟨hx, hb, hml, hr, hown, hlocks, hini, hwm, hGb, hGk⟩ := id C
  replace hok := Bool.and_eq_true_iff.mp hok
  obtain ⟨hn, hok⟩ := hok
  replace hok := of_decide_eq_true hok
  cases hok
  split at hrun
  · rename_i x j a rr
    rw [Bool.cond_eq_ite] at hrun
    split at hrun
    · rename_i htag
      rw [beq_iff_eq] at htag
      split at hrun
      · cases hrun
      · rename_i hin
        obtain ⟨n, rs, hz, hl, hrf⟩ := q_tag_z htag (by decide)
        rw [hl] at hin
        refine va_last (D := F.D) hx hb (q_K E C) hR.1 q_ws_D hS a 2 (q_arl hz) rfl hin hd (fun H1 locs1 hP hD hS => ?_)
        have hP2 : va_P F.D vwCl (q_ws F.base F.cs (q_ul h a j.toNatClampNeg x)) H1 := by
          rw [← q_ws_ul (base := F.base) (cs := F.cs) x hz]
          have e9 : q_cell F.base F.cs (102, n, rs) (h.2.1 a) (va_up (h.2.2.1 a) j.toNatClampNeg x) = .inl (F.cs 102, n, .inr (.inl (va_up (h.2.2.1 a) j.toNatClampNeg x))) := by simp [q_cell]
          rw [e9]; exact hP
        have kk := kk _ _ _ _ hrun H1 locs1 cells slots rls (q_R_of C hP2 hS) hS hL hc hs
        rw [q_nx_of hn] at kk
        exact kk
    · cases hrun
  · cases hrun
theorem m_25 (E : q_E F X sk) (HT : q_T T mt sk) (C : q_B F B (q_cn oi) cc nL ret ini) (hcd : cd[i]? = some (25, info, c0, pc0, ins, len)) (hok : q_ok T mt oi cc ret ini cd i (25, info, c0, pc0, ins, len) = true)
    (hrun : q_st X sb cd call k i ls st h = some r) (kk : ∀ i' ls' st' h', k i' ls' st' h' = some r → q_J F B nL cd h0 Q i' ls' st' h') : q_J F B nL cd h0 Q i ls st h := by
  intro H locs cells slots rls hR hS hL hc hs
  have h9 := Bool.and_eq_true_iff.mp (show (decide (decode cc pc0 = .ok (ins, len)) && q_ok25 T mt oi cc ret ini cd i (25, info, c0, pc0, ins, len)) = true from hok)
  have hd : decode cc pc0 = .ok (ins, len) := of_decide_eq_true h9.1
  replace hok := h9.2
  clear h9
  unfold q_ok25 at hok
  dsimp only at hok
  unfold q_st at hrun
  rw [hcd] at hrun
  replace hrun : (match (generalizing := false) st with
      | .int j :: .ref a :: r => bif q_tag h.1 a == 103 then (if q_out j (q_len h.1 a) then none else (match (generalizing := false) q_ref h.1 a j.toNatClampNeg with
        | some (some b) => k (i + 1) ls (.ref b :: r) h
        | _ => none)) else none
      | _ => none) = some r := hrun
  show q_W F B H locs cells slots Q (q_pc cd i) rls (st.map (q_rv F))
  rw [q_pc_at hcd]
  obtain ⟨hx, hb, hml, hr, hown, hlocks, hini, hwm, hGb, hGk⟩ := id C
  replace hok := Bool.and_eq_true_iff.mp hok
  obtain ⟨hn, hok⟩ := hok
  replace hok := of_decide_eq_true hok
  cases hok
  split at hrun
  · rename_i j a rr
    rw [Bool.cond_eq_ite] at hrun
    split at hrun
    · rename_i htag
      rw [beq_iff_eq] at htag
      split at hrun
      · cases hrun
      · rename_i hin
        obtain ⟨n, rs, hz, hl, hrf⟩ := q_tag_z htag (by decide)
        rw [hl] at hin
        rw [hrf] at hrun
        split at hrun
        · rename_i b hrb
          have kk := kk _ _ _ _ hrun H locs cells slots rls hR hS hL hc hs
          rw [q_nx_of hn] at kk
          refine va_aldq (D := F.D) hx hb (q_K E C) hR.1 a 3 (q_arq hz) rfl hin hd ?_
          rw [List.getD_eq_getElem?_getD, hrb]
          exact kk
        · cases hrun
    · cases hrun
  · cases hrun
theorem m_26 (E : q_E F X sk) (HT : q_T T mt sk) (C : q_B F B (q_cn oi) cc nL ret ini) (hcd : cd[i]? = some (26, info, c0, pc0, ins, len)) (hok : q_ok T mt oi cc ret ini cd i (26, info, c0, pc0, ins, len) = true)
    (hrun : q_st X sb cd call k i ls st h = some r) (kk : ∀ i' ls' st' h', k i' ls' st' h' = some r → q_J F B nL cd h0 Q i' ls' st' h') : q_J F B nL cd h0 Q i ls st h := by
  intro H locs cells slots rls hR hS hL hc hs
  have h9 := Bool.and_eq_true_iff.mp (show (decide (decode cc pc0 = .ok (ins, len)) && q_ok26 T mt oi cc ret ini cd i (26, info, c0, pc0, ins, len)) = true from hok)
  have hd : decode cc pc0 = .ok (ins, len) := of_decide_eq_true h9.1
  replace hok := h9.2
  clear h9
  unfold q_ok26 at hok
  dsimp only at hok
  unfold q_st at hrun
  rw [hcd] at hrun
  replace hrun : (match (generalizing := false) st with
      | .ref b :: .int j :: .ref a :: r => bif q_tag h.1 a == 103 && q_tag h.1 b == 7 && Nat.ble (q_len h.1 a) (q_rl h.1 a) then (if q_out j (q_len h.1 a) then none else k (i + 1) ls r (q_uz h a j.toNatClampNeg (some b))) else none
      | _ => none) = some r := hrun
  show q_W F B H locs cells slots Q (q_pc cd i) rls (st.map (q_rv F))
  rw [q_pc_at hcd]
  obtain ⟨hx, hb, hml, hr, hown, hlocks, hini, hwm, hGb, hGk⟩ := id C
  replace hok := Bool.and_eq_true_iff.mp hok
  obtain ⟨hn, hok⟩ := hok
  replace hok := of_decide_eq_true hok
  cases hok
  split at hrun
  · rename_i b j a rr
    rw [Bool.cond_eq_ite] at hrun
    split at hrun
    · rename_i htag
      rw [Bool.and_eq_true, Bool.and_eq_true, beq_iff_eq, beq_iff_eq] at htag
      obtain ⟨⟨htag, htb⟩, hrl⟩ := htag
      split at hrun
      · cases hrun
      · rename_i hin
        obtain ⟨n, rs, hz, hl, hrf⟩ := q_tag_z htag (by decide)
        obtain ⟨n2, rs2, hz2, -, -⟩ := q_tag_z htb (by decide)
        rw [hl] at hin hrl
        have hrl : n ≤ rs.length := by simpa [q_rl, hz] using hrl
        refine va_astq (D := F.D) (r := (RX7, TX7, 10)) hx hb (q_K E C) hR.1 q_ws_D hS a 3 b 7 (q_arq hz) rfl (q_obj hz2 (by decide)) rfl hin hd (fun H1 locs1 hP hD hS => ?_)
        have hlt : j.toNatClampNeg < rs.length := Nat.lt_of_lt_of_le (Nat.not_le.mp (fun q => hin (Or.inr q))) hrl
        have hP2 : va_P F.D vwCl (q_ws F.base F.cs (q_uz h a j.toNatClampNeg (some b))) H1 := by
          rw [← q_ws_uz (base := F.base) (cs := F.cs) (some b) hz]
          have e9 : q_cell F.base F.cs (103, n, rs.set j.toNatClampNeg (some b)) (h.2.1 a) (h.2.2.1 a) = .inl (F.cs 103, n, .inr (.inr (.inr (.inr (va_up (fun k => (rs.getD k none).map (fun r => F.base + r)) j.toNatClampNeg (some (F.base + b))))))) := by
            have e8 : (fun k => ((rs.set j.toNatClampNeg (some b)).getD k none).map (fun r => F.base + r)) = va_up (fun k => (rs.getD k none).map (fun r => F.base + r)) j.toNatClampNeg (some (F.base + b)) := by
              funext q
              by_cases hq : q = j.toNatClampNeg
              · subst hq
                rw [q_up_s, List.getD_eq_getElem?_getD, List.getElem?_set_self hlt]; rfl
              · rw [q_up_n _ _ hq, List.getD_eq_getElem?_getD, List.getElem?_set_ne (fun e => hq e.symm), List.getD_eq_getElem?_getD]
            simp only [q_cell, e8]; rfl
          dsimp only
          rw [e9]; exact hP
        have kk := kk _ _ _ _ hrun H1 locs1 cells slots rls (q_R_of C hP2 hS) hS hL hc hs
        rw [q_nx_of hn] at kk
        exact kk
    · cases hrun
  · cases hrun
theorem m_27 (E : q_E F X sk) (HT : q_T T mt sk) (C : q_B F B (q_cn oi) cc nL ret ini) (hcd : cd[i]? = some (27, info, c0, pc0, ins, len)) (hok : q_ok T mt oi cc ret ini cd i (27, info, c0, pc0, ins, len) = true)
    (hrun : q_st X sb cd call k i ls st h = some r) (kk : ∀ i' ls' st' h', k i' ls' st' h' = some r → q_J F B nL cd h0 Q i' ls' st' h') : q_J F B nL cd h0 Q i ls st h := by
  intro H locs cells slots rls hR hS hL hc hs
  have h9 := Bool.and_eq_true_iff.mp (show (decide (decode cc pc0 = .ok (ins, len)) && q_ok27 T mt oi cc ret ini cd i (27, info, c0, pc0, ins, len)) = true from hok)
  have hd : decode cc pc0 = .ok (ins, len) := of_decide_eq_true h9.1
  replace hok := h9.2
  clear h9
  unfold q_ok27 at hok
  dsimp only at hok
  unfold q_st at hrun
  rw [hcd] at hrun
  replace hrun : (match (generalizing := false) st with
      | .int j :: .float u :: r => bif u == 1000000 then (if q_out j X.1 then none else k (i + 1) ls (.int (X.2 j.toNatClampNeg) :: r) h) else none
      | _ => none) = some r := hrun
  show q_W F B H locs cells slots Q (q_pc cd i) rls (st.map (q_rv F))
  rw [q_pc_at hcd]
  obtain ⟨hx, hb, hml, hr, hown, hlocks, hini, hwm, hGb, hGk⟩ := id C
  replace hok := Bool.and_eq_true_iff.mp hok
  obtain ⟨hn, hok⟩ := hok
  replace hok := of_decide_eq_true hok
  cases hok
  split at hrun
  · rename_i j u rr
    rw [Bool.cond_eq_ite] at hrun
    split at hrun
    · rename_i hu
      have hu : u = 1000000 := by simpa using hu
      subst hu
      split at hrun
      · cases hrun
      · rename_i hin
        have kk := kk _ _ _ _ hrun H locs cells slots rls hR hS hL hc hs
        rw [q_nx_of hn] at kk
        have hb9 : q_rv F (.float 1000000) = .ref F.b := by show Value.ref (F.sa 1000000) = _; rw [E.2.2.2.2.2.1]
        rw [List.map_cons, List.map_cons, hb9]
        exact va_sld hx hb (q_X E C) (Nat.lt_of_lt_of_le E.2.2.2.2.1 hGb) (fun e => Nat.not_le.mpr E.2.2.2.2.1 e) hS hin hd kk
    · cases hrun
  · cases hrun
theorem m_28 (E : q_E F X sk) (HT : q_T T mt sk) (C : q_B F B (q_cn oi) cc nL ret ini) (hcd : cd[i]? = some (28, info, c0, pc0, ins, len)) (hok : q_ok T mt oi cc ret ini cd i (28, info, c0, pc0, ins, len) = true)
    (hrun : q_st X sb cd call k i ls st h = some r) (kk : ∀ i' ls' st' h', k i' ls' st' h' = some r → q_J F B nL cd h0 Q i' ls' st' h') : q_J F B nL cd h0 Q i ls st h := by
  intro H locs cells slots rls hR hS hL hc hs
  have h9 := Bool.and_eq_true_iff.mp (show (decide (decode cc pc0 = .ok (ins, len)) && q_ok28 T mt oi cc ret ini cd i (28, info, c0, pc0, ins, len)) = true from hok)
  have hd : decode cc pc0 = .ok (ins, len) := of_decide_eq_true h9.1
  replace hok := h9.2
  clear h9
  unfold q_ok28 at hok
  dsimp only at hok
  unfold q_st at hrun
  rw [hcd] at hrun
  replace hrun : (match (generalizing := false) st with
      | .float u :: r => bif u == 1000000 then k (i + 1) ls (.int (Int32.ofNat X.1) :: r) h else none
      | _ => none) = some r := hrun
  show q_W F B H locs cells slots Q (q_pc cd i) rls (st.map (q_rv F))
  rw [q_pc_at hcd]
  obtain ⟨hx, hb, hml, hr, hown, hlocks, hini, hwm, hGb, hGk⟩ := id C
  replace hok := Bool.and_eq_true_iff.mp hok
  obtain ⟨hn, hok⟩ := hok
  replace hok := of_decide_eq_true hok
  cases hok
  split at hrun
  · rename_i u rr
    rw [Bool.cond_eq_ite] at hrun
    split at hrun
    · rename_i hu
      have hu : u = 1000000 := by simpa using hu
      subst hu
      have kk := kk _ _ _ _ hrun H locs cells slots rls hR hS hL hc hs
      rw [q_nx_of hn] at kk
      have hb9 : q_rv F (.float 1000000) = .ref F.b := by show Value.ref (F.sa 1000000) = _; rw [E.2.2.2.2.2.1]
      rw [List.map_cons, hb9]
      exact va_slen hx hb (q_X E C) (Nat.lt_of_lt_of_le E.2.2.2.2.1 hGb) (fun e => Nat.not_le.mpr E.2.2.2.2.1 e) hS hd kk
    · cases hrun
  · cases hrun
end Rows2
