/-! ===== THROWS ===== -/
/-- the throw of java.util.NoSuchElementException, whose constructor's link is another than the library's chain has -/
def q_HN (F : Fx) (T : Tb) : Prop := ∀ (B : Bd) (oi : Nat) (cc : ByteArray) (nL : Nat) (ret : Option FieldType) (ini : Bool) (h h0 : Hp) (ik is ic pc : Nat) (H : Heap) (locs : List Loc) (cells slots : Nat) (rls : Array Slot) (st : List Value), q_B F B (q_cn oi) cc nL ret ini → (oi, ik, is, ic, 3) ∈ T.2.2.2.2.2.2.2 → B.c.exceptionTable.toList = [] →
  decode cc pc = .ok (.new ik, 3) → decode cc (pc + 3) = .ok (.dup, 1) → ((decode cc (pc + 4) = .ok (.ldc is, 2) ∧ decode cc (pc + 6) = .ok (.invokespecial ic, 3) ∧ decode cc (pc + 9) = .ok (.athrow, 1)) ∨ (decode cc (pc + 4) = .ok (.ldc_w is, 3) ∧ decode cc (pc + 7) = .ok (.invokespecial ic, 3) ∧ decode cc (pc + 10) = .ok (.athrow, 1))) →
  q_R F h H → va_S (q_A F) B.s.heap H locs → rls.size = nL → h0.2.2.2.1 + cells = h.2.2.2.1 → h0.2.2.2.2 + slots = h.2.2.2.2 → 6 ≤ B.R.frames → 120 ≤ B.R.locals → cells + 1 ≤ B.R.cells → slots + 6 ≤ B.R.slots → q_wd st ≤ 8 →
  W B.p F.l B.e B.R B.s B.m B.args B.below B.meth B.c H locs cells slots (vx_MQ B.below (q_Qc F (.inr 3) (q_th h)) (q_XC F (.inr 3) (q_th h)) B.args B.s (h.2.2.2.1 + 1 - h0.2.2.2.1) (h.2.2.2.2 + 6 - h0.2.2.2.2) (q_A F)) (F0 B.m pc rls (st.map (q_rv F)))
section Rows5
variable {F : Fx} {B : Bd} {oi : Nat} {cc : ByteArray} {nL : Nat} {ret : Option FieldType} {ini : Bool} {X : Sx} {sk : List (String × Nat × String)} {T : Tb} {mt : List Mr} {d : Nat}
variable {sb : List (List Int32)} {cd : List En} {call : Nat → List Value → Hp → Rs} {k : Nat → Lc → List Value → Hp → Rs} {i : Nat} {ls : Lc} {st : List Value} {h h0 : Hp} {r : Ou × Hp} {Q : State → Prop} {info : List Nat} {c0 : Int32} {pc0 : Nat} {ins : Instr} {len : Nat}
theorem q_word2 {own : String} (E : q_E F X sk) (C : q_B F B own cc nL ret ini) {w : Cond} (h : w ∈ lw_tbl) (hi : q_isn w = true) : w.before B.args B.s = true := by
  by_cases hg : goodWord w = true
  · exact q_word E C ⟨h, hg⟩
  · unfold q_isn at hi
    rw [Bool.or_eq_true] at hi
    rcases hi with hi | hi
    · exact absurd hi hg
    · split at hi
      · exact va_Nw.use rfl (va_Nw.warmC C.2.2.2.2.2.2.2.1 (va_Nw.of rfl (E.2.1 _ h)))
      · exact va_Nw.use rfl (va_Nw.warmD C.2.2.2.2.2.2.2.1 (va_Nw.of rfl (E.2.1 _ h)))
      · cases hi
theorem q_zq {own n2 d2 c2 : String} (C : q_B F B own cc nL ret ini) (hz : vx_Zq c2 n2 d2 (q_A F) F.s0 F.s0.heap) : vx_Zq c2 n2 d2 (q_A F) B.s B.s.heap :=
  (hz.moved C.2.2.2.2.2.2.2.1.alike).kept (fun a ha _ => C.2.2.2.2.2.2.2.2.2 a ha)
theorem q_R_th {H H1 : Heap} (hR : q_R F h H) (hz : H.size ≤ H1.size) (hk : ∀ q : Nat, q < H.size → H1[q]? = H[q]?) : q_R F (q_th h) H1 := by
  refine ⟨?_, Nat.le_trans hR.2.1 hz, fun q hq => ?_⟩
  · exact hR.1.kept (fun k x hx => hk _ ((hR.1 k x hx).lt))
  · rw [hk q (Nat.lt_of_lt_of_le hq hR.2.1)]
    exact hR.2.2 q hq
theorem m_35 (E : q_E F X sk) (HT : q_T T mt sk) (C : q_B F B (q_cn oi) cc nL ret ini) (RM : q_Rm B h0 d r) (TAB : B.c.exceptionTable.toList = []) (HN : q_HN F T) (hcd : cd[i]? = some (35, info, c0, pc0, ins, len)) (hok : q_ok T mt oi cc ret ini cd i (35, info, c0, pc0, ins, len) = true)
    (hrun : q_st X sb cd call k i ls st h = some r) : q_J F B nL cd h0 (q_Q F B h0 r) i ls st h := by
  intro H locs cells slots rls hR hS hL hc hs
  have h9 := Bool.and_eq_true_iff.mp (show (decide (decode cc pc0 = .ok (ins, len)) && q_ok35 T mt oi cc ret ini cd i (35, info, c0, pc0, ins, len)) = true from hok)
  have hd : decode cc pc0 = .ok (ins, len) := of_decide_eq_true h9.1
  replace hok := h9.2
  clear h9
  unfold q_ok35 at hok
  dsimp only at hok
  unfold q_st at hrun
  rw [hcd] at hrun
  replace hrun : (bif Nat.ble (q_wd st) 8 then some (.inr (info.getD 0 0), q_th h) else none) = some r := hrun
  show q_W F B H locs cells slots (q_Q F B h0 r) (q_pc cd i) rls (st.map (q_rv F))
  rw [q_pc_at hcd]
  obtain ⟨hx, hb, hml, hr, hown, hlocks, hini, hwm, hGb, hGk⟩ := id C
  replace hok := Bool.and_eq_true_iff.mp hok
  obtain ⟨h7, hok⟩ := hok
  simp only [beq_iff_eq] at h7
  subst h7
  rw [Bool.cond_eq_ite] at hrun
  split at hrun
  · rename_i hwd
    replace hwd := Nat.ble_eq.mp hwd
    have hw2 := q_wd_map F st
    cases hrun
    obtain ⟨f1, f2, r1, r2⟩ := RM
    have r1 : h.2.2.2.1 + 1 ≤ h0.2.2.2.1 + B.R.cells := r1
    have r2 : h.2.2.2.2 + 6 ≤ h0.2.2.2.2 + B.R.slots := r2
    show W _ _ _ _ _ _ _ _ _ _ H locs cells slots (vx_MQ _ _ _ _ _ (h.2.2.2.1 + 1 - h0.2.2.2.1) (h.2.2.2.2 + 6 - h0.2.2.2.2) _) _
    split at hok
    · rename_i ik e1 e2 e3 e4 _ _ _ _
      replace hok := Bool.and_eq_true_iff.mp hok
      obtain ⟨hd3, hok⟩ := hok
      replace hd3 := of_decide_eq_true hd3
      split at hok
      · rename_i is ic
        simp only [Bool.and_eq_true, decide_eq_true_eq] at hok
        obtain ⟨⟨⟨hd4, hd6⟩, hd9⟩, hel⟩ := hok
        rcases HT.2.2.2.2.2.2.2.2.2 _ hel with h3 | hxf
        · dsimp only at h3
          rw [h3] at hel ⊢
          exact HN B oi cc nL ret ini h h0 _ _ _ pc0 H locs cells slots rls st C hel TAB hd hd3 (Or.inl ⟨hd4, hd6, hd9⟩) hR hS hL.2.1 hc hs (by omega) (by omega) (by omega) (by omega) hwd
        obtain ⟨x1, x2, x3, ⟨sid, w, hw, hw1, hw2⟩, x5, x6⟩ := hxf
        dsimp only at x1 x2 x3 hw1 hw2 x5 x6
        have hz := vk_R.warm hwm (E.2.2.2.2.2.2.1 _ _ hw)
        rw [hw1, hw2] at hz
        exact vx_throwS (names := q_up) hx hb E.1 hown x1 (by decide) (q_word E C x2) (q_word E C x3) hz (fun w hw => q_word2 E C (x5 w hw).1 (x5 w hw).2) x6 (q_zq C E.2.2.2.2.2.2.2.1) (q_zq C E.2.2.2.2.2.2.2.2) hS (by rw [hml]; exact hL.2.1) hd hd3 hd4 hd6 hd9 (by rw [TAB]; intro x hx; cases hx) (by show 2 + 3 < _; omega) (by show _ + (13 * (2 + 1) + 43) ≤ _; omega) (by omega) (by omega) hlocks (fun t _ hz9 hk9 => ⟨_, rfl, rfl, q_R_th hR hz9 hk9⟩) hS.2.2 (by omega) (by omega)
      · rename_i is ic
        simp only [Bool.and_eq_true, decide_eq_true_eq] at hok
        obtain ⟨⟨⟨hd4, hd6⟩, hd9⟩, hel⟩ := hok
        rcases HT.2.2.2.2.2.2.2.2.2 _ hel with h3 | hxf
        · dsimp only at h3
          rw [h3] at hel ⊢
          exact HN B oi cc nL ret ini h h0 _ _ _ pc0 H locs cells slots rls st C hel TAB hd hd3 (Or.inr ⟨hd4, hd6, hd9⟩) hR hS hL.2.1 hc hs (by omega) (by omega) (by omega) (by omega) hwd
        obtain ⟨x1, x2, x3, ⟨sid, w, hw, hw1, hw2⟩, x5, x6⟩ := hxf
        dsimp only at x1 x2 x3 hw1 hw2 x5 x6
        have hz := vk_R.warm hwm (E.2.2.2.2.2.2.1 _ _ hw)
        rw [hw1, hw2] at hz
        exact vx_throwSW (names := q_up) hx hb E.1 hown x1 (by decide) (q_word E C x2) (q_word E C x3) hz (fun w hw => q_word2 E C (x5 w hw).1 (x5 w hw).2) x6 (q_zq C E.2.2.2.2.2.2.2.1) (q_zq C E.2.2.2.2.2.2.2.2) hS (by rw [hml]; exact hL.2.1) hd hd3 hd4 hd6 hd9 (by rw [TAB]; intro x hx; cases hx) (by show 2 + 3 < _; omega) (by show _ + (13 * (2 + 1) + 43) ≤ _; omega) (by omega) (by omega) hlocks (fun t _ hz9 hk9 => ⟨_, rfl, rfl, q_R_th hR hz9 hk9⟩) hS.2.2 (by omega) (by omega)
      · cases hok
    · cases hok
  · cases hrun
end Rows5
