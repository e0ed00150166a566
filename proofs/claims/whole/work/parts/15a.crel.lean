/-! ===== THE CLASS: what its cells stand for ===== -/
/-- a jar's numbers are in their bounds -/
def R_jok (r : Nat → Int32) (n j : Nat) : Prop := z_le (r (12 + 13 * j)) 2 ∧ z_le (r (12 + 13 * j + 1)) 11 ∧ z_le (r (12 + 13 * j + 2)) 20 ∧ z_le (r (12 + 13 * j + 3)) 99 ∧ z_le (r (12 + 13 * j + 4)) 9 ∧ (r (12 + 13 * j + 5) = -1 ∨ ∃ k, k < n ∧ r (12 + 13 * j + 5) = nI k) ∧ z_le (r (12 + 13 * j + 6)) 1 ∧ ∀ t, t < 6 → z_le (r (12 + 13 * j + (7 + t))) 9
def R_ok (r : Nat → Int32) (n m : Nat) : Prop := r 3 = nI n ∧ n ≤ 10 ∧ r 4 = nI m ∧ m ≤ 10 ∧ z_le (r 0) 12 ∧ (∃ q, 1 ≤ q ∧ q ≤ 90 ∧ r 5 = nI q) ∧ z_le (r 6) 100 ∧ z_le (r 7) 100 ∧ z_le (r 10) 60 ∧ (∀ p, p < 12 → z_le (r (142 + p)) 9) ∧ (∀ j, j < n → R_jok r n j) ∧ ∀ k, k < m → z_le (r (154 + 3 * k + 1)) 5 ∧ z_le (r (154 + 3 * k + 2)) 9
/-- a Shelf at sh -/
def z_Sh (I : Ii) (sh : Nat) (r : Nat → Int32) (n m : Nat) : Prop := I sh 0 = r 3 ∧ I sh 5 = r 4 ∧ I sh 9 = r 5 ∧ I sh 10 = r 6 ∧ I sh 11 = r 7 ∧ I sh 12 = r 0 ∧ (∀ j, j < n → I (sh + 1) j = r (12 + 13 * j)) ∧ (∀ j, j < n → I (sh + 2) j = r (12 + 13 * j + 4)) ∧ (∀ j t, j < n → t < 6 → I (sh + 3) (j * 6 + t) = r (12 + 13 * j + (7 + t))) ∧ (∀ p, p < 12 → I (sh + 4) p = r (142 + p)) ∧ (∀ k, k < m → I (sh + 5) k = r (154 + 3 * k)) ∧ (∀ k, k < m → I (sh + 6) k = r (154 + 3 * k + 1)) ∧ ∀ k, k < m → I (sh + 7) k = r (154 + 3 * k + 2)
/-- a Moment at mo -/
def z_Mo (I : Ii) (mo : Nat) (r : Nat → Int32) (n : Nat) : Prop := I mo 5 = r 8 ∧ I mo 7 = r 9 ∧ I mo 6 = r 11 ∧ I mo 9 = r 10 ∧ (∀ j, j < n → I (mo + 1) j = r (12 + 13 * j + 1)) ∧ (∀ j, j < n → I (mo + 2) j = r (12 + 13 * j + 2)) ∧ (∀ j, j < n → I (mo + 3) j = r (12 + 13 * j + 3)) ∧ (∀ j, j < n → I (mo + 4) j = r (12 + 13 * j + 5)) ∧ ∃ o, o < 2 ^ n ∧ I mo 4 = nI o ∧ ∀ j, j < n → r (12 + 13 * j + 6) = z_b (o.testBit j = true)
/-- its rows of THE LOG in the book's cells bk: g rows were written in all -/
def z_Lg (I : Ii) (mo bk : Nat) (r : Nat → Int32) (g : Nat) : Prop := I mo 8 = nI (g % 72) ∧ ∀ i c, nI i < r 10 → i < 60 → c < 5 → I bk ((g + 72 - 1 - i) % 72 * 5 + c) = r (184 + 5 * i + c)
/-- how many steps the first lines have -/
def r_E (Ls : List Ln) : Nat → Nat
  | 0 => 0
  | i + 1 => r_E Ls i + (Ls.getD i (0, 0, [], fun _ => 1)).2.2.1.length
def r_at (Ls : List Ln) (i : Nat) : Ln := Ls.getD i (0, 0, [], fun _ => 1)
/-- a Law at la -/
def z_La (I : Ii) (la : Nat) (r : Nat → Int32) : Prop := R_lo r ∧ I la 0 = r 1 ∧ (r 1 ≠ -1 → r_E (R_ls r) (R_ls r).length ≤ 400 ∧ ∀ i, i < (R_ls r).length → I (la + 1) i = nI (r_at (R_ls r) i).1 ∧ I (la + 2) i = nI (r_at (R_ls r) i).2.1 ∧ I (la + 3) i = nI (r_E (R_ls r) (i + 1)) ∧ ∀ t, t < (r_at (R_ls r) i).2.2.1.length → I (la + 4) (r_E (R_ls r) i + t) = (r_at (R_ls r) i).2.2.1.getD t 0)
/-- a step that may stand there -/
def z_vs (s : Int32) : Prop := z_le s 1006 ∨ ¬ s < 1100
theorem P_e_vs (B : Nat → Nat) (n : Nat) : ∀ (f m dp p : Nat) (v : Pv), P_e B n f m dp p = some (.ok v) → ∀ s, s ∈ v.2.1 → z_vs s := by
  intro f
  have nl : ∀ k : Nat, 1100 ≤ k → k < 2000 → z_vs (nI k) := fun k h1 h2 => .inr (nI_nlt (b := 1100) h1 (by omega))
  have hs : ∀ {f p : Nat} {v : Pv}, P_sum B n f p = some (.ok v) → ∀ s, s ∈ v.2.1 → z_vs s := fun h s hm => .inl ((P_sum_w h).2.2.2.1 s hm)
  have hp : ∀ {f p : Nat} {v : Pv}, P_plain B n f p = some (.ok v) → ∀ s, s ∈ v.2.1 → z_vs s := by
    intro f p v h
    unfold P_plain at h
    split at h
    · cases h; intro s hm; cases List.mem_singleton.mp hm; exact nl 1100 (by omega) (by omega)
    · split at h
      · cases h; intro s hm; cases List.mem_singleton.mp hm; exact nl 1101 (by omega) (by omega)
      · split at h
        · cases h; intro s hm; cases List.mem_singleton.mp hm; exact nl 1102 (by omega) (by omega)
        · split at h
          · cases h; intro s hm; cases List.mem_singleton.mp hm; exact nl 1200 (by omega) (by omega)
          · obtain ⟨a, ha, h⟩ := p_bd_ok h
            split at h
            · obtain ⟨b, hb, h⟩ := p_bd_ok h
              cases h
              intro s hm
              rcases List.mem_append.mp hm with hm | hm
              · exact hs ha s hm
              · rcases List.mem_cons.mp hm with rfl | hm
                · exact nl 1201 (by omega) (by omega)
                · rcases List.mem_append.mp hm with hm | hm
                  · exact hs hb s hm
                  · cases List.mem_singleton.mp hm; exact nl 1202 (by omega) (by omega)
            · split at h
              · obtain ⟨b, hb, h⟩ := p_bd_ok h
                cases h
                intro s hm
                rcases List.mem_append.mp hm with hm | hm
                · exact hs ha s hm
                · rcases List.mem_cons.mp hm with rfl | hm
                  · exact nl 1201 (by omega) (by omega)
                  · rcases List.mem_append.mp hm with hm | hm
                    · exact hs hb s hm
                    · cases List.mem_singleton.mp hm; exact nl 1203 (by omega) (by omega)
              · cases h
  induction f with
  | zero => intro m dp p v h; cases h
  | succ f ih =>
    intro m dp p v h
    rcases m with _ | _ | _ | _ | m
    · unfold P_e at h
      split at h
      · split at h
        · cases h
        · obtain ⟨a, ha, h⟩ := p_bd_ok h
          cases h
          intro s hm
          rcases List.mem_append.mp hm with hm | hm
          · exact ih _ _ _ _ ha s hm
          · cases List.mem_singleton.mp hm; exact nl 1204 (by omega) (by omega)
      · split at h
        · split at h
          · cases h
          · obtain ⟨a, ha, h⟩ := p_bd_ok h
            split at h
            · cases h; intro s hm; exact ih _ _ _ a ha s hm
            · cases h
        · exact hp h
    · obtain ⟨a, ha, h⟩ := p_bd_ok h
      obtain ⟨b, hb, h⟩ := p_bd_ok h
      cases h
      intro s hm
      rcases List.mem_append.mp hm with hm | hm
      · exact ih _ _ _ _ ha s hm
      · exact ih _ _ _ _ hb s hm
    · obtain ⟨a, ha, h⟩ := p_bd_ok h
      obtain ⟨b, hb, h⟩ := p_bd_ok h
      cases h
      intro s hm
      rcases List.mem_append.mp hm with hm | hm
      · exact ih _ _ _ _ ha s hm
      · exact ih _ _ _ _ hb s hm
    · unfold P_e at h
      split at h
      · obtain ⟨a, ha, h⟩ := p_bd_ok h
        obtain ⟨b, hb, h⟩ := p_bd_ok h
        cases h
        intro s hm
        rcases List.mem_append.mp hm with hm | hm
        · exact ih _ _ _ _ ha s hm
        · rcases List.mem_cons.mp hm with rfl | hm
          · exact nl 1205 (by omega) (by omega)
          · exact ih _ _ _ _ hb s hm
      · cases h; intro s hm; exact (List.not_mem_nil hm).elim
    · unfold P_e at h
      split at h
      · obtain ⟨a, ha, h⟩ := p_bd_ok h
        obtain ⟨b, hb, h⟩ := p_bd_ok h
        cases h
        intro s hm
        rcases List.mem_append.mp hm with hm | hm
        · exact ih _ _ _ _ ha s hm
        · rcases List.mem_cons.mp hm with rfl | hm
          · exact nl 1206 (by omega) (by omega)
          · exact ih _ _ _ _ hb s hm
      · cases h; intro s hm; exact (List.not_mem_nil hm).elim
/-- a LINE that was read -/
def w_ln (L : Ln) : Prop := L.1 < 4 ∧ L.2.1 < 1000 ∧ (∀ s, s ∈ L.2.2.1 → z_vs s) ∧ ((L.2.2.1 = [] ∧ ∀ fc, L.2.2.2 fc = 1) ∨ (0 < L.2.2.1.length ∧ ∀ fc : Fc, (fc.2.2 = 0 ∨ fc.2.2 = 1) → ∃ c, c < 2 ∧ L.2.2.2 fc = nI c ∧ ∃ l', L.2.2.1.foldl (e_stp fc) (0, 0, 0) = (nI c, l', 0)))
theorem P_if_w {B : Nat → Nat} {n f k m q : Nat} {a : Nat × Ln} (hk : k < 4) (hm : m < 1000) (h : P_if B n f k m q = some (.ok a)) : w_ln a.2 := by
  unfold P_if at h
  split at h
  · cases hr : P_e B n f 2 0 (t_nx B n q) with
    | none => rw [hr] at h; cases h
    | some r =>
      rw [hr] at h
      cases r with
      | error e => cases h
      | ok v =>
        cases h
        have w := (P_e_w B n f 0 _ v (by omega)).2.2.1 hr
        refine ⟨hk, hm, P_e_vs B n f 2 0 _ v hr, .inr ⟨w.2.2.1, fun fc hf => ?_⟩⟩
        obtain ⟨c, c1, c2, c3⟩ := w.2.2.2.2 fc hf
        obtain ⟨l', hl⟩ := c3 0 (by decide) 0
        exact ⟨c, c1, c2, l', by rw [show (0 : Int32) = nI 0 from rfl] at hl ⊢; rw [hl]; simp⟩
  · cases h
    exact ⟨hk, hm, fun s hm => (List.not_mem_nil hm).elim, .inl ⟨rfl, fun _ => rfl⟩⟩
theorem P_line_w {B : Nat → Nat} {n f p : Nat} {a : Nat × Ln} (h : P_line B n f p = some (.ok a)) : w_ln a.2 := by
  unfold P_line at h
  have hk : p_kind B n p ≤ 4 := by
    unfold p_kind
    repeat' split
    all_goals omega
  split at h
  · cases h
  · split at h
    · exact P_if_w (by omega) (by omega) h
    · split at h
      · rename_i hN
        exact P_if_w (by omega) (t_isN_lt hN).2.2.2.1 h
      · cases h
theorem P_ls_w {B : Nat → Nat} {n f : Nat} : ∀ {g p : Nat} {Ls : List Ln}, P_ls B n f g p = some (.ok Ls) → (∀ L, L ∈ Ls → w_ln L) ∧ Ls.length ≤ g
  | 0, p, Ls, h => by cases h
  | g + 1, p, Ls, h => by
    unfold P_ls at h
    cases hr : P_line B n f p with
    | none => rw [hr] at h; cases h
    | some r =>
      rw [hr] at h
      cases r with
      | error e => cases h
      | ok a =>
        obtain ⟨q, L⟩ := a
        have w := P_line_w hr
        dsimp only at h
        split at h
        · cases h
          exact ⟨fun L' hm => by cases List.mem_singleton.mp hm; exact w, by show 1 ≤ g + 1; omega⟩
        · split at h
          · cases hr2 : P_ls B n f g (t_nx B n q) with
            | none => rw [hr2] at h; cases h
            | some r2 =>
              rw [hr2] at h
              cases r2 with
              | error e => cases h
              | ok Ls2 =>
                cases h
                obtain ⟨i1, i2⟩ := P_ls_w hr2
                refine ⟨fun L' hm => ?_, by show Ls2.length + 1 ≤ g + 1; omega⟩
                rcases List.mem_cons.mp hm with rfl | hm
                · exact w
                · exact i1 L' hm
          · cases h
theorem P_law_w {B : Nat → Nat} {n : Nat} {Ls : List Ln} (h : P_law B n = some (.ok Ls)) : (∀ L, L ∈ Ls → w_ln L) ∧ Ls.length ≤ 12 := by
  unfold P_law at h
  split at h
  · cases h; exact ⟨fun L hm => (List.not_mem_nil hm).elim, by decide⟩
  · exact P_ls_w h
theorem R_ls_w (r : Nat → Int32) : (∀ L, L ∈ R_ls r → w_ln L) ∧ (R_ls r).length ≤ 12 := by
  unfold R_ls
  split
  · rename_i h; exact P_law_w h
  · exact ⟨fun L hm => (List.not_mem_nil hm).elim, by decide⟩
theorem R_lo_n {r : Nat → Int32} (h : R_lo r) (h1 : r 1 ≠ -1) : r 1 = nI (R_ls r).length := by
  rcases h with h | ⟨N, Ls, a1, a2, a3, a4, a5, a6⟩
  · exact absurd h h1
  · have : R_ls r = Ls := by
      unfold R_ls
      rw [a2, nI_clamp (by omega), a4]
    rw [this]; exact a5
