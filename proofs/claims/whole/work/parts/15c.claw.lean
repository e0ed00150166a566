/-! ===== THE CLASS: conditions, sums, advice ===== -/
theorem z_0m1 : ((0 : Int32) < -1) = False := by decide
def m_la (a k : Nat) : Bool := a == 47 || (a == 42 && (k == 7 || k == 8))
theorem z_it_l {α : Type} (g : α → Int32 → α) (l : List Int32) (s : α) : z_it (fun t s => g s (l.getD t 0)) l.length s = l.foldl g s := by
  have key : ∀ k, k ≤ l.length → z_it (fun t s => g s (l.getD t 0)) k s = (l.take k).foldl g s := by
    intro k
    induction k with
    | zero => intro _; rfl
    | succ k ih =>
      intro hk
      show g (z_it (fun t s => g s (l.getD t 0)) k s) (l.getD k 0) = _
      rw [ih (by omega), List.take_succ, List.foldl_append, List.getElem?_eq_getElem (by omega), List.getD_eq_getElem?_getD, List.getElem?_eq_getElem (by omega)]
      rfl
  rw [key _ (Nat.le_refl _), List.take_length]
theorem r_E_mono (Ls : List Ln) : ∀ {i j : Nat}, i ≤ j → r_E Ls i ≤ r_E Ls j := by
  intro i j h
  induction h with
  | refl => exact Nat.le_refl _
  | step h ih => exact Nat.le_trans ih (Nat.le_add_right _ _)
theorem k_at_mem {Ls : List Ln} {i : Nat} (h : i < Ls.length) : r_at Ls i ∈ Ls := by
  unfold r_at
  rw [List.getD_eq_getElem?_getD, List.getElem?_eq_getElem h]
  exact List.getElem_mem h
theorem k_La_fr {I J : Ii} {r : Nat → Int32} (h : z_La I 42 r) (hf : z_fr m_la I J) : z_La J 42 r := by
  unfold z_La at h ⊢
  rw [hf 42 0 rfl, z_fr_row hf (42 + 1) (fun _ => rfl), z_fr_row hf (42 + 2) (fun _ => rfl), z_fr_row hf (42 + 3) (fun _ => rfl), z_fr_row hf (42 + 4) (fun _ => rfl)]
  exact h
theorem k_holds (X : Sx) (d : Nat) (I : Ii) (T : Tt) (r : Nat → Int32) (h : z_La I 42 r) (h1 : r 1 ≠ -1) (i : Nat) (hi : i < (R_ls r).length) (ho : (z_fcC I).2.2 = 0 ∨ (z_fcC I).2.2 = 1) : c_X4_holds_42 X (d + 1) (nI i) I T = z_r ((r_at (R_ls r) i).2.2.2 (z_fcC I)) I T := by
  have hlen := (R_ls_w r).2
  obtain ⟨w1, w2, w3, w4⟩ := (R_ls_w r).1 _ (k_at_mem hi)
  obtain ⟨hE, hall⟩ := h.2.2 h1
  obtain ⟨a1, a2, a3, a4⟩ := hall i hi
  have a3' : I 45 i = nI (r_E (R_ls r) (i + 1)) := a3
  have e1 : r_E (R_ls r) (i + 1) = r_E (R_ls r) i + (r_at (R_ls r) i).2.2.1.length := rfl
  have m1 := r_E_mono (R_ls r) (i := i + 1) (j := (R_ls r).length) (by omega)
  have st : c_X4_holds_42 X (d + 1) (nI i) I T = c_X4_holds_42_10 X d (nI i) (nI (r_E (R_ls r) i)) I T := by
    rw [e_X4_holds_42]
    by_cases h0 : i = 0
    · subst h0
      simp (disch := omega) only [q_bd_l, z_ltT, z_ltF, z_eqT, z_eqF, z_ltlT, z_ltlF, z_lltT, z_lltF, z_eqlT, z_eqlF, z_in, z_k7, z_cl, z_lneg, z_llT, z_llF, z_s1, z_nI_cl, z_nlt0, z_ne_m1, z_b0, z_b1, z_la, z_al, z_lm, z_ml, z_nm, nI_add, pk_mul, ↓reduceIte, not_true_eq_false, not_false_eq_true, true_or, or_true, false_or, or_false, true_and, and_true, and_false, false_and, Classical.not_not, Nat.add_zero, z_01, z_em, z_bit_p, Nat.not_le, Nat.not_lt, reduceCtorEq, if_true, if_false]
      rfl
    · have p3 : I 45 (i - 1) = nI (r_E (R_ls r) i) := by
        have := (hall (i - 1) (by omega)).2.2.1
        rw [show i - 1 + 1 = i by omega] at this
        exact this
      have n0 : (nI i = 0) = False := z_eqF i 0 h0 (by omega) (by omega)
      simp (disch := omega) only [n0, p3, q_bd_l, z_ltT, z_ltF, z_eqT, z_eqF, z_ltlT, z_ltlF, z_lltT, z_lltF, z_eqlT, z_eqlF, z_in, z_k7, z_cl, z_lneg, z_llT, z_llF, z_s1, z_nI_cl, z_nlt0, z_ne_m1, z_b0, z_b1, z_la, z_al, z_lm, z_ml, z_nm, nI_add, pk_mul, ↓reduceIte, not_true_eq_false, not_false_eq_true, true_or, or_true, false_or, or_false, true_and, and_true, and_false, false_and, Classical.not_not, Nat.add_zero, z_01, z_em, z_bit_p, Nat.not_le, Nat.not_lt, reduceCtorEq, if_true, if_false]
  rw [st, e_X4_holds_42_10]
  generalize hs : (r_at (R_ls r) i).2.2.1 = s at *
  generalize hv : (r_at (R_ls r) i).2.2.2 = v at *
  generalize hE1 : r_E (R_ls r) i = E at *
  rcases w4 with ⟨w5, w6⟩ | ⟨w5, w6⟩
  · subst w5
    have e2 : r_E (R_ls r) (i + 1) = E := e1
    rw [w6]
    simp (disch := omega) only [e_X4_holds_42_22, a3', e2, q_bd_l, z_ltT, z_ltF, z_eqT, z_eqF, z_ltlT, z_ltlF, z_lltT, z_lltF, z_eqlT, z_eqlF, z_in, z_k7, z_cl, z_lneg, z_llT, z_llF, z_s1, z_nI_cl, z_nlt0, z_ne_m1, z_b0, z_b1, z_la, z_al, z_lm, z_ml, z_nm, nI_add, pk_mul, ↓reduceIte, not_true_eq_false, not_false_eq_true, true_or, or_true, false_or, or_false, true_and, and_true, and_false, false_and, Classical.not_not, Nat.add_zero, z_01, z_em, z_bit_p, Nat.not_le, Nat.not_lt, reduceCtorEq, if_true, if_false]
    rw [e_X4_holds_42_29]
    have e5 : ((1 : Int32) &&& 1 = 1) = True := by decide
    simp (disch := omega) only [e5, q_bd_l, z_ltT, z_ltF, z_eqT, z_eqF, z_ltlT, z_ltlF, z_lltT, z_lltF, z_eqlT, z_eqlF, z_in, z_k7, z_cl, z_lneg, z_llT, z_llF, z_s1, z_nI_cl, z_nlt0, z_ne_m1, z_b0, z_b1, z_la, z_al, z_lm, z_ml, z_nm, nI_add, pk_mul, ↓reduceIte, not_true_eq_false, not_false_eq_true, true_or, or_true, false_or, or_false, true_and, and_true, and_false, false_and, Classical.not_not, Nat.add_zero, z_01, z_em, z_bit_p, Nat.not_le, Nat.not_lt, reduceCtorEq, if_true, if_false]
  · obtain ⟨c, c1, c2, l', c3⟩ := w6 (z_fcC I) ho
    obtain ⟨⟨p8, p9, p10⟩, -, p4⟩ := z_foldP (β := Int32 × Int32 × Int32) (σ := Option Value × Option Value × Option Value) (fun t q o => c_X4_holds_42_29 X d (nI i) (nI E) (nI (E + s.length)) q.1 q.2.1 q.2.2 (nI (E + t)) o.1 o.2.1 o.2.2 I T) (fun t q => e_stp (z_fcC I) q (s.getD t 0)) (fun _ _ _ => True) s.length (by
      intro t q o ht _
      have a5 : I 46 (E + t) = s.getD t 0 := a4 t ht
      have hvs : z_vs (s.getD t 0) := by
        refine w3 _ ?_
        rw [List.getD_eq_getElem?_getD, List.getElem?_eq_getElem ht]
        exact List.getElem_mem ht
      obtain ⟨q8, q9, q10, hq⟩ := k_step X d I T (nI i) (nI E) (E + s.length) (E + t) (by omega) (by omega) q _ a5 hvs o.1 o.2.1 o.2.2
      exact ⟨(q8, q9, q10), trivial, hq⟩) (0, 0, 0) (none, none, none) trivial
    rw [z_it_l (fun q x => e_stp (z_fcC I) q x) s, c3] at p4
    have nE : (nI E = nI (E + s.length)) = False := z_eqF _ _ (by omega) (by omega) (by omega)
    have a6 : I 45 i = nI (E + s.length) := by rw [a3', e1]
    have go : (if q_out (nI i) 12 then none else (if nI E = I 45 (nI i).toNatClampNeg then c_X4_holds_42_22 X d (nI i) (nI E) (I 45 (nI i).toNatClampNeg) 1 I T else c_X4_holds_42_22 X d (nI i) (nI E) (I 45 (nI i).toNatClampNeg) 0 I T)) = c_X4_holds_42_29 X d (nI i) (nI E) (nI (E + s.length)) 0 0 0 (nI (E + 0)) none none none I T := by
      simp (disch := omega) only [e_X4_holds_42_22, a6, nE, q_bd_l, z_ltT, z_ltF, z_eqT, z_eqF, z_ltlT, z_ltlF, z_lltT, z_lltF, z_eqlT, z_eqlF, z_in, z_k7, z_cl, z_lneg, z_llT, z_llF, z_s1, z_nI_cl, z_nlt0, z_ne_m1, z_b0, z_b1, z_la, z_al, z_lm, z_ml, z_nm, nI_add, pk_mul, ↓reduceIte, not_true_eq_false, not_false_eq_true, true_or, or_true, false_or, or_false, true_and, and_true, and_false, false_and, Classical.not_not, Nat.add_zero, z_01, z_em, z_bit_p, Nat.not_le, Nat.not_lt, reduceCtorEq, if_true, if_false]
    rw [go]
    refine p4.trans ?_
    dsimp only
    rw [e_X4_holds_42_29, c2]
    rcases (by omega : c = 0 ∨ c = 1) with rfl | rfl
    · have e5 : (nI 0 &&& 1 = 1) = False := by decide
      simp (disch := omega) only [e5, q_bd_l, z_ltT, z_ltF, z_eqT, z_eqF, z_ltlT, z_ltlF, z_lltT, z_lltF, z_eqlT, z_eqlF, z_in, z_k7, z_cl, z_lneg, z_llT, z_llF, z_s1, z_nI_cl, z_nlt0, z_ne_m1, z_b0, z_b1, z_la, z_al, z_lm, z_ml, z_nm, nI_add, pk_mul, ↓reduceIte, not_true_eq_false, not_false_eq_true, true_or, or_true, false_or, or_false, true_and, and_true, and_false, false_and, Classical.not_not, Nat.add_zero, z_01, z_em, z_bit_p, Nat.not_le, Nat.not_lt, reduceCtorEq, if_true, if_false]
      rfl
    · have e5 : (nI 1 &&& 1 = 1) = True := by decide
      simp (disch := omega) only [e5, q_bd_l, z_ltT, z_ltF, z_eqT, z_eqF, z_ltlT, z_ltlF, z_lltT, z_lltF, z_eqlT, z_eqlF, z_in, z_k7, z_cl, z_lneg, z_llT, z_llF, z_s1, z_nI_cl, z_nlt0, z_ne_m1, z_b0, z_b1, z_la, z_al, z_lm, z_ml, z_nm, nI_add, pk_mul, ↓reduceIte, not_true_eq_false, not_false_eq_true, true_or, or_true, false_or, or_false, true_and, and_true, and_false, false_and, Classical.not_not, Nat.add_zero, z_01, z_em, z_bit_p, Nat.not_le, Nat.not_lt, reduceCtorEq, if_true, if_false]
      rfl
/-- what LINES of a kind that hold come to -/
def r_sk (fc : Fc) (r : Nat → Int32) (k : Nat) : Int32 := if r 1 = -1 then 0 else z_it (fun i a => a + (if (r_at (R_ls r) i).1 = k ∧ (r_at (R_ls r) i).2.2.2 fc ≠ 0 then nI (r_at (R_ls r) i).2.1 else 0)) (R_ls r).length 0
theorem k_sumOf (X : Sx) (d : Nat) (I : Ii) (T : Tt) (r : Nat → Int32) (h : z_La I 42 r) (k : Nat) (ho : (z_fcC I).2.2 = 0 ∨ (z_fcC I).2.2 = 1) (hk : k < 1000 := by omega) : c_X4_sumOf_42 X (d + 3) (nI k) I T = z_r (r_sk (z_fcC I) r k) I T := by
  have l0 : I 42 0 = r 1 := h.2.1
  unfold r_sk
  rw [e_X4_sumOf_42]
  by_cases h1 : r 1 = -1
  · rw [if_pos h1, e_X4_sumOf_42_4]
    simp (disch := omega) only [l0, h1, z_0m1, q_bd_l, z_ltT, z_ltF, z_eqT, z_eqF, z_ltlT, z_ltlF, z_lltT, z_lltF, z_eqlT, z_eqlF, z_in, z_k7, z_cl, z_lneg, z_llT, z_llF, z_s1, z_nI_cl, z_nlt0, z_ne_m1, z_b0, z_b1, z_la, z_al, z_lm, z_ml, z_nm, nI_add, pk_mul, ↓reduceIte, not_true_eq_false, not_false_eq_true, true_or, or_true, false_or, or_false, true_and, and_true, and_false, false_and, Classical.not_not, Nat.add_zero, z_01, z_em, z_bit_p, Nat.not_le, Nat.not_lt, reduceCtorEq, if_true, if_false]
  · rw [if_neg h1]
    have hlen := (R_ls_w r).2
    have l1 := R_lo_n h.1 h1
    refine (z_for (fun i a => c_X4_sumOf_42_4 X (d + 2) (nI k) a (nI i) I T) (fun i a => a + (if (r_at (R_ls r) i).1 = k ∧ (r_at (R_ls r) i).2.2.2 (z_fcC I) ≠ 0 then nI (r_at (R_ls r) i).2.1 else 0)) (R_ls r).length (fun i a hi => ?_) 0).trans ?_
    · have hi2 := (h.2.2 h1).2 i hi
      have k3 : I 43 i = nI (r_at (R_ls r) i).1 := hi2.1
      have k4 : I 44 i = nI (r_at (R_ls r) i).2.1 := hi2.2.1
      have w3 := ((R_ls_w r).1 _ (k_at_mem hi)).1
      have hh := k_holds X (d + 1) I T r h h1 i hi ho
      rw [e_X4_sumOf_42_4]
      by_cases e3 : (r_at (R_ls r) i).1 = k
      · by_cases ev : (r_at (R_ls r) i).2.2.2 (z_fcC I) = 0 <;> simp (disch := omega) only [e_X4_sumOf_42_17, k_X4_sumOf_42_17, e_X4_sumOf_42_25, l0, l1, k3, k4, e3, hh, ev, Int32.add_zero, q_bd_l, z_ltT, z_ltF, z_eqT, z_eqF, z_ltlT, z_ltlF, z_lltT, z_lltF, z_eqlT, z_eqlF, z_in, z_k7, z_cl, z_lneg, z_llT, z_llF, z_s1, z_nI_cl, z_nlt0, z_ne_m1, z_b0, z_b1, z_la, z_al, z_lm, z_ml, z_nm, nI_add, pk_mul, ↓reduceIte, not_true_eq_false, not_false_eq_true, true_or, or_true, false_or, or_false, true_and, and_true, and_false, false_and, Classical.not_not, Nat.add_zero, z_01, z_em, z_bit_p, Nat.not_le, Nat.not_lt, reduceCtorEq, if_true, if_false, decide_true, decide_false, Bool.and_true, Bool.and_false, Bool.true_and, Bool.false_and, Bool.or_true, Bool.or_false, Bool.true_or, Bool.false_or, Bool.false_eq_true, ne_eq, Bool.not_true, Bool.not_false, decide_not]
      · simp (disch := omega) only [e_X4_sumOf_42_17, k_X4_sumOf_42_17, e_X4_sumOf_42_25, l0, l1, k3, e3, Int32.add_zero, q_bd_l, z_ltT, z_ltF, z_eqT, z_eqF, z_ltlT, z_ltlF, z_lltT, z_lltF, z_eqlT, z_eqlF, z_in, z_k7, z_cl, z_lneg, z_llT, z_llF, z_s1, z_nI_cl, z_nlt0, z_ne_m1, z_b0, z_b1, z_la, z_al, z_lm, z_ml, z_nm, nI_add, pk_mul, ↓reduceIte, not_true_eq_false, not_false_eq_true, true_or, or_true, false_or, or_false, true_and, and_true, and_false, false_and, Classical.not_not, Nat.add_zero, z_01, z_em, z_bit_p, Nat.not_le, Nat.not_lt, reduceCtorEq, if_true, if_false, decide_true, decide_false, Bool.and_true, Bool.and_false, Bool.true_and, Bool.false_and, Bool.or_true, Bool.or_false, Bool.true_or, Bool.false_or, Bool.false_eq_true, ne_eq, Bool.not_true, Bool.not_false, decide_not]
    · rw [e_X4_sumOf_42_4]
      simp (disch := omega) only [l0, l1, q_bd_l, z_ltT, z_ltF, z_eqT, z_eqF, z_ltlT, z_ltlF, z_lltT, z_lltF, z_eqlT, z_eqlF, z_in, z_k7, z_cl, z_lneg, z_llT, z_llF, z_s1, z_nI_cl, z_nlt0, z_ne_m1, z_b0, z_b1, z_la, z_al, z_lm, z_ml, z_nm, nI_add, pk_mul, ↓reduceIte, not_true_eq_false, not_false_eq_true, true_or, or_true, false_or, or_false, true_and, and_true, and_false, false_and, Classical.not_not, Nat.add_zero, z_01, z_em, z_bit_p, Nat.not_le, Nat.not_lt, reduceCtorEq, if_true, if_false]
theorem r_lns_it (fc : Fc) (Ls : List Ln) (st : S3) : r_lns fc Ls st = z_it (fun i st => r_ln fc (r_at Ls i) st) Ls.length st := by
  have app : ∀ (A : List Ln) (L : Ln) (st : S3), r_lns fc (A ++ [L]) st = r_ln fc L (r_lns fc A st) := by
    intro A
    induction A with
    | nil => intro L st; rfl
    | cons a A ih => intro L st; exact ih L _
  have key : ∀ k, k ≤ Ls.length → r_lns fc (Ls.take k) st = z_it (fun i st => r_ln fc (r_at Ls i) st) k st := by
    intro k
    induction k with
    | zero => intro _; rfl
    | succ k ih =>
      intro hk
      rw [List.take_succ, List.getElem?_eq_getElem (by omega)]
      show r_lns fc (Ls.take k ++ [Ls[k]]) st = r_ln fc (r_at Ls k) (z_it (fun i st => r_ln fc (r_at Ls i) st) k st)
      rw [app, ih (by omega)]
      congr 1
      unfold r_at
      rw [List.getD_eq_getElem?_getD, List.getElem?_eq_getElem (by omega)]
      rfl
  have := key Ls.length (Nat.le_refl _)
  rw [List.take_length] at this
  exact this
theorem r_lns_s {fc : Fc} {Ls : List Ln} (hk : ∀ i, i < Ls.length → (r_at Ls i).1 < 4) (vw : Int32) : ∀ n, n ≤ Ls.length → z_it (fun i st => r_ln fc (r_at Ls i) st) n (vw, 0, 0) = (vw + z_it (fun i a => a + (if (r_at Ls i).1 = 0 ∧ (r_at Ls i).2.2.2 fc ≠ 0 then nI (r_at Ls i).2.1 else 0)) n 0 - z_it (fun i a => a + (if (r_at Ls i).1 = 1 ∧ (r_at Ls i).2.2.2 fc ≠ 0 then nI (r_at Ls i).2.1 else 0)) n 0, z_it (fun i a => a + (if (r_at Ls i).1 = 2 ∧ (r_at Ls i).2.2.2 fc ≠ 0 then nI (r_at Ls i).2.1 else 0)) n 0, z_i (z_any (fun i => decide ((r_at Ls i).1 = 3) && decide ((r_at Ls i).2.2.2 fc ≠ 0)) n)) := by
  intro n
  induction n with
  | zero => intro _; simp [z_it, z_any, z_i]
  | succ n ih =>
    intro hn
    have ih := ih (by omega)
    have h4 := hk n (by omega)
    have ea : z_any (fun i => decide ((r_at Ls i).1 = 3) && decide ((r_at Ls i).2.2.2 fc ≠ 0)) (n + 1) = (z_any (fun i => decide ((r_at Ls i).1 = 3) && decide ((r_at Ls i).2.2.2 fc ≠ 0)) n || (decide ((r_at Ls n).1 = 3) && decide ((r_at Ls n).2.2.2 fc ≠ 0))) := rfl
    show r_ln fc (r_at Ls n) (z_it (fun i st => r_ln fc (r_at Ls i) st) n (vw, 0, 0)) = _
    rw [ih, ea]
    show _ = (vw + (z_it (fun i a => a + (if (r_at Ls i).1 = 0 ∧ (r_at Ls i).2.2.2 fc ≠ 0 then nI (r_at Ls i).2.1 else 0)) n 0 + (if (r_at Ls n).1 = 0 ∧ (r_at Ls n).2.2.2 fc ≠ 0 then nI (r_at Ls n).2.1 else 0)) - (z_it (fun i a => a + (if (r_at Ls i).1 = 1 ∧ (r_at Ls i).2.2.2 fc ≠ 0 then nI (r_at Ls i).2.1 else 0)) n 0 + (if (r_at Ls n).1 = 1 ∧ (r_at Ls n).2.2.2 fc ≠ 0 then nI (r_at Ls n).2.1 else 0)), z_it (fun i a => a + (if (r_at Ls i).1 = 2 ∧ (r_at Ls i).2.2.2 fc ≠ 0 then nI (r_at Ls i).2.1 else 0)) n 0 + (if (r_at Ls n).1 = 2 ∧ (r_at Ls n).2.2.2 fc ≠ 0 then nI (r_at Ls n).2.1 else 0), _)
    generalize z_it (fun i a => a + (if (r_at Ls i).1 = 0 ∧ (r_at Ls i).2.2.2 fc ≠ 0 then nI (r_at Ls i).2.1 else 0)) n 0 = A
    generalize z_it (fun i a => a + (if (r_at Ls i).1 = 1 ∧ (r_at Ls i).2.2.2 fc ≠ 0 then nI (r_at Ls i).2.1 else 0)) n 0 = D
    generalize z_it (fun i a => a + (if (r_at Ls i).1 = 2 ∧ (r_at Ls i).2.2.2 fc ≠ 0 then nI (r_at Ls i).2.1 else 0)) n 0 = C
    generalize z_any (fun i => decide ((r_at Ls i).1 = 3) && decide ((r_at Ls i).2.2.2 fc ≠ 0)) n = g
    unfold r_ln r_ap
    by_cases hv : (r_at Ls n).2.2.2 fc = 0
    · simp [hv]
    · rcases (by omega : (r_at Ls n).1 = 0 ∨ (r_at Ls n).1 = 1 ∨ (r_at Ls n).1 = 2 ∨ (r_at Ls n).1 = 3) with e | e | e | e
      · simp only [hv, e, ↓reduceIte]
        refine Prod.ext ?_ (Prod.ext ?_ ?_)
        · simp [hv]; grind
        · simp [hv]
        · cases g <;> simp [z_i, hv]
      · simp only [hv, e, ↓reduceIte]
        refine Prod.ext ?_ (Prod.ext ?_ ?_)
        · simp [hv]; grind
        · simp [hv]
        · cases g <;> simp [z_i, hv]
      · simp only [hv, e, ↓reduceIte]
        refine Prod.ext ?_ (Prod.ext ?_ ?_)
        · simp [hv]
        · simp [hv]
        · cases g <;> simp [z_i, hv]
      · simp only [hv, e, ↓reduceIte]
        refine Prod.ext ?_ (Prod.ext ?_ ?_)
        · simp [hv]
        · simp [hv]
        · cases g <;> simp [z_i, hv]
theorem k_say {r : Nat → Int32} (h1 : r 1 ≠ -1) (j : Nat) (mt vw : Int32) : R_say r j mt vw = (vw + r_sk (r_fc r j mt vw) r 0 - r_sk (r_fc r j mt vw) r 1, r_sk (r_fc r j mt vw) r 2, z_i (z_any (fun i => decide ((r_at (R_ls r) i).1 = 3) && decide ((r_at (R_ls r) i).2.2.2 (r_fc r j mt vw) ≠ 0)) (R_ls r).length)) := by
  unfold R_say r_sk
  rw [if_neg h1, if_neg h1, if_neg h1, if_neg h1, r_lns_it]
  exact r_lns_s (fun i hi => ((R_ls_w r).1 _ (k_at_mem hi)).1) vw _ (Nat.le_refl _)
theorem k_say_adv {r : Nat → Int32} (_h : R_lo r) (j : Nat) (mt vw : Int32) : vw + r_sk (r_fc r j mt vw) r 0 - r_sk (r_fc r j mt vw) r 1 = (R_say r j mt vw).1 := by
  by_cases h1 : r 1 = -1
  · unfold R_say r_sk
    rw [if_pos h1, if_pos h1, if_pos h1]
    simp
  · rw [k_say h1]
theorem k_say_sb {r : Nat → Int32} (h1 : r 1 ≠ -1) {j : Nat} : r_sk (r_fc r j 0 0) r 2 = (R_say r j 0 0).2.1 := by rw [k_say h1]
theorem k_say_pp {r : Nat → Int32} (h1 : r 1 ≠ -1) {j : Nat} : (R_say r j 0 0).2.2 = z_i (z_any (fun i => decide ((r_at (R_ls r) i).1 = 3) && decide ((r_at (R_ls r) i).2.2.2 (r_fc r j 0 0) ≠ 0)) (R_ls r).length) := by rw [k_say h1]
theorem z_fst_any {p : Nat → Bool} {n : Nat} : z_any p n = true ↔ z_fst p n < n := by
  rw [z_any_p]
  constructor
  · intro ⟨k, hk, hp⟩
    rcases Nat.lt_or_ge (z_fst p n) n with h | h
    · exact h
    · exfalso
      have e : z_fst p n = n := Nat.le_antisymm (z_fst_le p n) h
      obtain ⟨k0, h0, hm⟩ := pk_least (fun k => p k = true) ⟨k, hp⟩
      have h1 : k0 ≤ k := by
        rcases Nat.lt_or_ge k k0 with h | h
        · exact absurd hp (hm k h)
        · exact h
      have := z_fst_hit (p := p) (k := k0) (fun i hi => by cases hq : p i; rfl; exact absurd hq (hm i hi)) h0 (n := n) (by omega)
      omega
  · intro h
    rcases hb : z_any p n with _ | _
    · exfalso
      have hno : ∀ k, k < n → p k = false := by
        intro k hk
        cases hq : p k
        · rfl
        · have : z_any p n = true := by rw [z_any_p]; exact ⟨k, hk, hq⟩
          rw [hb] at this; cases this
      rw [z_fst_no hno] at h
      omega
    · rw [z_any_p] at hb; exact hb
theorem z_clamp_c (a : Int32) : (if (0 : Int32) < (if a < 9 then a else 9) then (if a < 9 then a else 9) else 0) = z_clamp a := by
  unfold z_clamp
  have t : ∀ x y : Int32, (x < y) = (x.toInt < y.toInt) := fun x y => propext Int32.lt_iff_toInt_lt
  have e9 : (9 : Int32).toInt = 9 := rfl
  have e0 : (0 : Int32).toInt = 0 := rfl
  by_cases h1 : a.toInt < 9
  · have h2 : ¬ (9 : Int) < a.toInt := by omega
    simp only [t, e9, e0, h1, h2, ↓reduceIte]
    by_cases h3 : 0 < a.toInt
    · have h4 : ¬ a.toInt < 0 := by omega
      simp only [h3, h4, ↓reduceIte]
    · by_cases h4 : a.toInt < 0
      · simp only [h3, h4, ↓reduceIte]
      · simp only [h3, h4, ↓reduceIte]
        exact Int32.toInt_inj.mp (by rw [e0]; omega)
  · by_cases h2 : (9 : Int) < a.toInt
    · simp only [t, e9, e0, h1, h2, ↓reduceIte]
      decide
    · simp only [t, e9, e0, h1, h2, ↓reduceIte]
      have : a = 9 := Int32.toInt_inj.mp (by rw [e9]; omega)
      subst this
      decide
theorem k_fc12 {J : Ii} {r : Nat → Int32} {j : Nat} (h : z_fcC J = r_fc r j 0 0) (mt vw : Int32) : z_fcC (q_w (q_w J 47 1 mt) 47 2 vw) = r_fc r j mt vw := by
  unfold z_fcC r_fc at h ⊢
  have h1 := congrArg Prod.fst h
  have h2 := congrArg Prod.snd h
  dsimp only at h1 h2
  refine Prod.ext ?_ ?_
  · funext k
    have hk := congrFun h1 k
    dsimp only at hk ⊢
    by_cases h7 : k < 7
    · rw [if_pos h7] at hk ⊢
      rw [if_pos h7] at hk ⊢
      by_cases e1 : k = 1
      · subst e1; simp [z_w]
      · by_cases e2 : k = 2
        · subst e2; simp [z_w]
        · rw [z_w_k _ _ _ _ _ e2, z_w_k _ _ _ _ _ e1, hk]
          simp only [e1, e2, ↓reduceIte]
    · rw [if_neg h7, if_neg h7]
  · show (q_w (q_w J 47 1 mt) 47 2 vw 42 7, q_w (q_w J 47 1 mt) 47 2 vw 42 8) = _
    rw [z_w_a _ _ _ _ 42 (by decide), z_w_a _ _ _ _ 42 (by decide)]
    exact h2
/-- the cells of law, shelf and moment 27 -/
def k_H27 (I : Ii) (r : Nat → Int32) (n m : Nat) : Prop := R_ok r n m ∧ z_Sh I 3 r n m ∧ z_Mo I 27 r n ∧ z_La I 42 r
theorem k_look27 (X : Sx) (d : Nat) (I : Ii) (T : Tt) (r : Nat → Int32) (n m j : Nat) (h : k_H27 I r n m) (hj : j < n) : ∃ J, c_X4_lookAt_42_3_27 X (d + 2) (nI j) I T = z_v J T ∧ z_fr m_la I J ∧ z_fcC J = r_fc r j 0 0 := by
  obtain ⟨h1, h2, h3, h4⟩ := h
  have hn := h1.2.1
  obtain ⟨a1, a2, a3, a4, a5, a6, a7, a8, a9, a10, a11, a12, a13⟩ := h2
  obtain ⟨b1, b2, b3, b4, b5, b6, b7, b8, o, b9, b10, b11⟩ := h3
  have c7 : I 4 j = r (12 + 13 * j) := a7 j hj
  have c1 : I 28 j = r (12 + 13 * j + 1) := b5 j hj
  have c2 : I 29 j = r (12 + 13 * j + 2) := b6 j hj
  have c3 : I 30 j = r (12 + 13 * j + 3) := b7 j hj
  have o2 : o < 2 ^ 31 := Nat.lt_trans b9 (Nat.pow_lt_pow_right (by decide) (by omega))
  have hb : z_bit (I 27 4) j = o.testBit j := by rw [b10]; exact z_bit_nI o j o2 (by omega)
  have hob := b11 j hj
  refine ⟨q_w (q_w (q_w (q_w (q_w (q_w (q_w (q_w (q_w I 47 0 (nI j)) 47 1 0) 47 2 0) 47 3 (r (12 + 13 * j + 3))) 47 4 (r (12 + 13 * j + 2))) 47 5 (r (12 + 13 * j + 1))) 47 6 (r 8)) 42 7 (r (12 + 13 * j))) 42 8 (z_b (o.testBit j = true)), ?_, ?_, ?_⟩
  · rw [e_X4_lookAt_42_3_27]
    have e9 := e_X7_isOpen_27
    unfold z_b
    cases hc : o.testBit j <;> (rw [hc] at hb; simp (disch := omega) only [e_X4_lookAt_42_3_27_55, k_X4_lookAt_42_3_27_55, e_X7_isOpen_27, c7, c1, c2, c3, b1, hb, z_w_a, z_bit_p, q_bd_l, z_ltT, z_ltF, z_eqT, z_eqF, z_ltlT, z_ltlF, z_lltT, z_lltF, z_eqlT, z_eqlF, z_in, z_k7, z_cl, z_lneg, z_llT, z_llF, z_s1, z_nI_cl, z_nlt0, z_ne_m1, z_b0, z_b1, z_la, z_al, z_lm, z_ml, z_nm, nI_add, pk_mul, ↓reduceIte, not_true_eq_false, not_false_eq_true, true_or, or_true, false_or, or_false, true_and, and_true, and_false, false_and, Classical.not_not, Nat.add_zero, z_01, z_em, z_bit_p, Nat.not_le, Nat.not_lt, reduceCtorEq, if_true, if_false, decide_true, decide_false, Bool.and_true, Bool.and_false, Bool.true_and, Bool.false_and, Bool.or_true, Bool.or_false, Bool.true_or, Bool.false_or, Bool.false_eq_true, ne_eq, Bool.not_true, Bool.not_false, decide_not])
  · repeat (refine z_fr_w ?_ _ _ _ rfl)
    exact z_fr_r _ _
  · unfold z_fcC r_fc
    refine Prod.ext ?_ (Prod.ext ?_ ?_)
    · funext k
      dsimp only
      by_cases hk : k < 7
      · rw [if_pos hk, if_pos hk]
        rcases (by omega : k = 0 ∨ k = 1 ∨ k = 2 ∨ k = 3 ∨ k = 4 ∨ k = 5 ∨ k = 6) with rfl | rfl | rfl | rfl | rfl | rfl | rfl <;> simp [z_w]
      · rw [if_neg hk, if_neg hk]
    · simp [z_w]
    · dsimp only
      rw [z_w_s]
      simp only [hob, z_b1]
theorem k_H27_fr {I J : Ii} {r : Nat → Int32} {n m : Nat} (h : k_H27 I r n m) (hf : z_fr m_la I J) : k_H27 J r n m := by
  obtain ⟨h1, h2, h3, h4⟩ := h
  refine ⟨h1, ?_, ?_, ?_⟩
  · unfold z_Sh at h2 ⊢
    rw [z_fr_row hf 3 (fun _ => rfl), z_fr_row hf (3 + 1) (fun _ => rfl), z_fr_row hf (3 + 2) (fun _ => rfl), z_fr_row hf (3 + 3) (fun _ => rfl), z_fr_row hf (3 + 4) (fun _ => rfl), z_fr_row hf (3 + 5) (fun _ => rfl), z_fr_row hf (3 + 6) (fun _ => rfl), z_fr_row hf (3 + 7) (fun _ => rfl)]
    exact h2
  · unfold z_Mo at h3 ⊢
    rw [z_fr_row hf 27 (fun _ => rfl), z_fr_row hf (27 + 1) (fun _ => rfl), z_fr_row hf (27 + 2) (fun _ => rfl), z_fr_row hf (27 + 3) (fun _ => rfl), z_fr_row hf (27 + 4) (fun _ => rfl)]
    exact h3
  · exact k_La_fr h4 hf
theorem k_adv27 (X : Sx) (d : Nat) (I : Ii) (T : Tt) (r : Nat → Int32) (n m j t : Nat) (h : k_H27 I r n m) (hj : j < n) (ht : t < 6) : ∃ J, c_X4_adviceOf_42_3_27 X (d + 4) (nI j) (nI t) I T = z_r (R_adv r j t) J T ∧ z_fr m_la I J := by
  have hn := h.1.2.1
  obtain ⟨J, j1, j2, j3⟩ := k_look27 X (d + 1) I T r n m j h hj
  have hv : I 6 (j * 6 + t) = r (12 + 13 * j + (7 + t)) := h.2.1.2.2.2.2.2.2.2.2.1 j t hj ht
  have vo : c_X9_viewOf_3 X (d + 3) (nI j) (nI t) I T = z_r (r (12 + 13 * j + (7 + t))) I T := by
    rw [e_X9_viewOf_3]
    simp (disch := omega) only [hv, q_bd_l, z_ltT, z_ltF, z_eqT, z_eqF, z_ltlT, z_ltlF, z_lltT, z_lltF, z_eqlT, z_eqlF, z_in, z_k7, z_cl, z_lneg, z_llT, z_llF, z_s1, z_nI_cl, z_nlt0, z_ne_m1, z_b0, z_b1, z_la, z_al, z_lm, z_ml, z_nm, nI_add, pk_mul, ↓reduceIte, not_true_eq_false, not_false_eq_true, true_or, or_true, false_or, or_false, true_and, and_true, and_false, false_and, Classical.not_not, Nat.add_zero, z_01, z_em, z_bit_p, Nat.not_le, Nat.not_lt, reduceCtorEq, if_true, if_false]
  have f2 : z_fr m_la I (q_w (q_w J 47 1 (nI t)) 47 2 (r (12 + 13 * j + (7 + t)))) := z_fr_w (z_fr_w j2 47 1 _ rfl) 47 2 _ rfl
  have ef : z_fcC (q_w (q_w J 47 1 (nI t)) 47 2 (r (12 + 13 * j + (7 + t)))) = r_fc r j (nI t) (r (12 + 13 * j + (7 + t))) := k_fc12 j3 _ _
  have hL := k_La_fr h.2.2.2 f2
  generalize hK : q_w (q_w J 47 1 (nI t)) 47 2 (r (12 + 13 * j + (7 + t))) = K at *
  have s0 := k_sumOf X d K T r hL 0 (by rw [ef]; exact z_b_01 _)
  have s1 := k_sumOf X d K T r hL 1 (by rw [ef]; exact z_b_01 _)
  rw [ef] at s0 s1
  refine ⟨K, ?_, f2⟩
  rw [e_X4_adviceOf_42_3_27, vo]
  have s0' : c_X4_sumOf_42 X (d + 3) 0 K T = z_r (r_sk (r_fc r j (nI t) (r (12 + 13 * j + (7 + t)))) r 0) K T := s0
  have s1' : c_X4_sumOf_42 X (d + 3) 1 K T = z_r (r_sk (r_fc r j (nI t) (r (12 + 13 * j + (7 + t)))) r 1) K T := s1
  simp (disch := omega) only [e_X4_adviceOf_42_3_27_4, k_X4_adviceOf_42_3_27_4, e_X4_adviceOf_42_3_27_10, k_X4_adviceOf_42_3_27_10, e_X4_adviceOf_42_3_27_24, k_X4_adviceOf_42_3_27_24, e_X4_adviceOf_42_3_27_28, k_X4_adviceOf_42_3_27_28, j1, hK, s0', s1', q_bd_l, z_ltT, z_ltF, z_eqT, z_eqF, z_ltlT, z_ltlF, z_lltT, z_lltF, z_eqlT, z_eqlF, z_in, z_k7, z_cl, z_lneg, z_llT, z_llF, z_s1, z_nI_cl, z_nlt0, z_ne_m1, z_b0, z_b1, z_la, z_al, z_lm, z_ml, z_nm, nI_add, pk_mul, ↓reduceIte, not_true_eq_false, not_false_eq_true, true_or, or_true, false_or, or_false, true_and, and_true, and_false, false_and, Classical.not_not, Nat.add_zero, z_01, z_em, z_bit_p, Nat.not_le, Nat.not_lt, reduceCtorEq, if_true, if_false]
  rw [z_clamp_c, k_say_adv h.2.2.2.1]
  rfl
theorem k_sb27 (X : Sx) (d : Nat) (I : Ii) (T : Tt) (r : Nat → Int32) (n m j : Nat) (h : k_H27 I r n m) (hj : j < n) : ∃ J, c_X4_soursBy_42_3_27 X (d + 4) (nI j) I T = z_r (R_say r j 0 0).2.1 J T ∧ z_fr m_la I J := by
  have hn := h.1.2.1
  have c7 : I 4 j = r (12 + 13 * j) := h.2.1.2.2.2.2.2.2.1 j hj
  have l0 : I 42 0 = r 1 := h.2.2.2.2.1
  rw [e_X4_soursBy_42_3_27]
  by_cases h1 : r 1 = -1
  · refine ⟨I, ?_, z_fr_r _ _⟩
    unfold R_say z_b
    rw [if_pos h1]
    by_cases hl : r (12 + 13 * j) = 0 <;> simp (disch := omega) only [l0, h1, c7, hl, q_bd_l, z_ltT, z_ltF, z_eqT, z_eqF, z_ltlT, z_ltlF, z_lltT, z_lltF, z_eqlT, z_eqlF, z_in, z_k7, z_cl, z_lneg, z_llT, z_llF, z_s1, z_nI_cl, z_nlt0, z_ne_m1, z_b0, z_b1, z_la, z_al, z_lm, z_ml, z_nm, nI_add, pk_mul, ↓reduceIte, not_true_eq_false, not_false_eq_true, true_or, or_true, false_or, or_false, true_and, and_true, and_false, false_and, Classical.not_not, Nat.add_zero, z_01, z_em, z_bit_p, Nat.not_le, Nat.not_lt, reduceCtorEq, if_true, if_false]
  · obtain ⟨J, j1, j2, j3⟩ := k_look27 X (d + 1) I T r n m j h hj
    have s2 : c_X4_sumOf_42 X (d + 3) 2 J T = z_r (r_sk (z_fcC J) r 2) J T := k_sumOf X d J T r (k_La_fr h.2.2.2 j2) 2 (by rw [j3]; exact z_b_01 _)
    refine ⟨J, ?_, j2⟩
    simp (disch := omega) only [e_X4_soursBy_42_3_27_18, k_X4_soursBy_42_3_27_18, e_X4_soursBy_42_3_27_21, k_X4_soursBy_42_3_27_21, l0, h1, j1, s2, q_bd_l, z_ltT, z_ltF, z_eqT, z_eqF, z_ltlT, z_ltlF, z_lltT, z_lltF, z_eqlT, z_eqlF, z_in, z_k7, z_cl, z_lneg, z_llT, z_llF, z_s1, z_nI_cl, z_nlt0, z_ne_m1, z_b0, z_b1, z_la, z_al, z_lm, z_ml, z_nm, nI_add, pk_mul, ↓reduceIte, not_true_eq_false, not_false_eq_true, true_or, or_true, false_or, or_false, true_and, and_true, and_false, false_and, Classical.not_not, Nat.add_zero, z_01, z_em, z_bit_p, Nat.not_le, Nat.not_lt, reduceCtorEq, if_true, if_false]
    rw [j3, k_say_sb h1]
theorem k_pp27 (X : Sx) (d : Nat) (I : Ii) (T : Tt) (r : Nat → Int32) (n m j : Nat) (h : k_H27 I r n m) (hj : j < n) : ∃ J, c_X4_makesPop_42_3_27 X (d + 3) (nI j) I T = z_r (R_say r j 0 0).2.2 J T ∧ z_fr m_la I J := by
  have hn := h.1.2.1
  obtain ⟨J, j1, j2, j3⟩ := k_look27 X d I T r n m j h hj
  have hL := k_La_fr h.2.2.2 j2
  have l0 : J 42 0 = r 1 := hL.2.1
  refine ⟨J, ?_, j2⟩
  rw [e_X4_makesPop_42_3_27]
  simp (disch := omega) only [e_X4_makesPop_42_3_27_5, k_X4_makesPop_42_3_27_5, j1, q_bd_l, z_ltT, z_ltF, z_eqT, z_eqF, z_ltlT, z_ltlF, z_lltT, z_lltF, z_eqlT, z_eqlF, z_in, z_k7, z_cl, z_lneg, z_llT, z_llF, z_s1, z_nI_cl, z_nlt0, z_ne_m1, z_b0, z_b1, z_la, z_al, z_lm, z_ml, z_nm, nI_add, pk_mul, ↓reduceIte, not_true_eq_false, not_false_eq_true, true_or, or_true, false_or, or_false, true_and, and_true, and_false, false_and, Classical.not_not, Nat.add_zero, z_01, z_em, z_bit_p, Nat.not_le, Nat.not_lt, reduceCtorEq, if_true, if_false]
  by_cases h1 : r 1 = -1
  · rw [e_X4_makesPop_42_3_27_7]
    have : R_say r j 0 0 = (0, z_b (r (12 + 13 * j) = 0), 0) := by unfold R_say; rw [if_pos h1]
    simp (disch := omega) only [l0, h1, this, z_0m1, q_bd_l, z_ltT, z_ltF, z_eqT, z_eqF, z_ltlT, z_ltlF, z_lltT, z_lltF, z_eqlT, z_eqlF, z_in, z_k7, z_cl, z_lneg, z_llT, z_llF, z_s1, z_nI_cl, z_nlt0, z_ne_m1, z_b0, z_b1, z_la, z_al, z_lm, z_ml, z_nm, nI_add, pk_mul, ↓reduceIte, not_true_eq_false, not_false_eq_true, true_or, or_true, false_or, or_false, true_and, and_true, and_false, false_and, Classical.not_not, Nat.add_zero, z_01, z_em, z_bit_p, Nat.not_le, Nat.not_lt, reduceCtorEq, if_true, if_false]
  · have hlen := (R_ls_w r).2
    have l1 := R_lo_n hL.1 h1
    refine (z_find (fun i => c_X4_makesPop_42_3_27_7 X (d + 2) (nI j) (nI i) J T) (fun i => z_r 1 J T) (fun i => decide ((r_at (R_ls r) i).1 = 3) && decide ((r_at (R_ls r) i).2.2.2 (z_fcC J) ≠ 0)) (R_ls r).length (fun i hi => ?_)).trans ?_
    · have hi2 := (hL.2.2 h1).2 i hi
      have k3 : J 43 i = nI (r_at (R_ls r) i).1 := hi2.1
      have w3 := ((R_ls_w r).1 _ (k_at_mem hi)).1
      have hh := k_holds X (d + 1) J T r hL h1 i hi (by rw [j3]; exact z_b_01 _)
      rw [e_X4_makesPop_42_3_27_7]
      by_cases e3 : (r_at (R_ls r) i).1 = 3
      · by_cases ev : (r_at (R_ls r) i).2.2.2 (z_fcC J) = 0 <;> simp (disch := omega) only [e_X4_makesPop_42_3_27_5, k_X4_makesPop_42_3_27_5, e_X4_makesPop_42_3_27_20, k_X4_makesPop_42_3_27_20, e_X4_makesPop_42_3_27_23, l0, l1, k3, e3, hh, ev, q_bd_l, z_ltT, z_ltF, z_eqT, z_eqF, z_ltlT, z_ltlF, z_lltT, z_lltF, z_eqlT, z_eqlF, z_in, z_k7, z_cl, z_lneg, z_llT, z_llF, z_s1, z_nI_cl, z_nlt0, z_ne_m1, z_b0, z_b1, z_la, z_al, z_lm, z_ml, z_nm, nI_add, pk_mul, ↓reduceIte, not_true_eq_false, not_false_eq_true, true_or, or_true, false_or, or_false, true_and, and_true, and_false, false_and, Classical.not_not, Nat.add_zero, z_01, z_em, z_bit_p, Nat.not_le, Nat.not_lt, reduceCtorEq, if_true, if_false, decide_true, decide_false, Bool.and_true, Bool.and_false, Bool.true_and, Bool.false_and, Bool.or_true, Bool.or_false, Bool.true_or, Bool.false_or, Bool.false_eq_true, ne_eq, Bool.not_true, Bool.not_false, decide_not]
      · simp (disch := omega) only [e_X4_makesPop_42_3_27_5, k_X4_makesPop_42_3_27_5, e_X4_makesPop_42_3_27_20, k_X4_makesPop_42_3_27_20, e_X4_makesPop_42_3_27_23, l0, l1, k3, e3, q_bd_l, z_ltT, z_ltF, z_eqT, z_eqF, z_ltlT, z_ltlF, z_lltT, z_lltF, z_eqlT, z_eqlF, z_in, z_k7, z_cl, z_lneg, z_llT, z_llF, z_s1, z_nI_cl, z_nlt0, z_ne_m1, z_b0, z_b1, z_la, z_al, z_lm, z_ml, z_nm, nI_add, pk_mul, ↓reduceIte, not_true_eq_false, not_false_eq_true, true_or, or_true, false_or, or_false, true_and, and_true, and_false, false_and, Classical.not_not, Nat.add_zero, z_01, z_em, z_bit_p, Nat.not_le, Nat.not_lt, reduceCtorEq, if_true, if_false, decide_true, decide_false, Bool.and_true, Bool.and_false, Bool.true_and, Bool.false_and, Bool.or_true, Bool.or_false, Bool.true_or, Bool.false_or, Bool.false_eq_true, ne_eq, Bool.not_true, Bool.not_false, decide_not]
    · rw [k_say_pp h1, ← j3, e_X4_makesPop_42_3_27_7]
      by_cases hz : z_fst (fun i => decide ((r_at (R_ls r) i).1 = 3) && decide ((r_at (R_ls r) i).2.2.2 (z_fcC J) ≠ 0)) (R_ls r).length < (R_ls r).length
      · rw [if_pos hz, z_fst_any.mpr hz]; rfl
      · rw [if_neg hz]
        have hz2 : z_any (fun i => decide ((r_at (R_ls r) i).1 = 3) && decide ((r_at (R_ls r) i).2.2.2 (z_fcC J) ≠ 0)) (R_ls r).length = false := by
          cases hq : z_any (fun i => decide ((r_at (R_ls r) i).1 = 3) && decide ((r_at (R_ls r) i).2.2.2 (z_fcC J) ≠ 0)) (R_ls r).length
          · rfl
          · exact absurd (z_fst_any.mp hq) hz
        rw [hz2]
        simp (disch := omega) only [l0, l1, q_bd_l, z_ltT, z_ltF, z_eqT, z_eqF, z_ltlT, z_ltlF, z_lltT, z_lltF, z_eqlT, z_eqlF, z_in, z_k7, z_cl, z_lneg, z_llT, z_llF, z_s1, z_nI_cl, z_nlt0, z_ne_m1, z_b0, z_b1, z_la, z_al, z_lm, z_ml, z_nm, nI_add, pk_mul, ↓reduceIte, not_true_eq_false, not_false_eq_true, true_or, or_true, false_or, or_false, true_and, and_true, and_false, false_and, Classical.not_not, Nat.add_zero, z_01, z_em, z_bit_p, Nat.not_le, Nat.not_lt, reduceCtorEq, if_true, if_false]
        rfl
/-- the cells of law, shelf and moment 32 -/
def k_H32 (I : Ii) (r : Nat → Int32) (n m : Nat) : Prop := R_ok r n m ∧ z_Sh I 3 r n m ∧ z_Mo I 32 r n ∧ z_La I 42 r
theorem k_look32 (X : Sx) (d : Nat) (I : Ii) (T : Tt) (r : Nat → Int32) (n m j : Nat) (h : k_H32 I r n m) (hj : j < n) : ∃ J, c_X4_lookAt_42_3_32 X (d + 2) (nI j) I T = z_v J T ∧ z_fr m_la I J ∧ z_fcC J = r_fc r j 0 0 := by
  obtain ⟨h1, h2, h3, h4⟩ := h
  have hn := h1.2.1
  obtain ⟨a1, a2, a3, a4, a5, a6, a7, a8, a9, a10, a11, a12, a13⟩ := h2
  obtain ⟨b1, b2, b3, b4, b5, b6, b7, b8, o, b9, b10, b11⟩ := h3
  have c7 : I 4 j = r (12 + 13 * j) := a7 j hj
  have c1 : I 33 j = r (12 + 13 * j + 1) := b5 j hj
  have c2 : I 34 j = r (12 + 13 * j + 2) := b6 j hj
  have c3 : I 35 j = r (12 + 13 * j + 3) := b7 j hj
  have o2 : o < 2 ^ 31 := Nat.lt_trans b9 (Nat.pow_lt_pow_right (by decide) (by omega))
  have hb : z_bit (I 32 4) j = o.testBit j := by rw [b10]; exact z_bit_nI o j o2 (by omega)
  have hob := b11 j hj
  refine ⟨q_w (q_w (q_w (q_w (q_w (q_w (q_w (q_w (q_w I 47 0 (nI j)) 47 1 0) 47 2 0) 47 3 (r (12 + 13 * j + 3))) 47 4 (r (12 + 13 * j + 2))) 47 5 (r (12 + 13 * j + 1))) 47 6 (r 8)) 42 7 (r (12 + 13 * j))) 42 8 (z_b (o.testBit j = true)), ?_, ?_, ?_⟩
  · rw [e_X4_lookAt_42_3_32]
    have e9 := e_X7_isOpen_32
    unfold z_b
    cases hc : o.testBit j <;> (rw [hc] at hb; simp (disch := omega) only [e_X4_lookAt_42_3_32_55, k_X4_lookAt_42_3_32_55, e_X7_isOpen_32, c7, c1, c2, c3, b1, hb, z_w_a, z_bit_p, q_bd_l, z_ltT, z_ltF, z_eqT, z_eqF, z_ltlT, z_ltlF, z_lltT, z_lltF, z_eqlT, z_eqlF, z_in, z_k7, z_cl, z_lneg, z_llT, z_llF, z_s1, z_nI_cl, z_nlt0, z_ne_m1, z_b0, z_b1, z_la, z_al, z_lm, z_ml, z_nm, nI_add, pk_mul, ↓reduceIte, not_true_eq_false, not_false_eq_true, true_or, or_true, false_or, or_false, true_and, and_true, and_false, false_and, Classical.not_not, Nat.add_zero, z_01, z_em, z_bit_p, Nat.not_le, Nat.not_lt, reduceCtorEq, if_true, if_false, decide_true, decide_false, Bool.and_true, Bool.and_false, Bool.true_and, Bool.false_and, Bool.or_true, Bool.or_false, Bool.true_or, Bool.false_or, Bool.false_eq_true, ne_eq, Bool.not_true, Bool.not_false, decide_not])
  · repeat (refine z_fr_w ?_ _ _ _ rfl)
    exact z_fr_r _ _
  · unfold z_fcC r_fc
    refine Prod.ext ?_ (Prod.ext ?_ ?_)
    · funext k
      dsimp only
      by_cases hk : k < 7
      · rw [if_pos hk, if_pos hk]
        rcases (by omega : k = 0 ∨ k = 1 ∨ k = 2 ∨ k = 3 ∨ k = 4 ∨ k = 5 ∨ k = 6) with rfl | rfl | rfl | rfl | rfl | rfl | rfl <;> simp [z_w]
      · rw [if_neg hk, if_neg hk]
    · simp [z_w]
    · dsimp only
      rw [z_w_s]
      simp only [hob, z_b1]
theorem k_H32_fr {I J : Ii} {r : Nat → Int32} {n m : Nat} (h : k_H32 I r n m) (hf : z_fr m_la I J) : k_H32 J r n m := by
  obtain ⟨h1, h2, h3, h4⟩ := h
  refine ⟨h1, ?_, ?_, ?_⟩
  · unfold z_Sh at h2 ⊢
    rw [z_fr_row hf 3 (fun _ => rfl), z_fr_row hf (3 + 1) (fun _ => rfl), z_fr_row hf (3 + 2) (fun _ => rfl), z_fr_row hf (3 + 3) (fun _ => rfl), z_fr_row hf (3 + 4) (fun _ => rfl), z_fr_row hf (3 + 5) (fun _ => rfl), z_fr_row hf (3 + 6) (fun _ => rfl), z_fr_row hf (3 + 7) (fun _ => rfl)]
    exact h2
  · unfold z_Mo at h3 ⊢
    rw [z_fr_row hf 32 (fun _ => rfl), z_fr_row hf (32 + 1) (fun _ => rfl), z_fr_row hf (32 + 2) (fun _ => rfl), z_fr_row hf (32 + 3) (fun _ => rfl), z_fr_row hf (32 + 4) (fun _ => rfl)]
    exact h3
  · exact k_La_fr h4 hf
theorem k_adv32 (X : Sx) (d : Nat) (I : Ii) (T : Tt) (r : Nat → Int32) (n m j t : Nat) (h : k_H32 I r n m) (hj : j < n) (ht : t < 6) : ∃ J, c_X4_adviceOf_42_3_32 X (d + 4) (nI j) (nI t) I T = z_r (R_adv r j t) J T ∧ z_fr m_la I J := by
  have hn := h.1.2.1
  obtain ⟨J, j1, j2, j3⟩ := k_look32 X (d + 1) I T r n m j h hj
  have hv : I 6 (j * 6 + t) = r (12 + 13 * j + (7 + t)) := h.2.1.2.2.2.2.2.2.2.2.1 j t hj ht
  have vo : c_X9_viewOf_3 X (d + 3) (nI j) (nI t) I T = z_r (r (12 + 13 * j + (7 + t))) I T := by
    rw [e_X9_viewOf_3]
    simp (disch := omega) only [hv, q_bd_l, z_ltT, z_ltF, z_eqT, z_eqF, z_ltlT, z_ltlF, z_lltT, z_lltF, z_eqlT, z_eqlF, z_in, z_k7, z_cl, z_lneg, z_llT, z_llF, z_s1, z_nI_cl, z_nlt0, z_ne_m1, z_b0, z_b1, z_la, z_al, z_lm, z_ml, z_nm, nI_add, pk_mul, ↓reduceIte, not_true_eq_false, not_false_eq_true, true_or, or_true, false_or, or_false, true_and, and_true, and_false, false_and, Classical.not_not, Nat.add_zero, z_01, z_em, z_bit_p, Nat.not_le, Nat.not_lt, reduceCtorEq, if_true, if_false]
  have f2 : z_fr m_la I (q_w (q_w J 47 1 (nI t)) 47 2 (r (12 + 13 * j + (7 + t)))) := z_fr_w (z_fr_w j2 47 1 _ rfl) 47 2 _ rfl
  have ef : z_fcC (q_w (q_w J 47 1 (nI t)) 47 2 (r (12 + 13 * j + (7 + t)))) = r_fc r j (nI t) (r (12 + 13 * j + (7 + t))) := k_fc12 j3 _ _
  have hL := k_La_fr h.2.2.2 f2
  generalize hK : q_w (q_w J 47 1 (nI t)) 47 2 (r (12 + 13 * j + (7 + t))) = K at *
  have s0 := k_sumOf X d K T r hL 0 (by rw [ef]; exact z_b_01 _)
  have s1 := k_sumOf X d K T r hL 1 (by rw [ef]; exact z_b_01 _)
  rw [ef] at s0 s1
  refine ⟨K, ?_, f2⟩
  rw [e_X4_adviceOf_42_3_32, vo]
  have s0' : c_X4_sumOf_42 X (d + 3) 0 K T = z_r (r_sk (r_fc r j (nI t) (r (12 + 13 * j + (7 + t)))) r 0) K T := s0
  have s1' : c_X4_sumOf_42 X (d + 3) 1 K T = z_r (r_sk (r_fc r j (nI t) (r (12 + 13 * j + (7 + t)))) r 1) K T := s1
  simp (disch := omega) only [e_X4_adviceOf_42_3_32_4, k_X4_adviceOf_42_3_32_4, e_X4_adviceOf_42_3_32_10, k_X4_adviceOf_42_3_32_10, e_X4_adviceOf_42_3_32_24, k_X4_adviceOf_42_3_32_24, e_X4_adviceOf_42_3_32_28, k_X4_adviceOf_42_3_32_28, j1, hK, s0', s1', q_bd_l, z_ltT, z_ltF, z_eqT, z_eqF, z_ltlT, z_ltlF, z_lltT, z_lltF, z_eqlT, z_eqlF, z_in, z_k7, z_cl, z_lneg, z_llT, z_llF, z_s1, z_nI_cl, z_nlt0, z_ne_m1, z_b0, z_b1, z_la, z_al, z_lm, z_ml, z_nm, nI_add, pk_mul, ↓reduceIte, not_true_eq_false, not_false_eq_true, true_or, or_true, false_or, or_false, true_and, and_true, and_false, false_and, Classical.not_not, Nat.add_zero, z_01, z_em, z_bit_p, Nat.not_le, Nat.not_lt, reduceCtorEq, if_true, if_false]
  rw [z_clamp_c, k_say_adv h.2.2.2.1]
  rfl
theorem k_sb32 (X : Sx) (d : Nat) (I : Ii) (T : Tt) (r : Nat → Int32) (n m j : Nat) (h : k_H32 I r n m) (hj : j < n) : ∃ J, c_X4_soursBy_42_3_32 X (d + 4) (nI j) I T = z_r (R_say r j 0 0).2.1 J T ∧ z_fr m_la I J := by
  have hn := h.1.2.1
  have c7 : I 4 j = r (12 + 13 * j) := h.2.1.2.2.2.2.2.2.1 j hj
  have l0 : I 42 0 = r 1 := h.2.2.2.2.1
  rw [e_X4_soursBy_42_3_32]
  by_cases h1 : r 1 = -1
  · refine ⟨I, ?_, z_fr_r _ _⟩
    unfold R_say z_b
    rw [if_pos h1]
    by_cases hl : r (12 + 13 * j) = 0 <;> simp (disch := omega) only [l0, h1, c7, hl, q_bd_l, z_ltT, z_ltF, z_eqT, z_eqF, z_ltlT, z_ltlF, z_lltT, z_lltF, z_eqlT, z_eqlF, z_in, z_k7, z_cl, z_lneg, z_llT, z_llF, z_s1, z_nI_cl, z_nlt0, z_ne_m1, z_b0, z_b1, z_la, z_al, z_lm, z_ml, z_nm, nI_add, pk_mul, ↓reduceIte, not_true_eq_false, not_false_eq_true, true_or, or_true, false_or, or_false, true_and, and_true, and_false, false_and, Classical.not_not, Nat.add_zero, z_01, z_em, z_bit_p, Nat.not_le, Nat.not_lt, reduceCtorEq, if_true, if_false]
  · obtain ⟨J, j1, j2, j3⟩ := k_look32 X (d + 1) I T r n m j h hj
    have s2 : c_X4_sumOf_42 X (d + 3) 2 J T = z_r (r_sk (z_fcC J) r 2) J T := k_sumOf X d J T r (k_La_fr h.2.2.2 j2) 2 (by rw [j3]; exact z_b_01 _)
    refine ⟨J, ?_, j2⟩
    simp (disch := omega) only [e_X4_soursBy_42_3_32_18, k_X4_soursBy_42_3_32_18, e_X4_soursBy_42_3_32_21, k_X4_soursBy_42_3_32_21, l0, h1, j1, s2, q_bd_l, z_ltT, z_ltF, z_eqT, z_eqF, z_ltlT, z_ltlF, z_lltT, z_lltF, z_eqlT, z_eqlF, z_in, z_k7, z_cl, z_lneg, z_llT, z_llF, z_s1, z_nI_cl, z_nlt0, z_ne_m1, z_b0, z_b1, z_la, z_al, z_lm, z_ml, z_nm, nI_add, pk_mul, ↓reduceIte, not_true_eq_false, not_false_eq_true, true_or, or_true, false_or, or_false, true_and, and_true, and_false, false_and, Classical.not_not, Nat.add_zero, z_01, z_em, z_bit_p, Nat.not_le, Nat.not_lt, reduceCtorEq, if_true, if_false]
    rw [j3, k_say_sb h1]
theorem k_pp32 (X : Sx) (d : Nat) (I : Ii) (T : Tt) (r : Nat → Int32) (n m j : Nat) (h : k_H32 I r n m) (hj : j < n) : ∃ J, c_X4_makesPop_42_3_32 X (d + 3) (nI j) I T = z_r (R_say r j 0 0).2.2 J T ∧ z_fr m_la I J := by
  have hn := h.1.2.1
  obtain ⟨J, j1, j2, j3⟩ := k_look32 X d I T r n m j h hj
  have hL := k_La_fr h.2.2.2 j2
  have l0 : J 42 0 = r 1 := hL.2.1
  refine ⟨J, ?_, j2⟩
  rw [e_X4_makesPop_42_3_32]
  simp (disch := omega) only [e_X4_makesPop_42_3_32_5, k_X4_makesPop_42_3_32_5, j1, q_bd_l, z_ltT, z_ltF, z_eqT, z_eqF, z_ltlT, z_ltlF, z_lltT, z_lltF, z_eqlT, z_eqlF, z_in, z_k7, z_cl, z_lneg, z_llT, z_llF, z_s1, z_nI_cl, z_nlt0, z_ne_m1, z_b0, z_b1, z_la, z_al, z_lm, z_ml, z_nm, nI_add, pk_mul, ↓reduceIte, not_true_eq_false, not_false_eq_true, true_or, or_true, false_or, or_false, true_and, and_true, and_false, false_and, Classical.not_not, Nat.add_zero, z_01, z_em, z_bit_p, Nat.not_le, Nat.not_lt, reduceCtorEq, if_true, if_false]
  by_cases h1 : r 1 = -1
  · rw [e_X4_makesPop_42_3_32_7]
    have : R_say r j 0 0 = (0, z_b (r (12 + 13 * j) = 0), 0) := by unfold R_say; rw [if_pos h1]
    simp (disch := omega) only [l0, h1, this, z_0m1, q_bd_l, z_ltT, z_ltF, z_eqT, z_eqF, z_ltlT, z_ltlF, z_lltT, z_lltF, z_eqlT, z_eqlF, z_in, z_k7, z_cl, z_lneg, z_llT, z_llF, z_s1, z_nI_cl, z_nlt0, z_ne_m1, z_b0, z_b1, z_la, z_al, z_lm, z_ml, z_nm, nI_add, pk_mul, ↓reduceIte, not_true_eq_false, not_false_eq_true, true_or, or_true, false_or, or_false, true_and, and_true, and_false, false_and, Classical.not_not, Nat.add_zero, z_01, z_em, z_bit_p, Nat.not_le, Nat.not_lt, reduceCtorEq, if_true, if_false]
  · have hlen := (R_ls_w r).2
    have l1 := R_lo_n hL.1 h1
    refine (z_find (fun i => c_X4_makesPop_42_3_32_7 X (d + 2) (nI j) (nI i) J T) (fun i => z_r 1 J T) (fun i => decide ((r_at (R_ls r) i).1 = 3) && decide ((r_at (R_ls r) i).2.2.2 (z_fcC J) ≠ 0)) (R_ls r).length (fun i hi => ?_)).trans ?_
    · have hi2 := (hL.2.2 h1).2 i hi
      have k3 : J 43 i = nI (r_at (R_ls r) i).1 := hi2.1
      have w3 := ((R_ls_w r).1 _ (k_at_mem hi)).1
      have hh := k_holds X (d + 1) J T r hL h1 i hi (by rw [j3]; exact z_b_01 _)
      rw [e_X4_makesPop_42_3_32_7]
      by_cases e3 : (r_at (R_ls r) i).1 = 3
      · by_cases ev : (r_at (R_ls r) i).2.2.2 (z_fcC J) = 0 <;> simp (disch := omega) only [e_X4_makesPop_42_3_32_5, k_X4_makesPop_42_3_32_5, e_X4_makesPop_42_3_32_20, k_X4_makesPop_42_3_32_20, e_X4_makesPop_42_3_32_23, l0, l1, k3, e3, hh, ev, q_bd_l, z_ltT, z_ltF, z_eqT, z_eqF, z_ltlT, z_ltlF, z_lltT, z_lltF, z_eqlT, z_eqlF, z_in, z_k7, z_cl, z_lneg, z_llT, z_llF, z_s1, z_nI_cl, z_nlt0, z_ne_m1, z_b0, z_b1, z_la, z_al, z_lm, z_ml, z_nm, nI_add, pk_mul, ↓reduceIte, not_true_eq_false, not_false_eq_true, true_or, or_true, false_or, or_false, true_and, and_true, and_false, false_and, Classical.not_not, Nat.add_zero, z_01, z_em, z_bit_p, Nat.not_le, Nat.not_lt, reduceCtorEq, if_true, if_false, decide_true, decide_false, Bool.and_true, Bool.and_false, Bool.true_and, Bool.false_and, Bool.or_true, Bool.or_false, Bool.true_or, Bool.false_or, Bool.false_eq_true, ne_eq, Bool.not_true, Bool.not_false, decide_not]
      · simp (disch := omega) only [e_X4_makesPop_42_3_32_5, k_X4_makesPop_42_3_32_5, e_X4_makesPop_42_3_32_20, k_X4_makesPop_42_3_32_20, e_X4_makesPop_42_3_32_23, l0, l1, k3, e3, q_bd_l, z_ltT, z_ltF, z_eqT, z_eqF, z_ltlT, z_ltlF, z_lltT, z_lltF, z_eqlT, z_eqlF, z_in, z_k7, z_cl, z_lneg, z_llT, z_llF, z_s1, z_nI_cl, z_nlt0, z_ne_m1, z_b0, z_b1, z_la, z_al, z_lm, z_ml, z_nm, nI_add, pk_mul, ↓reduceIte, not_true_eq_false, not_false_eq_true, true_or, or_true, false_or, or_false, true_and, and_true, and_false, false_and, Classical.not_not, Nat.add_zero, z_01, z_em, z_bit_p, Nat.not_le, Nat.not_lt, reduceCtorEq, if_true, if_false, decide_true, decide_false, Bool.and_true, Bool.and_false, Bool.true_and, Bool.false_and, Bool.or_true, Bool.or_false, Bool.true_or, Bool.false_or, Bool.false_eq_true, ne_eq, Bool.not_true, Bool.not_false, decide_not]
    · rw [k_say_pp h1, ← j3, e_X4_makesPop_42_3_32_7]
      by_cases hz : z_fst (fun i => decide ((r_at (R_ls r) i).1 = 3) && decide ((r_at (R_ls r) i).2.2.2 (z_fcC J) ≠ 0)) (R_ls r).length < (R_ls r).length
      · rw [if_pos hz, z_fst_any.mpr hz]; rfl
      · rw [if_neg hz]
        have hz2 : z_any (fun i => decide ((r_at (R_ls r) i).1 = 3) && decide ((r_at (R_ls r) i).2.2.2 (z_fcC J) ≠ 0)) (R_ls r).length = false := by
          cases hq : z_any (fun i => decide ((r_at (R_ls r) i).1 = 3) && decide ((r_at (R_ls r) i).2.2.2 (z_fcC J) ≠ 0)) (R_ls r).length
          · rfl
          · exact absurd (z_fst_any.mp hq) hz
        rw [hz2]
        simp (disch := omega) only [l0, l1, q_bd_l, z_ltT, z_ltF, z_eqT, z_eqF, z_ltlT, z_ltlF, z_lltT, z_lltF, z_eqlT, z_eqlF, z_in, z_k7, z_cl, z_lneg, z_llT, z_llF, z_s1, z_nI_cl, z_nlt0, z_ne_m1, z_b0, z_b1, z_la, z_al, z_lm, z_ml, z_nm, nI_add, pk_mul, ↓reduceIte, not_true_eq_false, not_false_eq_true, true_or, or_true, false_or, or_false, true_and, and_true, and_false, false_and, Classical.not_not, Nat.add_zero, z_01, z_em, z_bit_p, Nat.not_le, Nat.not_lt, reduceCtorEq, if_true, if_false]
        rfl
