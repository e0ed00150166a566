/-! ===== THE MACHINE: runs that do not look at the script; cells beyond their lengths ===== -/
def p_nx (cd : List En) : Bool := cd.all (fun e => !(e.1 == 27) && !(e.1 == 28))
theorem st_callX {X1 X2 : Sx} {sb : List (List Int32)} {cd : List En} {c1 c2 : Nat → List Value → Hp → Rs} {k1 k2 : Nat → Lc → List Value → Hp → Rs} (hn : p_nx cd = true) (hc : ∀ m args h r, c1 m args h = some r → c2 m args h = some r) (hk : ∀ i ls st h, q_rl2 (k1 i ls st h) (k2 i ls st h)) (i : Nat) (ls : Lc) (st : List Value) (h : Hp) : q_rl2 (q_st X1 sb cd c1 k1 i ls st h) (q_st X2 sb cd c2 k2 i ls st h) := by
  have e : q_st X1 sb cd c1 k1 i ls st h = q_st X2 sb cd c1 k1 i ls st h := by
    unfold q_st
    cases hi : cd[i]? with
    | none => rfl
    | some en =>
      have hm := List.all_eq_true.mp hn en (List.mem_of_getElem? hi)
      have h27 : en.1 ≠ 27 := fun c => by rw [c] at hm; cases hm
      have h28 : en.1 ≠ 28 := fun c => by rw [c] at hm; cases hm
      dsimp only
      split
      all_goals first
        | rfl
        | exact absurd (by assumption) h27
        | exact absurd (by assumption) h28
  rw [e]
  exact st_call hc hk i ls st h
theorem ex_callX {X1 X2 : Sx} {sb : List (List Int32)} {cd : List En} {c1 c2 : Nat → List Value → Hp → Rs} (hn : p_nx cd = true) (hc : ∀ m args h r, c1 m args h = some r → c2 m args h = some r) : ∀ n i ls st h, q_rl2 (q_ex X1 sb cd c1 n i ls st h) (q_ex X2 sb cd c2 n i ls st h) := by
  intro n
  induction n with
  | zero => intro i ls st h r e; cases e
  | succ n ih => intro i ls st h; exact st_callX hn hc ih i ls st h
def q_pgI : List (Nat × List En) := q_pg0 ++ (q_pg1 ++ (q_pg2 ++ (q_pg3 ++ q_pg4)))
theorem q_pgI_n : q_pgI.all (fun m => p_nx m.2) = true := by decide +kernel
theorem q_pgI_e : q_pg = q_pgI ++ q_pg5 := by
  unfold q_pg q_pgI
  simp only [List.append_assoc]
theorem cc_okX (X1 X : Sx) (f : Nat) : ∀ d mi args h r, q_cc X1 q_sb q_pgI f d mi args h = some r → q_call X q_sb q_pg d mi args h = some r := by
  intro d
  induction d with
  | zero => intro mi args h r e; cases e
  | succ d ih =>
    intro mi args h r e
    have e' : (match q_pgI[mi]? with | none => none | some m => q_ex X1 q_sb m.2 (q_cc X1 q_sb q_pgI f d) f 0 (q_en m.1 args) [] h) = some r := e
    show (match q_pg[mi]? with | none => none | some m => q_lim (fun n => q_ex X q_sb m.2 (q_call X q_sb q_pg d) n 0 (q_en m.1 args) [] h)) = some r
    cases hm : q_pgI[mi]? with
    | none => rw [hm] at e'; cases e'
    | some m =>
      rw [hm] at e'
      have hm2 : q_pg[mi]? = some m := by
        rw [q_pgI_e, List.getElem?_append_left (List.getElem?_eq_some_iff.mp hm).1]
        exact hm
      rw [hm2]
      exact q_lim_of (f := fun n => q_ex X q_sb m.2 (q_call X q_sb q_pg d) n 0 (q_en m.1 args) [] h) (fun n r => q_ex_up X q_sb m.2 (q_call X q_sb q_pg d) n 0 _ [] h r) (ex_callX (List.all_eq_true.mp q_pgI_n m (List.mem_of_getElem? hm)) ih f _ _ _ _ _ e')
/-- behind the class's constructor -/
def q_i1 : Rs := q_cc (0, fun _ => 0) q_sb q_pgI 400 8 144 [.ref 0] (q_mk q_h0 (11, 20, List.replicate 20 none))
def q_h1 : Hp := (q_i1.getD (.inl none, q_h0)).2
def q_Z1 : List Zc := q_Z0.take 139
theorem q_i1_a : (match q_i1 with | some (.inl none, h) => h.1 == q_Z1 && h.2.2.2.1 == 139 | _ => false) = true := by decide +kernel
def q_i2 : Rs := q_cc (0, fun _ => 0) q_sb q_pgI 400 8 199 [.ref 139] (q_mk q_h1 (12, 25, List.replicate 25 none))
def q_h2 : Hp := (q_i2.getD (.inl none, q_h0)).2
theorem q_i2_a : (match q_i2 with | some (.inl none, h) => h.1 ++ [(102, 1, [])] == q_Z0 && h.2.2.2.1 == 150 && Nat.ble h.2.2.2.2 100000 | _ => false) = true := by decide +kernel
