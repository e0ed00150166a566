/-! ===== THE MACHINE: runs that can be counted out ===== -/
def q_rl2 (a b : Rs) : Prop := ∀ r, a = some r → b = some r
theorem st_call {X : Sx} {sb : List (List Int32)} {cd : List En} {c1 c2 : Nat → List Value → Hp → Rs} {k1 k2 : Nat → Lc → List Value → Hp → Rs} (hc : ∀ m args h r, c1 m args h = some r → c2 m args h = some r) (hk : ∀ i ls st h, q_rl2 (k1 i ls st h) (k2 i ls st h)) (i : Nat) (ls : Lc) (st : List Value) (h : Hp) : q_rl2 (q_st X sb cd c1 k1 i ls st h) (q_st X sb cd c2 k2 i ls st h) := by
  unfold q_st
  cases cd[i]? with
  | none => exact fun r h => h
  | some en =>
    dsimp only
    repeat' split
    all_goals first
      | exact fun r h => h
      | exact hk _ _ _ _
      | (simp only [cond_eq_if]; repeat' split)
    all_goals first
      | exact fun r h => h
      | exact hk _ _ _ _
      | (intro r hh; cases hh; done)
      | (rw [hc _ _ _ _ (by assumption)]; exact hk _ _ _ _)
      | (rw [hc _ _ _ _ (by assumption)]; exact fun r h => h)
      | (rw [hc _ _ _ _ (by assumption)]; simp only [*]; exact fun r h => h)
      | (have q0 := (show c2 _ _ _ = _ by assumption)
         have q := hc _ _ _ _ (show c1 _ _ _ = some _ by assumption)
         have q2 := q0.symm.trans q
         cases q2 <;> first | exact hk _ _ _ _ | exact fun r h => h | contradiction | (exfalso; simp_all; done))
theorem ex_call {X : Sx} {sb : List (List Int32)} {cd : List En} {c1 c2 : Nat → List Value → Hp → Rs} (hc : ∀ m args h r, c1 m args h = some r → c2 m args h = some r) : ∀ n i ls st h, q_rl2 (q_ex X sb cd c1 n i ls st h) (q_ex X sb cd c2 n i ls st h) := by
  intro n
  induction n with
  | zero => intro i ls st h r e; cases e
  | succ n ih => intro i ls st h; exact st_call hc ih i ls st h
/-- calls with so much fuel -/
def q_cc (X : Sx) (sb : List (List Int32)) (pg : List (Nat × List En)) (f : Nat) : Nat → Nat → List Value → Hp → Rs
  | 0 => fun _ _ _ => none
  | d + 1 => fun mi args h => match pg[mi]? with
    | none => none
    | some m => q_ex X sb m.2 (q_cc X sb pg f d) f 0 (q_en m.1 args) [] h
theorem cc_ok (X : Sx) (sb : List (List Int32)) (pg : List (Nat × List En)) (f : Nat) : ∀ d mi args h r, q_cc X sb pg f d mi args h = some r → q_call X sb pg d mi args h = some r := by
  intro d
  induction d with
  | zero => intro mi args h r e; cases e
  | succ d ih =>
    intro mi args h r e
    have e' : (match pg[mi]? with | none => none | some m => q_ex X sb m.2 (q_cc X sb pg f d) f 0 (q_en m.1 args) [] h) = some r := e
    show (match pg[mi]? with | none => none | some m => q_lim (fun n => q_ex X sb m.2 (q_call X sb pg d) n 0 (q_en m.1 args) [] h)) = some r
    cases hm : pg[mi]? with
    | none => rw [hm] at e'; cases e'
    | some m =>
      rw [hm] at e'
      exact q_lim_of (f := fun n => q_ex X sb m.2 (q_call X sb pg d) n 0 (q_en m.1 args) [] h) (fun n r => q_ex_up X sb m.2 (q_call X sb pg d) n 0 _ [] h r) (ex_call ih f _ _ _ _ _ e')
