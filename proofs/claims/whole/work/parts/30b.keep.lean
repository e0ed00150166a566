/-! ===== THE MACHINE: a truth stays one ===== -/
theorem p_M : q_tag q_Z0 139 = 12 := by decide +kernel
def p_P (h : Hp) : Prop := q_tag h.1 139 = 12 ∧ 139 < h.1.length ∧ z_01b (h.2.1 139 17)
def p_cd (cd : List En) : Bool := cd.all (fun e => !(e.1 == 17 && e.2.1.getD 0 0 == 12 && e.2.1.getD 1 0 == 17))
def p_R (r : Rs) : Prop := ∀ o h', r = some (o, h') → p_P h'
theorem p_up {I : Ii} {a k b j : Nat} {v : Int32} : va_up I a (va_up (I a) k v) b j = if b = a ∧ j = k then v else I b j := by
  unfold va_up
  by_cases h : b = a
  · subst h
    by_cases h2 : j = k <;> simp [h2]
  · simp [h]
theorem p_ui {h : Hp} {a k : Nat} {v : Int32} (hP : p_P h) (hc : ¬ (a = 139 ∧ k = 17) ∨ z_01b v) : p_P (q_ui h a k v) := by
  refine ⟨hP.1, hP.2.1, ?_⟩
  show z_01b (va_up h.2.1 a (va_up (h.2.1 a) k v) 139 17)
  rw [p_up]
  by_cases e : 139 = a ∧ 17 = k
  · rw [if_pos e]
    rcases hc with hc | hc
    · exact absurd ⟨e.1.symm, e.2.symm⟩ hc
    · exact hc
  · rw [if_neg e]; exact hP.2.2
theorem p_tag {h : Hp} {a t : Nat} (hP : p_P h) (ht : q_tag h.1 a = t) (h12 : t ≠ 12) : a ≠ 139 := by
  intro e
  subst e
  exact h12 (ht.symm.trans hP.1)
theorem p_cp {h : Hp} {a sp b dp n : Nat} (hP : p_P h) (hb : b ≠ 139) : p_P (q_cp h a sp b dp n) := by
  refine ⟨hP.1, hP.2.1, ?_⟩
  show z_01b (va_up h.2.1 b (va_cpy (h.2.1 a) (h.2.1 b) sp dp n) 139 17)
  have : va_up h.2.1 b (va_cpy (h.2.1 a) (h.2.1 b) sp dp n) 139 = h.2.1 139 := by
    unfold va_up
    rw [if_neg (Ne.symm hb)]
  rw [this]; exact hP.2.2
theorem p_mk {h : Hp} {c : Zc} (hP : p_P h) : p_P (q_mk h c) := by
  have hl := hP.2.1
  refine ⟨?_, ?_, ?_⟩
  · show q_tag (h.1 ++ [c]) 139 = 12
    have := hP.1
    unfold q_tag at this ⊢
    rw [List.getElem?_append_left hl]; exact this
  · show 139 < (h.1 ++ [c]).length
    rw [List.length_append]; omega
  · show z_01b (va_up h.2.1 h.1.length (fun _ => 0) 139 17)
    have : va_up h.2.1 h.1.length (fun _ => 0) 139 = h.2.1 139 := by
      unfold va_up
      rw [if_neg (by omega)]
    rw [this]; exact hP.2.2
theorem p_uz {h : Hp} {a k : Nat} {v : Option Nat} (hP : p_P h) : p_P (q_uz h a k v) := by
  have key : q_tag (q_zs h.1 a k v) 139 = q_tag h.1 139 ∧ (q_zs h.1 a k v).length = h.1.length := by
    unfold q_zs
    cases hc : h.1[a]? with
    | none => exact ⟨rfl, rfl⟩
    | some c =>
      refine ⟨?_, List.length_set⟩
      unfold q_tag
      by_cases e : a = 139
      · subst e
        rw [List.getElem?_set_self (by have := hP.2.1; omega), hc]
      · rw [List.getElem?_set_ne e]
  exact ⟨key.1.trans hP.1, by show 139 < (q_zs h.1 a k v).length; rw [key.2]; exact hP.2.1, hP.2.2⟩
theorem p_17 {en : En} {h : Hp} {a : Nat} {x : Int32} {c : Bool} (hen : ¬ (en.1 = 17 ∧ en.2.1.getD 0 0 = 12 ∧ en.2.1.getD 1 0 = 17)) (hP : p_P h) (ho : en.1 = 17) (hb : (q_tag h.1 a == en.2.1.getD 0 0 && c) = true) : p_P (q_ui h a (en.2.1.getD 1 0) x) := by
  refine p_ui hP (.inl (fun e => hen ⟨ho, ?_, e.2⟩))
  simp only [Bool.and_eq_true, beq_iff_eq] at hb
  rw [← hb.1, e.1]; exact hP.1
theorem p_a1 {h : Hp} {a t k : Nat} {x : Int32} (hP : p_P h) (hb : (q_tag h.1 a == t) = true) (ht : t ≠ 12) : p_P (q_ui h a k x) := p_ui hP (.inl (fun e => p_tag hP (by simpa using hb) ht e.1))
theorem p_a4 {h : Hp} {a b sp dp n : Nat} {c : Bool} (hP : p_P h) (hb : (q_tag h.1 a == 100 && q_tag h.1 b == 100 && c) = true) : p_P (q_cp h a sp b dp n) := by
  simp only [Bool.and_eq_true, beq_iff_eq] at hb
  exact p_cp hP (p_tag hP hb.1.2 (by decide))
theorem p_st {X : Sx} {sb : List (List Int32)} {cd : List En} {call : Nat → List Value → Hp → Rs} {k : Nat → Lc → List Value → Hp → Rs} (hcd : p_cd cd = true) (hcall : ∀ m args h, p_P h → p_R (call m args h)) (hk : ∀ i ls st h, p_P h → p_R (k i ls st h)) (i : Nat) (ls : Lc) (st : List Value) (h : Hp) (hP : p_P h) : p_R (q_st X sb cd call k i ls st h) := by
  intro o h' e
  unfold q_st at e
  cases hi : cd[i]? with
  | none => rw [hi] at e; cases e
  | some en =>
    rw [hi] at e
    have hen : ¬ (en.1 = 17 ∧ en.2.1.getD 0 0 = 12 ∧ en.2.1.getD 1 0 = 17) := by
      have hm : en ∈ cd := List.mem_of_getElem? hi
      have := List.all_eq_true.mp hcd en hm
      intro ⟨c1, c2, c3⟩
      rw [c1, c2, c3] at this
      cases this
    dsimp only at e
    simp only [cond_eq_if] at e
    repeat' split at e
    all_goals first
      | (cases e; done)
      | exact hk _ _ _ _ hP _ _ e
      | (cases e; exact hP)
      | exact hk _ _ _ _ (hcall _ _ _ hP _ _ (by assumption)) _ _ e
      | (cases e; exact hcall _ _ _ hP _ _ (by assumption))
      | exact hk _ _ _ _ (p_17 hen hP (by assumption) (by assumption)) _ _ e
      | exact hk _ _ _ _ (p_ui hP (.inr (by assumption))) _ _ e
      | exact hk _ _ _ _ (p_uz hP) _ _ e
      | exact hk _ _ _ _ (p_mk hP) _ _ e
      | exact hk _ _ _ _ (p_a1 (t := 100) hP (by assumption) (by decide)) _ _ e
      | exact hk _ _ _ _ (p_a1 (t := 101) hP (by assumption) (by decide)) _ _ e
      | exact hk _ _ _ _ (p_a4 hP (by assumption)) _ _ e
      | exact hk _ _ _ _ (show p_P (q_ul _ _ _ _) from hP) _ _ e
theorem p_pg : q_pg.all (fun m => p_cd m.2) = true := by decide +kernel
theorem p_ex {X : Sx} {sb : List (List Int32)} {cd : List En} {call : Nat → List Value → Hp → Rs} (hcd : p_cd cd = true) (hcall : ∀ m args h, p_P h → p_R (call m args h)) : ∀ n i ls st h, p_P h → p_R (q_ex X sb cd call n i ls st h) := by
  intro n
  induction n with
  | zero => intro i ls st h _ o h' e; cases e
  | succ n ih => intro i ls st h hP; exact p_st hcd hcall ih i ls st h hP
theorem p_call (X : Sx) (sb : List (List Int32)) : ∀ d m args h, p_P h → p_R (q_call X sb q_pg d m args h) := by
  intro d
  induction d with
  | zero => intro m args h _ o h' e; cases e
  | succ d ih =>
    intro m args h hP o h' e
    have e' : (match q_pg[m]? with | none => none | some m => q_lim (fun n => q_ex X sb m.2 (q_call X sb q_pg d) n 0 (q_en m.1 args) [] h)) = some (o, h') := e
    cases hm : q_pg[m]? with
    | none => rw [hm] at e'; cases e'
    | some mm =>
      rw [hm] at e'
      obtain ⟨n, hn⟩ := q_lim_ex e'
      exact p_ex (List.all_eq_true.mp p_pg mm (List.mem_of_getElem? hm)) ih n _ _ _ _ hP _ _ hn
theorem p_keep {X : Sx} {d m : Nat} {args : List Value} {I K : Ii} {T T' : Tt} {o : Ou} (h : q_call X q_sb q_pg d m args (q_Z0, I, T) = some (o, (q_Z0, K, T'))) (hI : z_01b (I 139 17)) : z_01b (K 139 17) := (p_call X q_sb d m args _ ⟨p_M, by show 139 < q_Z0.length; decide +kernel, hI⟩ _ _ h).2.2
