/-! ===== THE WORLD: what the small machine's store says of the heap ===== -/
/-- which slots of a class hold references -/
def q_rfs : List (List Nat) := [[0, 1, 2], [0, 1, 2, 3, 4, 5], [0, 1, 2, 3, 4, 5, 6], [0], [1, 2, 3, 4, 6], [0, 1], [0], [0, 1, 2, 3], [0, 1, 2, 3], [1, 2, 3, 4, 6, 7, 8], [0], [0, 1, 2, 3, 4, 5, 6, 7, 8, 9, 10, 11, 12, 13, 14, 15, 16, 17], [1, 2, 4, 5, 7, 15, 21, 22, 23, 24]]
def q_isr (ci k : Nat) : Bool := (q_rfs.getD ci []).contains k
/-- a value of the small machine in the large one: references from 'base' on, texts and the script by 'sa' -/
def q_v (base : Nat) (sa : Nat → Nat) (v : Value) : Value := match v with
  | .ref a => .ref (base + a)
  | .float u => .ref (sa u.toNat)
  | v => v
def q_fs (base : Nat) (ci n : Nat) (rs : List (Option Nat)) (f : Nat → Int32) : List Value := (List.range n).map (fun k => if q_isr ci k = true then va_rf ((rs.getD k none).map (fun r => base + r)) else .int (f k))
def q_cell (base : Nat) (cs : Nat → ClassId) (z : Zc) (f : Nat → Int32) (g : Nat → Int64) : va_E :=
  if z.1 < 100 then .inr (z.1, q_fs base z.1 z.2.1 z.2.2 f)
  else if z.1 = 102 then .inl (cs 102, z.2.1, .inr (.inl g))
  else if z.1 = 103 then .inl (cs 103, z.2.1, .inr (.inr (.inr (.inr (fun k => (z.2.2.getD k none).map (fun r => base + r))))))
  else .inl (cs z.1, z.2.1, .inl f)
def q_ws (base : Nat) (cs : Nat → ClassId) (h : Hp) : va_W := (List.range h.1.length).map (fun a => (base + a, q_cell base cs (h.1.getD a (0, 0, [])) (h.2.1 a) (h.2.2.1 a)))
theorem q_ws_len (base : Nat) (cs : Nat → ClassId) (h : Hp) : (q_ws base cs h).length = h.1.length := by simp [q_ws]
theorem q_ws_at {base : Nat} {cs : Nat → ClassId} {h : Hp} {a : Nat} {z : Zc} (hz : h.1[a]? = some z) : (q_ws base cs h)[a]? = some (base + a, q_cell base cs z (h.2.1 a) (h.2.2.1 a)) := by
  have hl : a < h.1.length := (List.getElem?_eq_some_iff.mp hz).1
  have hd : h.1.getD a (0, 0, []) = z := by rw [List.getD_eq_getElem?_getD, hz]; rfl
  simp only [q_ws, List.getElem?_map, List.getElem?_range hl, Option.map_some, hd]
theorem q_ws_none {base : Nat} {cs : Nat → ClassId} {h : Hp} {a : Nat} (hz : h.1[a]? = none) : (q_ws base cs h)[a]? = none := by
  rw [List.getElem?_eq_none_iff] at hz ⊢
  rw [q_ws_len]; exact hz
theorem q_ws_ap {base : Nat} {cs : Nat → ClassId} {h : Hp} {i j : Nat} {p q : Nat × va_E} (hi : (q_ws base cs h)[i]? = some p) (hj : (q_ws base cs h)[j]? = some q) (e : p.1 = q.1) : i = j := by
  have hl : i < h.1.length := by have := (List.getElem?_eq_some_iff.mp hi).1; rwa [q_ws_len] at this
  have hl2 : j < h.1.length := by have := (List.getElem?_eq_some_iff.mp hj).1; rwa [q_ws_len] at this
  rw [q_ws_at (List.getElem?_eq_getElem hl)] at hi
  rw [q_ws_at (List.getElem?_eq_getElem hl2)] at hj
  cases hi; cases hj
  dsimp only at e
  omega
theorem q_ws_D {base : Nat} {cs : Nat → ClassId} {h : Hp} : va_D (fun q => base ≤ q) (q_ws base cs h) := by
  refine ⟨fun i j p q hi hj e => q_ws_ap hi hj e, fun k q hk => ?_⟩
  have hl : k < h.1.length := by have := (List.getElem?_eq_some_iff.mp hk).1; rwa [q_ws_len] at this
  rw [q_ws_at (List.getElem?_eq_getElem hl)] at hk
  cases hk
  exact Nat.le_add_right _ _
/-- a store with one cell otherwise -/
theorem q_ws_set {base : Nat} {cs : Nat → ClassId} {h h' : Hp} {a : Nat} {z' : Zc} (hlen : h'.1.length = h.1.length) (hz' : h'.1[a]? = some z')
    (ho : ∀ i, i ≠ a → h'.1[i]? = h.1[i]? ∧ h'.2.1 i = h.2.1 i ∧ h'.2.2.1 i = h.2.2.1 i) : (q_ws base cs h).set a (base + a, q_cell base cs z' (h'.2.1 a) (h'.2.2.1 a)) = q_ws base cs h' := by
  apply List.ext_getElem?
  intro i
  have hla : a < h.1.length := by have := (List.getElem?_eq_some_iff.mp hz').1; rwa [hlen] at this
  by_cases hi : i = a
  · subst hi
    rw [q_ws_at hz', List.getElem?_set_self (by rw [q_ws_len]; exact hla)]
  · rw [List.getElem?_set_ne (fun e => hi e.symm)]
    obtain ⟨e1, e2, e3⟩ := ho i hi
    cases hz : h.1[i]? with
    | none => rw [q_ws_none hz, q_ws_none (e1.trans hz)]
    | some z => rw [q_ws_at hz, q_ws_at (e1.trans hz), e2, e3]
theorem q_tag_z {Z : List Zc} {a t : Nat} (h : q_tag Z a = t) (ht : t ≠ 999) : ∃ n rs, Z[a]? = some (t, n, rs) ∧ q_len Z a = n ∧ ∀ k, q_ref Z a k = rs[k]? := by
  unfold q_tag at h
  cases hz : Z[a]? with
  | none => rw [hz] at h; exact absurd h.symm ht
  | some c =>
    obtain ⟨t', n, rs⟩ := c
    rw [hz] at h
    cases h
    exact ⟨n, rs, rfl, by simp [q_len, hz], fun k => by simp [q_ref, hz]⟩
theorem q_up_s {α : Type} (f : Nat → α) (k : Nat) (v : α) : va_up f k v k = v := by simp [va_up]
theorem q_up_n {α : Type} (f : Nat → α) {k j : Nat} (v : α) (h : j ≠ k) : va_up f k v j = f j := by simp [va_up, h]
/-- an int changed -/
theorem q_ws_ui {base : Nat} {cs : Nat → ClassId} {h : Hp} {a k : Nat} {z : Zc} (x : Int32) (hz : h.1[a]? = some z) :
    (q_ws base cs h).set a (base + a, q_cell base cs z (va_up (h.2.1 a) k x) (h.2.2.1 a)) = q_ws base cs (q_ui h a k x) := by
  have e := q_ws_set (base := base) (cs := cs) (h := h) (h' := q_ui h a k x) (a := a) (z' := z) rfl hz (fun i hi => ⟨rfl, by simp [q_ui, q_up_n _ _ hi], rfl⟩)
  rw [← e]
  simp [q_ui, q_up_s]
theorem q_ws_ul {base : Nat} {cs : Nat → ClassId} {h : Hp} {a k : Nat} {z : Zc} (x : Int64) (hz : h.1[a]? = some z) :
    (q_ws base cs h).set a (base + a, q_cell base cs z (h.2.1 a) (va_up (h.2.2.1 a) k x)) = q_ws base cs (q_ul h a k x) := by
  have e := q_ws_set (base := base) (cs := cs) (h := h) (h' := q_ul h a k x) (a := a) (z' := z) rfl hz (fun i hi => ⟨rfl, rfl, by simp [q_ul, q_up_n _ _ hi]⟩)
  rw [← e]
  simp [q_ul, q_up_s]
theorem q_ws_uz {base : Nat} {cs : Nat → ClassId} {h : Hp} {a k : Nat} {z : Zc} (v : Option Nat) (hz : h.1[a]? = some z) :
    (q_ws base cs h).set a (base + a, q_cell base cs (z.1, z.2.1, z.2.2.set k v) (h.2.1 a) (h.2.2.1 a)) = q_ws base cs (q_uz h a k v) := by
  have hl : a < h.1.length := (List.getElem?_eq_some_iff.mp hz).1
  have hu : (q_uz h a k v).1 = h.1.set a (z.1, z.2.1, z.2.2.set k v) := by simp [q_uz, q_zs, hz]
  exact q_ws_set (base := base) (cs := cs) (h := h) (h' := q_uz h a k v) (a := a) (z' := (z.1, z.2.1, z.2.2.set k v)) (by rw [hu]; simp) (by rw [hu]; exact List.getElem?_set_self hl)
    (fun i hi => ⟨by rw [hu]; exact List.getElem?_set_ne (fun e => hi e.symm), rfl, rfl⟩)
theorem q_ws_cp {base : Nat} {cs : Nat → ClassId} {h : Hp} {a sp b dp n : Nat} {z : Zc} (hz : h.1[b]? = some z) :
    (q_ws base cs h).set b (base + b, q_cell base cs z (va_cpy (h.2.1 a) (h.2.1 b) sp dp n) (h.2.2.1 b)) = q_ws base cs (q_cp h a sp b dp n) := by
  have e := q_ws_set (base := base) (cs := cs) (h := h) (h' := q_cp h a sp b dp n) (a := b) (z' := z) rfl hz (fun i hi => ⟨rfl, by simp [q_cp, q_up_n _ _ hi], rfl⟩)
  rw [← e]
  simp [q_cp, q_up_s]
theorem q_ws_mk {base : Nat} {cs : Nat → ClassId} {h : Hp} (z : Zc) : q_ws base cs h ++ [(base + h.1.length, q_cell base cs z (fun _ => 0) (fun _ => 0))] = q_ws base cs (q_mk h z) := by
  apply List.ext_getElem?
  intro i
  have hlen : (q_mk h z).1 = h.1 ++ [z] := rfl
  rcases Nat.lt_trichotomy i h.1.length with hi | hi | hi
  · rw [List.getElem?_append_left (by rw [q_ws_len]; exact hi), q_ws_at (List.getElem?_eq_getElem hi), q_ws_at (h := q_mk h z) (z := h.1[i]) (by rw [hlen, List.getElem?_append_left hi]; exact List.getElem?_eq_getElem hi)]
    have hne : i ≠ h.1.length := Nat.ne_of_lt hi
    simp [q_mk, q_up_n _ _ hne]
  · subst hi
    rw [List.getElem?_append_right (by rw [q_ws_len]; exact Nat.le_refl _), q_ws_len, Nat.sub_self, q_ws_at (h := q_mk h z) (z := z) (by rw [hlen, List.getElem?_append_right (Nat.le_refl _), Nat.sub_self]; rfl)]
    simp [q_mk, q_up_s]
  · rw [List.getElem?_eq_none_iff.mpr (by simp [q_ws_len]; omega), q_ws_none (List.getElem?_eq_none_iff.mpr (by rw [hlen]; simp; omega))]
theorem q_fs_len (base ci n : Nat) (rs : List (Option Nat)) (f : Nat → Int32) : (q_fs base ci n rs f).length = n := by simp [q_fs]
theorem q_fs_at {base ci n k : Nat} {rs : List (Option Nat)} {f : Nat → Int32} (hk : k < n) : (q_fs base ci n rs f)[k]? = some (if q_isr ci k = true then va_rf ((rs.getD k none).map (fun r => base + r)) else .int (f k)) := by
  simp only [q_fs, List.getElem?_map, List.getElem?_range hk, Option.map_some]
theorem q_fs_i {base ci n k : Nat} {rs : List (Option Nat)} {f : Nat → Int32} (x : Int32) (hk : k < n) (hr : q_isr ci k = false) : (q_fs base ci n rs f).set k (.int x) = q_fs base ci n rs (va_up f k x) := by
  apply List.ext_getElem?
  intro i
  by_cases hi : i = k
  · subst hi
    rw [List.getElem?_set_self (by rw [q_fs_len]; exact hk), q_fs_at hk, hr, q_up_s]; rfl
  · rw [List.getElem?_set_ne (fun e => hi e.symm)]
    by_cases hn : i < n
    · rw [q_fs_at hn, q_fs_at hn, q_up_n _ _ hi]
    · rw [List.getElem?_eq_none_iff.mpr (by rw [q_fs_len]; omega), List.getElem?_eq_none_iff.mpr (by rw [q_fs_len]; omega)]
theorem q_fs_r {base ci n k b : Nat} {rs : List (Option Nat)} {f : Nat → Int32} (hk : k < n) (hl : k < rs.length) (hr : q_isr ci k = true) : (q_fs base ci n rs f).set k (.ref (base + b)) = q_fs base ci n (rs.set k (some b)) f := by
  apply List.ext_getElem?
  intro i
  by_cases hi : i = k
  · subst hi
    rw [List.getElem?_set_self (by rw [q_fs_len]; exact hk), q_fs_at hk, if_pos hr, List.getD_eq_getElem?_getD, List.getElem?_set_self hl]; rfl
  · rw [List.getElem?_set_ne (fun e => hi e.symm)]
    by_cases hn : i < n
    · rw [q_fs_at hn, q_fs_at hn, List.getD_eq_getElem?_getD, List.getD_eq_getElem?_getD, List.getElem?_set_ne (fun e => hi e.symm)]
    · rw [List.getElem?_eq_none_iff.mpr (by rw [q_fs_len]; omega), List.getElem?_eq_none_iff.mpr (by rw [q_fs_len]; omega)]
/-- which slots hold truth values -/
def q_isz (ci k : Nat) : Bool := (ci == 4 && k == 8) || (ci == 11 && k == 18) || (ci == 12 && (k == 3 || k == 17 || k == 20))
/-- locals -/
def q_L (base : Nat) (sa : Nat → Nat) (nL : Nat) (rls : Array Slot) (ls : Lc) : Prop := ls.length = nL ∧ rls.size = nL ∧ lv_wf rls ∧ ∀ (i : Nat) (v : Value), ls[i]? = some (some v) → v.category = 1 ∧ rls[i]? = some (Slot.val (q_v base sa v))
def q_as (base : Nat) (sa : Nat → Nat) (ls : Lc) : List (Nat × Value) := (List.range ls.length).filterMap (fun i => (ls[i]?.join).map (fun v => (i, q_v base sa v)))
theorem q_as_in {base : Nat} {sa : Nat → Nat} {ls : Lc} {q : Nat × Value} : q ∈ q_as base sa ls ↔ ∃ v, ls[q.1]? = some (some v) ∧ q.2 = q_v base sa v := by
  unfold q_as
  rw [List.mem_filterMap]
  constructor
  · rintro ⟨i, hi, h⟩
    cases hj : ls[i]? with
    | none => rw [hj] at h; simp at h
    | some o =>
      cases o with
      | none => rw [hj] at h; simp at h
      | some v =>
        rw [hj] at h
        simp at h
        exact ⟨v, by rw [← h]; exact hj, by rw [← h]⟩
  · rintro ⟨v, h, h2⟩
    refine ⟨q.1, ?_, ?_⟩
    · rw [List.mem_range]
      exact (List.getElem?_eq_some_iff.mp h).1
    · rw [h]
      obtain ⟨a, b⟩ := q
      simp at h2
      simp [h2]
theorem q_L_has {base : Nat} {sa : Nat → Nat} {nL : Nat} {rls : Array Slot} {ls : Lc} (h : q_L base sa nL rls ls) : lv_has rls nL (q_as base sa ls) := by
  refine ⟨h.2.1, h.2.2.1, fun q hq => ?_⟩
  obtain ⟨v, h1, h2⟩ := q_as_in.mp hq
  rw [h2]
  exact (h.2.2.2 q.1 v h1).2
theorem q_v_cat {base : Nat} {sa : Nat → Nat} {v : Value} (h : v.category = 1) : (q_v base sa v).category = 1 := by
  cases v <;> first | exact h | rfl
theorem q_L_store {base : Nat} {sa : Nat → Nat} {nL : Nat} {rls rls' : Array Slot} {ls : Lc} {i : Nat} {v : Value} (h : q_L base sa nL rls ls) (hv : v.category = 1)
    (h' : lv_has rls' nL ((i, q_v base sa v) :: (q_as base sa ls).filter (fun q => !(q.1 == i) && !(q.1 + 1 == i && q.2.category == 2)))) : q_L base sa nL rls' (ls.set i (some v)) := by
  refine ⟨by rw [List.length_set]; exact h.1, h'.1, h'.2.1, fun j w hj => ?_⟩
  by_cases e : j = i
  · subst e
    have hl : j < ls.length := by
      have := (List.getElem?_eq_some_iff.mp hj).1
      rwa [List.length_set] at this
    rw [List.getElem?_set_self hl] at hj
    cases hj
    exact ⟨hv, h'.2.2 _ List.mem_cons_self⟩
  · rw [List.getElem?_set_ne (fun x => e x.symm)] at hj
    obtain ⟨c1, -⟩ := h.2.2.2 j w hj
    refine ⟨c1, h'.2.2 (j, q_v base sa w) (List.mem_cons_of_mem _ (List.mem_filter.mpr ⟨q_as_in.mpr ⟨w, hj, rfl⟩, ?_⟩))⟩
    have c2 := q_v_cat (base := base) (sa := sa) c1
    simp [e, c2]
