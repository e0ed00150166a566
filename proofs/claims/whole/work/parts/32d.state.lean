/-! ===== THE FIRST STORE ===== -/
def q_I0 : Ii := va_up q_h2.2.1 150 (fun _ => 0)
theorem q_I0_e (a : Nat) (h : a ≠ 150) : q_I0 a = q_h2.2.1 a := by
  unfold q_I0 va_up
  rw [if_neg h]
theorem q_I0_k (F : Ii) (l : List (Nat × Nat × Int32)) (hh : l.all (fun c => F c.1 c.2.1 == c.2.2) = true) (a k : Nat) (v : Int32) (h : (a, k, v) ∈ l) : F a k = v := by
  have := List.all_eq_true.mp hh _ h
  exact eq_of_beq this
theorem q_I0_c (a k : Nat) (v : Int32) (h : (a, k, v) ∈ q_cells) (ha : a ≠ 150) : q_I0 a k = v := by
  have hh := q_cells_a
  simp only [Bool.and_eq_true] at hh
  rw [q_I0_e a ha]
  exact q_I0_k _ _ hh.1 a k v h
theorem q_I0_l (p : Nat) (h : p < 12) : q_I0 140 (142 + p) = 0 ∧ q_I0 7 p = 0 := by
  have hh := q_cells_a
  simp only [Bool.and_eq_true] at hh
  have := List.all_eq_true.mp hh.2 p (List.mem_range.mpr h)
  simp only [Bool.and_eq_true] at this
  rw [q_I0_e _ (by decide), q_I0_e _ (by decide)]
  exact ⟨eq_of_beq this.1, eq_of_beq this.2⟩
theorem q_len_a {Z : List Zc} {c : Zc} {a : Nat} (h : q_len (Z ++ [c]) a = 884) (hc : c.2.1 = 1) : q_len Z a = 884 := by
  unfold q_len at h ⊢
  rcases Nat.lt_or_ge a Z.length with h1 | h1
  · rw [List.getElem?_append_left h1] at h; exact h
  · rw [List.getElem?_append_right h1] at h
    cases e : a - Z.length with
    | zero => rw [e] at h; simp [hc] at h
    | succ n => rw [e] at h; simp at h
theorem q_I0_0 (a k : Nat) (ha : a = 140 ∨ a = 141) (hk : 884 ≤ k) : q_I0 a k = 0 := by
  have e := q_i2_e.2.1
  have h1 : q_len q_Z0 140 = 884 := by decide +kernel
  have h2 : q_len q_Z0 141 = 884 := by decide +kernel
  rw [← e] at h1 h2
  rcases ha with rfl | rfl
  · rw [q_I0_e _ (by decide)]; exact lp_h2 140 k (by rw [q_len_a h1 rfl]; exact hk)
  · rw [q_I0_e _ (by decide)]; exact lp_h2 141 k (by rw [q_len_a h2 rfl]; exact hk)
theorem q_I0_inv : INV q_I0 := by
  have c := fun (a k : Nat) (v : Int32) (h : (a, k, v) ∈ q_cells) (ha : a ≠ 150) => q_I0_c a k v h ha
  have hR : R_ok (q_I0 140) 0 0 := by
    refine ⟨c 140 3 0 (by decide) (by decide), by decide, c 140 4 0 (by decide) (by decide), by decide, ⟨0, by decide, c 140 0 0 (by decide) (by decide)⟩, ⟨1, by decide, by decide, c 140 5 1 (by decide) (by decide)⟩, ⟨0, by decide, c 140 6 0 (by decide) (by decide)⟩, ⟨0, by decide, c 140 7 0 (by decide) (by decide)⟩, ⟨0, by decide, c 140 10 0 (by decide) (by decide)⟩, fun p hp => ⟨0, by decide, (q_I0_l p hp).1⟩, fun j hj => absurd hj (by omega), fun k hk => absurd hk (by omega)⟩
  have hS : z_Sh q_I0 3 (q_I0 140) 0 0 := by
    refine ⟨?_, ?_, ?_, ?_, ?_, ?_, fun j hj => absurd hj (by omega), fun j hj => absurd hj (by omega), fun j t hj => absurd hj (by omega), fun p hp => ?_, fun j hj => absurd hj (by omega), fun j hj => absurd hj (by omega), fun j hj => absurd hj (by omega)⟩
    · rw [c 3 0 0 (by decide) (by decide), c 140 3 0 (by decide) (by decide)]
    · rw [c 3 5 0 (by decide) (by decide), c 140 4 0 (by decide) (by decide)]
    · rw [c 3 9 1 (by decide) (by decide), c 140 5 1 (by decide) (by decide)]
    · rw [c 3 10 0 (by decide) (by decide), c 140 6 0 (by decide) (by decide)]
    · rw [c 3 11 0 (by decide) (by decide), c 140 7 0 (by decide) (by decide)]
    · rw [c 3 12 0 (by decide) (by decide), c 140 0 0 (by decide) (by decide)]
    · exact (q_I0_l p hp).2.trans (q_I0_l p hp).1.symm
  have e1 : q_I0 140 1 = -1 := c 140 1 (-1) (by decide) (by decide)
  have hL : z_La q_I0 42 (q_I0 140) := ⟨.inl e1, (c 42 0 (-1) (by decide) (by decide)).trans e1.symm, fun h => absurd e1 h⟩
  have hM : z_Mo q_I0 27 (q_I0 140) 0 := by
    refine ⟨?_, ?_, ?_, ?_, fun j hj => absurd hj (by omega), fun j hj => absurd hj (by omega), fun j hj => absurd hj (by omega), fun j hj => absurd hj (by omega), 0, by decide, c 27 4 0 (by decide) (by decide), fun j hj => absurd hj (by omega)⟩
    · rw [c 27 5 0 (by decide) (by decide), c 140 8 0 (by decide) (by decide)]
    · rw [c 27 7 0 (by decide) (by decide), c 140 9 0 (by decide) (by decide)]
    · rw [c 27 6 1 (by decide) (by decide), c 140 11 1 (by decide) (by decide)]
    · rw [c 27 9 0 (by decide) (by decide), c 140 10 0 (by decide) (by decide)]
  have hG : z_Lg q_I0 27 61 (q_I0 140) 0 := by
    refine ⟨c 27 8 0 (by decide) (by decide), fun i k h1 h2 => ?_⟩
    rw [c 140 10 0 (by decide) (by decide)] at h1
    rw [z_nlt0 i (by omega)] at h1
    exact h1.elim
  refine ⟨⟨0, 0, fun _ => 0, 0, 0, fun _ => q_I0 140, ⟨by decide, by decide, c 64 1 0 (by decide) (by decide), c 64 2 0 (by decide) (by decide), ⟨hR, hS, hL, hM, hG⟩, fun i hi => absurd hi (by omega), fun i j _ _ => ⟨Nat.le_refl 0, Nat.zero_le _⟩⟩, rfl, c 139 6 0 (by decide) (by decide), fun i hi => absurd hi (by omega), fun i hi => absurd hi (by omega), fun k hk => q_I0_0 140 k (.inl rfl) hk⟩, ⟨fun _ => 0, 0, ⟨by decide, c 1 1 0 (by decide) (by decide), fun k hk => absurd hk (by omega)⟩, ⟨c 139 8 0 (by decide) (by decide), fun k hk => absurd hk (by omega)⟩⟩, ⟨.inl ⟨c 0 18 0 (by decide) (by decide), c 139 3 0 (by decide) (by decide)⟩, fun k hk => q_I0_0 141 k (.inr rfl) hk⟩, ?_, .inl (c 139 17 0 (by decide) (by decide))⟩
  rw [c 0 19 (-1) (by decide) (by decide), c 139 13 (-1) (by decide) (by decide)]
/-! ===== DEEPER CALLS ANSWER THE SAME ===== -/
theorem call_up (X : Sx) (sb : List (List Int32)) (pg : List (Nat × List En)) : ∀ d mi args h r, q_call X sb pg d mi args h = some r → q_call X sb pg (d + 1) mi args h = some r := by
  intro d
  induction d with
  | zero => intro mi args h r e; cases e
  | succ d ih =>
    intro mi args h r e
    have e' : (match pg[mi]? with | none => none | some m => q_lim (fun n => q_ex X sb m.2 (q_call X sb pg d) n 0 (q_en m.1 args) [] h)) = some r := e
    show (match pg[mi]? with | none => none | some m => q_lim (fun n => q_ex X sb m.2 (q_call X sb pg (d + 1)) n 0 (q_en m.1 args) [] h)) = some r
    cases hm : pg[mi]? with
    | none => rw [hm] at e'; cases e'
    | some m =>
      rw [hm] at e'
      obtain ⟨n, hn⟩ := q_lim_ex (f := fun n => q_ex X sb m.2 (q_call X sb pg d) n 0 (q_en m.1 args) [] h) e'
      exact q_lim_of (f := fun n => q_ex X sb m.2 (q_call X sb pg (d + 1)) n 0 (q_en m.1 args) [] h) (fun n r => q_ex_up X sb m.2 (q_call X sb pg (d + 1)) n 0 _ [] h r) (ex_call ih n _ _ _ _ _ hn)
theorem call_le (X : Sx) (sb : List (List Int32)) (pg : List (Nat × List En)) (d k : Nat) : ∀ mi args h r, q_call X sb pg d mi args h = some r → q_call X sb pg (d + k) mi args h = some r := by
  induction k with
  | zero => intro mi args h r e; exact e
  | succ k ih => intro mi args h r e; exact call_up X sb pg (d + k) mi args h r (ih mi args h r e)
/-! ===== THE LAW, FROM THE FIRST INSTRUCTION TO THE LOOP ===== -/
theorem law_a (X : Sx) (d : Nat) (h : Hp) (hc : q_call X q_sb q_pg d 144 [.ref 0] (q_mk q_h0 (11, 20, List.replicate 20 none)) = some (.inl none, h)) : q_res X q_sb q_pg d cd_L_law_ 0 (q_en 7 [.float 1000000]) [] q_h0 = q_res X q_sb q_pg d cd_L_law_ 3 (q_en 7 [.float 1000000]) [.ref 0] h := by
  have e : q_res X q_sb q_pg d cd_L_law_ 0 (q_en 7 [.float 1000000]) [] q_h0 = (match q_call X q_sb q_pg d 144 [.ref 0] (q_mk q_h0 (11, 20, List.replicate 20 none)) with | none => none | some (.inl v, h') => q_res X q_sb q_pg d cd_L_law_ 3 (q_en 7 [.float 1000000]) (v.toList ++ [.ref 0]) h' | some (.inr _, _) => none) := (q_blk X q_sb q_pg d cd_L_law_ [3, 7, 13] 400 0 _ _ _).trans (by rfl)
  rw [e, hc]
  rfl
theorem law_b (X : Sx) (d : Nat) (Z : List Zc) (I : Ii) (L : Nat → Nat → Int64) (s : Nat) (h : Hp) (hZ : Z.length = 139) (hc : q_call X q_sb q_pg d 199 [.ref 139] (q_mk (Z, I, L, 139, s) (12, 25, List.replicate 25 none)) = some (.inl none, h)) : q_res X q_sb q_pg d cd_L_law_ 3 (q_en 7 [.float 1000000]) [.ref 0] (Z, I, L, 139, s) = q_res X q_sb q_pg d cd_L_law_ 7 [some (.float 1000000), some (.ref 0), none, none, none, none, none] [.ref 139] h := by
  have e : q_res X q_sb q_pg d cd_L_law_ 3 (q_en 7 [.float 1000000]) [.ref 0] (Z, I, L, 139, s) = (bif 139 == Z.length then (match q_call X q_sb q_pg d 199 [.ref Z.length] (q_mk (Z, I, L, 139, s) (12, 25, List.replicate 25 none)) with | none => none | some (.inl v, h') => q_res X q_sb q_pg d cd_L_law_ 7 [some (.float 1000000), some (.ref 0), none, none, none, none, none] (v.toList ++ [.ref Z.length]) h' | some (.inr _, _) => none) else none) := (q_blk X q_sb q_pg d cd_L_law_ [7, 13] 400 3 _ _ _).trans (by rfl)
  rw [e, hZ, hc]
  rfl
theorem law_c (X : Sx) (d : Nat) (Z : List Zc) (I : Ii) (L : Nat → Nat → Int64) (s : Nat) (hZ : Z ++ [(102, 1, [])] = q_Z0) : q_res X q_sb q_pg d cd_L_law_ 7 [some (.float 1000000), some (.ref 0), none, none, none, none, none] [.ref 139] (Z, I, L, 150, s) = c_L_law__13 X d 0 none none (va_up I 150 (fun _ => 0)) (va_up L 150 (fun _ => 0), 151, s + 1) := by
  have hz : Z.length = 150 := by
    have := congrArg List.length hZ
    rw [List.length_append] at this
    have h2 : q_Z0.length = 151 := by decide +kernel
    rw [h2] at this
    simp at this
    exact this
  have e : q_res X q_sb q_pg d cd_L_law_ 7 [some (.float 1000000), some (.ref 0), none, none, none, none, none] [.ref 139] (Z, I, L, 150, s) = (bif (150 == Z.length) && Nat.ble (1 : Int32).toNatClampNeg 1000000 then q_res X q_sb q_pg d cd_L_law_ 13 [some (.float 1000000), some (.ref 0), some (.ref 139), some (.ref Z.length), some (.int 0), none, none] [] (q_mk (Z, I, L, 150, s) (102, (1 : Int32).toNatClampNeg, [])) else none) := (q_blk X q_sb q_pg d cd_L_law_ [13] 400 7 _ _ _).trans (by rfl)
  rw [e, hz]
  show q_res X q_sb q_pg d cd_L_law_ 13 [some (.float 1000000), some (.ref 0), some (.ref 139), some (.ref 150), some (.int 0), none, none] [] (Z ++ [(102, 1, [])], va_up I Z.length (fun _ => 0), va_up L Z.length (fun _ => 0), 151, s + 1) = _
  rw [hZ, hz]
  rfl
theorem law_start (X : Sx) (d : Nat) : q_res X q_sb q_pg (8 + d) cd_L_law_ 0 (q_en 7 [.float 1000000]) [] q_h0 = c_L_law__13 X (8 + d) 0 none none q_I0 (va_up q_h2.2.2.1 150 (fun _ => 0), 151, q_h2.2.2.2.2 + 1) := by
  obtain ⟨a1, a2, a3⟩ := q_i1_e
  obtain ⟨b1, b2, b3, -⟩ := q_i2_e
  rw [law_a X (8 + d) q_h1 (call_le X q_sb q_pg 8 d _ _ _ _ (cc_okX _ X 400 8 _ _ _ _ a1))]
  have c1 : q_h1 = (q_h1.1, q_h1.2.1, q_h1.2.2.1, 139, q_h1.2.2.2.2) := by rw [← a3]
  have c2 : q_h2 = (q_h2.1, q_h2.2.1, q_h2.2.2.1, 150, q_h2.2.2.2.2) := by rw [← b3]
  have hc := call_le X q_sb q_pg 8 d _ _ _ _ (cc_okX _ X 400 8 _ _ _ _ b1)
  rw [c1] at hc
  rw [c1, law_b X (8 + d) _ _ _ _ q_h2 (by rw [a2]; decide +kernel) hc]
  refine (congrArg (q_res X q_sb q_pg (8 + d) cd_L_law_ 7 _ _) c2).trans ?_
  exact law_c X (8 + d) _ _ _ _ b2
