/-! ===== THE LAW'S LOOP ===== -/
theorem z_and63 (v : Int32) : ∃ k, k < 64 ∧ v &&& 63 = nI k := by
  refine ⟨(v.toBitVec &&& 63#32).toNat, ?_, ?_⟩
  · rw [BitVec.toNat_and]
    exact Nat.lt_of_le_of_lt Nat.and_le_right (by decide)
  · apply Int32.toBitVec_inj.mp
    show v.toBitVec &&& 63#32 = BitVec.ofNat 32 _
    rw [BitVec.ofNat_toNat, BitVec.setWidth_eq]
theorem z_end (L i : Nat) (hL : L ≤ 3072) (hi : i ≤ 3072) : (Int32.ofNat L - 6 < nI i) = (L < i + 6) := by
  rcases Nat.lt_or_ge L 6 with h | h
  · have e : Int32.ofNat L - 6 < 0 := by
      have : L = 0 ∨ L = 1 ∨ L = 2 ∨ L = 3 ∨ L = 4 ∨ L = 5 := by omega
      rcases this with rfl | rfl | rfl | rfl | rfl | rfl <;> decide
    refine propext ⟨fun _ => by omega, fun _ => ?_⟩
    have h0 : (0 : Int32) ≤ nI i := by
      have := z_ltF i 0 (Nat.zero_le _) (by omega)
      exact Int32.not_lt.mp (fun c => by rw [show (0 : Int32) = nI 0 from rfl] at c; rw [this] at c; exact c)
    exact Int32.lt_of_lt_of_le e h0
  · have e : Int32.ofNat L - 6 = nI (L - 6) := by
      have := nI_add (L - 6) 6
      rw [show L - 6 + 6 = L by omega] at this
      show nI L - nI 6 = _
      rw [← this, Int32.add_sub_cancel]
    rw [e]
    by_cases hh : L - 6 < i
    · rw [z_ltT _ _ hh (by omega)]; exact (eq_true (by omega)).symm
    · rw [z_ltF _ _ (by omega) (by omega)]; exact (eq_false (by omega)).symm
theorem S_all (X : Sx) (d i k : Nat) (hk : k < 48) : S_ok X d i (nI k) := by
  have h : ∀ k, k < 48 → S_ok X d i (nI k)
    | 0, _ => S_0 X d i
    | 1, _ => S_1 X d i
    | 2, _ => S_2 X d i
    | 3, _ => S_3 X d i
    | 4, _ => S_4 X d i
    | 5, _ => S_5 X d i
    | 6, _ => S_6 X d i
    | 7, _ => S_7 X d i
    | 8, _ => S_8 X d i
    | 9, _ => S_9 X d i
    | 10, _ => S_10 X d i
    | 11, _ => S_11 X d i
    | 12, _ => S_12 X d i
    | 13, _ => S_13 X d i
    | 14, _ => S_14 X d i
    | 15, _ => S_15 X d i
    | 16, _ => S_16 X d i
    | 17, _ => S_17 X d i
    | 18, _ => S_18 X d i
    | 19, _ => S_19 X d i
    | 20, _ => S_20 X d i
    | 21, _ => S_21 X d i
    | 22, _ => S_22 X d i
    | 23, _ => S_23 X d i
    | 24, _ => S_24 X d i
    | 25, _ => S_25 X d i
    | 26, _ => S_26 X d i
    | 27, _ => S_27 X d i
    | 28, _ => S_28 X d i
    | 29, _ => S_29 X d i
    | 30, _ => S_30 X d i
    | 31, _ => S_31 X d i
    | 32, _ => S_32 X d i
    | 33, _ => S_33 X d i
    | 34, _ => S_34 X d i
    | 35, _ => S_35 X d i
    | 36, _ => S_36 X d i
    | 37, _ => S_37 X d i
    | 38, _ => S_38 X d i
    | 39, _ => S_39 X d i
    | 40, _ => S_40 X d i
    | 41, _ => S_41 X d i
    | 42, _ => S_42 X d i
    | 43, _ => S_43 X d i
    | 44, _ => S_44 X d i
    | 45, _ => S_45 X d i
    | 46, _ => S_46 X d i
    | 47, _ => S_47 X d i
    | n + 48, h => absurd h (by omega)
  exact h k hk
theorem S_any (X : Sx) (d i k : Nat) (hk : k < 64) : S_ok X d i (nI k) := by
  rcases Nat.lt_or_ge k 48 with h | h
  · exact S_all X d i k h
  · intro o5 o6 I T hX hi hI
    refine ⟨I, ⟨o5, o6, T, ?_, by omega, by omega⟩, hI⟩
    rw [e_L_law__24_d _ _ _ _ _ _ _ _ (.inr (by rw [z_nI_cl k (by omega)]; exact h)), e_L_law__1606]
    exact congrArg (fun v => c_L_law__13 X (d + 50) v o5 o6 I T) (nI_add i 6)
theorem law_loop (X : Sx) (hX : X.1 ≤ 3072) (d : Nat) : ∀ (n i : Nat) (o5 o6 : Option Value) (I : Ii) (T : Tt), X.1 ≤ i + 6 * n + 5 → i ≤ X.1 → INV I → ∃ I' T', c_L_law__13 X (d + 50) (nI i) o5 o6 I T = some (.inl (some (.int 1)), (q_Z0, I', T')) ∧ T'.2.1 ≤ T.2.1 + n ∧ T'.2.2 ≤ T.2.2 + 6 * n := by
  intro n
  induction n with
  | zero =>
    intro i o5 o6 I T h1 h2 hI
    refine ⟨I, T, ?_, by omega, by omega⟩
    rw [e_L_law__13, if_pos ((z_end X.1 i hX (by omega)).mpr (by omega))]
  | succ n ih =>
    intro i o5 o6 I T h1 h2 hI
    rcases Nat.lt_or_ge X.1 (i + 6) with h | h
    · refine ⟨I, T, ?_, by omega, by omega⟩
      rw [e_L_law__13, if_pos ((z_end X.1 i hX (by omega)).mpr h)]
    · obtain ⟨k, hk, ek⟩ := z_and63 (X.2 i)
      obtain ⟨K, ⟨u5, u6, T1, e1, t1, t2⟩, hK⟩ := S_any X d i k hk o5 o6 I T hX h hI
      obtain ⟨I', T', e2, t3, t4⟩ := ih (i + 6) u5 u6 K T1 (by omega) h hK
      refine ⟨I', T', ?_, by omega, by omega⟩
      rw [e_L_law__13, if_neg (fun c => absurd ((z_end X.1 i hX (by omega)).mp c) (by omega)), if_neg (fun c => by rw [z_in i X.1 (by omega) (by omega)] at c; exact c), z_nI_cl i (by omega), ek, e1, e2]
theorem q_pure (X : Sx) (hX : X.1 ≤ 3072) : ∃ d h', q_res X q_sb q_pg d cd_L_law_ 0 (q_en 7 [.float 1000000]) [] q_h0 = some (.inl (some (.int 1)), h') ∧ d ≤ 1000 ∧ h'.2.2.2.1 ≤ 601024 ∧ h'.2.2.2.2 ≤ 7293034 := by
  obtain ⟨I', T', e, t1, t2⟩ := law_loop X hX 0 512 0 none none q_I0 (va_up q_h2.2.2.1 150 (fun _ => 0), 151, q_h2.2.2.2.2 + 1) (by omega) (by omega) q_I0_inv
  have hs := q_i2_e.2.2.2
  refine ⟨50, (q_Z0, I', T'), (law_start X 42).trans e, by decide, ?_, ?_⟩
  · have : T'.2.1 ≤ 151 + 512 := t1
    show T'.2.1 ≤ 601024
    omega
  · have : T'.2.2 ≤ q_h2.2.2.2.2 + 1 + 6 * 512 := t2
    show T'.2.2 ≤ 7293034
    omega
