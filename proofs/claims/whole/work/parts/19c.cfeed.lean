/-! ===== tapes fed ===== -/
def z_bb (s : Int32) (sh : Nat) : Nat := (s.toBitVec >>> sh).toNat % 256
theorem z_bb_lt (s : Int32) (sh : Nat) : z_bb s sh < 256 := Nat.mod_lt _ (by decide)
theorem z_bb_r (s : Int32) (sh : Nat) (w : Int32) (hw : w.toUInt32 &&& Int32.toUInt32 31 = UInt32.ofNat sh) (hs : sh < 32) : (s.toUInt32 >>> (w.toUInt32 &&& Int32.toUInt32 31)).toInt32 &&& 255 = nI (z_bb s sh) := by
  rw [hw]
  apply Int32.toBitVec_inj.mp
  have e1 : ((s.toUInt32 >>> UInt32.ofNat sh).toInt32).toBitVec = s.toBitVec >>> sh := by
    show s.toBitVec >>> ((UInt32.ofNat sh).toBitVec % 32) = _
    apply BitVec.eq_of_toNat_eq
    rw [BitVec.toNat_ushiftRight, BitVec.ushiftRight_eq', BitVec.toNat_ushiftRight]
    congr 1
    rw [BitVec.toNat_umod]
    show (UInt32.ofNat sh).toNat % 32 = sh
    rw [UInt32.toNat_ofNat']
    omega
  rw [Int32.toBitVec_and, e1]
  apply BitVec.eq_of_toNat_eq
  rw [BitVec.toNat_and]
  have e2 : (255 : Int32).toBitVec.toNat = 2 ^ 8 - 1 := rfl
  have e3 : (nI (z_bb s sh)).toBitVec.toNat = z_bb s sh := by
    show z_bb s sh % 2 ^ 32 = _
    have := z_bb_lt s sh
    omega
  rw [e2, e3, Nat.and_two_pow_sub_one_eq_mod]
  rfl
theorem z_bb_c (s : Int32) (sh : Nat) (hs : sh ≤ 24) : (s >>> (nI sh &&& 31)).toInt8.toInt32.toInt8.toInt32 = z_by (z_bb s sh) := by
  have e : (s >>> (nI sh &&& 31)).toBitVec = s.toBitVec.sshiftRight sh := by
    rw [Int32.toBitVec_shiftRight]
    show s.toBitVec.sshiftRight ((nI sh &&& 31).toBitVec.smod 32).toNat = _
    rw [z_sl sh (by omega)]
  have e1 : (s >>> (nI sh &&& 31)).toInt8 = (nI (z_bb s sh)).toInt8 := by
    apply Int8.toBitVec_inj.mp
    show (s >>> (nI sh &&& 31)).toBitVec.signExtend 8 = (nI (z_bb s sh)).toBitVec.signExtend 8
    rw [e]
    apply BitVec.eq_of_getLsbD_eq
    intro i hi
    rw [BitVec.getLsbD_signExtend, BitVec.getLsbD_signExtend, if_pos (by omega), if_pos (by omega), BitVec.getLsbD_sshiftRight]
    have e5 : (nI (z_bb s sh)).toBitVec.getLsbD i = s.toBitVec.getLsbD (sh + i) := by
      show (BitVec.ofNat 32 (z_bb s sh)).getLsbD i = _
      rw [BitVec.getLsbD_ofNat]
      unfold z_bb
      rw [show (256 : Nat) = 2 ^ 8 from rfl, Nat.testBit_mod_two_pow]
      have : (s.toBitVec >>> sh).toNat.testBit i = (s.toBitVec >>> sh).getLsbD i := rfl
      rw [this, BitVec.getLsbD_ushiftRight]
      simp only [hi, decide_true, Bool.true_and]
      rw [decide_eq_true (by omega : i < 32), Bool.true_and]
    rw [e5]
    have c1 : ¬ 32 ≤ i := by omega
    have c2 : sh + i < 32 := by omega
    simp [c1, c2]
  rw [Int8.toInt8_toInt32, e1]
  rfl
/-- the tape with k bytes more -/
def t_fd (s : Nat → Int32) (B : Nat → Nat) (n k : Nat) : Nat → Nat := fun i => if n ≤ i ∧ i < n + k then z_bb (s ((i - n) / 4)) (24 - 8 * ((i - n) % 4)) else B i
theorem t_fd_s (s : Nat → Int32) (B : Nat → Nat) (n k i : Nat) (hi : i < n + k) : t_fd s B n (k + 1) i = t_fd s B n k i := by
  unfold t_fd
  by_cases h : n ≤ i
  · rw [if_pos (by omega), if_pos (by omega)]
  · rw [if_neg (by omega), if_neg (by omega)]
theorem t_fd_n (s : Nat → Int32) (B : Nat → Nat) (n k : Nat) : t_fd s B n (k + 1) (n + k) = z_bb (s (k / 4)) (24 - 8 * (k % 4)) := by
  unfold t_fd
  rw [if_pos (by omega)]
  have e : n + k - n = k := by omega
  rw [e]
theorem t_fd_0 (s : Nat → Int32) (B : Nat → Nat) (n : Nat) : t_fd s B n 0 = B := by
  funext i
  unfold t_fd
  rw [if_neg (by omega)]
theorem z_Ta_1 {J : Ii} {s : Nat → Int32} {B : Nat → Nat} {n k : Nat} (h : z_Ta J (t_fd s B n k) (n + k)) (hk : n + k < 400) : z_Ta (q_w (q_w J 2 (n + k) (z_by (z_bb (s (k / 4)) (24 - 8 * (k % 4))))) 1 1 (nI (n + k + 1))) (t_fd s B n (k + 1)) (n + k + 1) := by
  refine ⟨by omega, z_w_s _ _ _ _, fun i hi => ?_⟩
  rw [z_w_a _ _ _ _ _ (by decide)]
  by_cases e : i = n + k
  · subst e
    rw [t_fd_n, z_w_s]
    exact ⟨z_bb_lt _ _, rfl⟩
  · rw [t_fd_s _ _ _ _ _ (by omega), z_w_k _ _ _ _ _ e]
    exact h.2.2 i (by omega)
def m_fe (a k : Nat) : Bool := a == 2 || (a == 1 && k == 1)
theorem k_app1 (X : Sx) (d : Nat) (T : Tt) (J : Ii) (s : Nat → Int32) (B : Nat → Nat) (n k : Nat) (v : Int32) (hv : v = s (k / 4)) (h : z_Ta J (t_fd s B n k) (n + k)) (hk : n + k < 400) : ∃ K, c_X10_append_1_2 X d v (nI (24 - 8 * (k % 4))) J T = c_X10_append_1_2 X d v (nI (24 - 8 * (k % 4)) + (-8)) K T ∧ z_fr m_fe J K ∧ z_Ta K (t_fd s B n (k + 1)) (n + k + 1) := by
  refine ⟨_, ?_, z_fr_w (z_fr_w (z_fr_r _ _) 2 _ _ rfl) 1 1 _ rfl, z_Ta_1 h hk⟩
  have h2 := h.2.1
  have e := z_bb_c v (24 - 8 * (k % 4)) (by omega)
  rw [e_X10_append_1_2, e]
  rw [← hv]
  have hw0 : 24 - 8 * (k % 4) ≤ 24 := by omega
  generalize 24 - 8 * (k % 4) = w at *
  have hw : ¬ nI w < 0 := nI_pos (by omega)
  simp (disch := omega) only [e_X10_append_1_23, h2, hw, q_bd_l, z_ltT, z_ltF, z_eqT, z_eqF, z_ltlT, z_ltlF, z_lltT, z_lltF, z_eqlT, z_eqlF, z_in, z_k7, z_cl, z_lneg, z_llT, z_llF, z_s1, z_nI_cl, z_nlt0, z_ne_m1, z_b0, z_b1, z_la, z_al, z_lm, z_ml, z_nm, nI_add, pk_mul, ↓reduceIte, not_true_eq_false, not_false_eq_true, true_or, or_true, false_or, or_false, true_and, and_true, and_false, false_and, Classical.not_not, Nat.add_zero, z_01, z_em, z_bit_p, Nat.not_le, Nat.not_lt, reduceCtorEq, if_true, if_false]
theorem k_append (X : Sx) (d : Nat) (T : Tt) (J : Ii) (s : Nat → Int32) (B : Nat → Nat) (n j : Nat) (v : Int32) (hv : v = s j) (h : z_Ta J (t_fd s B n (4 * j)) (n + 4 * j)) (hk : n + 4 * j + 4 ≤ 400) : ∃ K, c_X10_append_1 X (d + 1) v J T = z_v K T ∧ z_fr m_fe J K ∧ z_Ta K (t_fd s B n (4 * j + 4)) (n + (4 * j + 4)) := by
  have d0 : 4 * j / 4 = j := by omega
  have d1 : (4 * j + 1) / 4 = j := by omega
  have d2 : (4 * j + 2) / 4 = j := by omega
  have d3 : (4 * j + 3) / 4 = j := by omega
  have m0 : 24 - 8 * (4 * j % 4) = 24 := by omega
  have m1 : 24 - 8 * ((4 * j + 1) % 4) = 16 := by omega
  have m2 : 24 - 8 * ((4 * j + 2) % 4) = 8 := by omega
  have m3 : 24 - 8 * ((4 * j + 3) % 4) = 0 := by omega
  obtain ⟨K0, a0, b0, c0⟩ := k_app1 X d T J s B n (4 * j) v (by rw [d0]; exact hv) h (by omega)
  obtain ⟨K1, a1, b1, c1⟩ := k_app1 X d T K0 s B n (4 * j + 1) v (by rw [d1]; exact hv) c0 (by omega)
  obtain ⟨K2, a2, b2, c2⟩ := k_app1 X d T K1 s B n (4 * j + 2) v (by rw [d2]; exact hv) c1 (by omega)
  obtain ⟨K3, a3, b3, c3⟩ := k_app1 X d T K2 s B n (4 * j + 3) v (by rw [d3]; exact hv) c2 (by omega)
  rw [m0] at a0
  rw [m1] at a1
  rw [m2] at a2
  rw [m3] at a3
  have e0 : nI 24 + (-8 : Int32) = nI 16 := rfl
  have e1 : nI 16 + (-8 : Int32) = nI 8 := rfl
  have e2 : nI 8 + (-8 : Int32) = nI 0 := rfl
  have e3 : (nI 0 + (-8 : Int32)) < 0 := by decide
  rw [e0] at a0
  rw [e1] at a1
  rw [e2] at a2
  refine ⟨K3, ?_, z_fr_t b0 (z_fr_t b1 (z_fr_t b2 b3)), c3⟩
  rw [e_X10_append_1]
  refine a0.trans (a1.trans (a2.trans (a3.trans ?_)))
  rw [e_X10_append_1_2, if_pos e3]
theorem k_hasRoom (X : Sx) (d : Nat) (I : Ii) (T : Tt) {B : Nat → Nat} {n : Nat} (h : z_Ta I B n) : c_X10_hasRoom_1 X (d + 1) I T = z_r (z_b (n + 20 ≤ 400)) I T := by
  have h1 := h.1
  have h2 := h.2.1
  rw [e_X10_hasRoom_1]
  unfold z_b
  by_cases c : n + 20 ≤ 400 <;> simp (disch := omega) only [h2, c, q_bd_l, z_ltT, z_ltF, z_eqT, z_eqF, z_ltlT, z_ltlF, z_lltT, z_lltF, z_eqlT, z_eqlF, z_in, z_k7, z_cl, z_lneg, z_llT, z_llF, z_s1, z_nI_cl, z_nlt0, z_ne_m1, z_b0, z_b1, z_la, z_al, z_lm, z_ml, z_nm, nI_add, pk_mul, ↓reduceIte, not_true_eq_false, not_false_eq_true, true_or, or_true, false_or, or_false, true_and, and_true, and_false, false_and, Classical.not_not, Nat.add_zero, z_01, z_em, z_bit_p, Nat.not_le, Nat.not_lt, reduceCtorEq, if_true, if_false]
def z_5 (a b c d e : Int32) : Nat → Int32 := fun i => if i = 0 then a else if i = 1 then b else if i = 2 then c else if i = 3 then d else e
theorem k_feed1 (X : Sx) (d : Nat) (I : Ii) (T : Tt) {B : Nat → Nat} {n : Nat} (v1 v2 v3 v4 v5 : Int32) (h : z_Ta I B n) (hn : n + 20 ≤ 400) : ∃ K, c_X11_feed_0 X (d + 2) v1 v2 v3 v4 v5 I T = z_r (nI (n + 20)) K T ∧ z_fr m_fe I K ∧ z_Ta K (t_fd (z_5 v1 v2 v3 v4 v5) B n 20) (n + 20) := by
  have h0 : z_Ta I (t_fd (z_5 v1 v2 v3 v4 v5) B n (4 * 0)) (n + 4 * 0) := by rw [t_fd_0]; exact h
  obtain ⟨K0, a0, b0, c0⟩ := k_append X d T I (z_5 v1 v2 v3 v4 v5) B n 0 v1 rfl h0 (by omega)
  obtain ⟨K1, a1, b1, c1⟩ := k_append X d T K0 (z_5 v1 v2 v3 v4 v5) B n 1 v2 rfl c0 (by omega)
  obtain ⟨K2, a2, b2, c2⟩ := k_append X d T K1 (z_5 v1 v2 v3 v4 v5) B n 2 v3 rfl c1 (by omega)
  obtain ⟨K3, a3, b3, c3⟩ := k_append X d T K2 (z_5 v1 v2 v3 v4 v5) B n 3 v4 rfl c2 (by omega)
  obtain ⟨K4, a4, b4, c4⟩ := k_append X d T K3 (z_5 v1 v2 v3 v4 v5) B n 4 v5 rfl c3 (by omega)
  have hs : K4 1 1 = nI (n + 20) := c4.2.1
  refine ⟨K4, ?_, z_fr_t b0 (z_fr_t b1 (z_fr_t b2 (z_fr_t b3 b4))), c4⟩
  rw [e_X11_feed_0, k_hasRoom X d I T h]
  unfold z_b
  simp (disch := omega) only [e_X11_feed_0_3, k_X11_feed_0_3, e_X11_feed_0_10, k_X11_feed_0_10, e_X11_feed_0_14, k_X11_feed_0_14, e_X11_feed_0_18, k_X11_feed_0_18, e_X11_feed_0_22, k_X11_feed_0_22, e_X11_feed_0_26, k_X11_feed_0_26, hn, a0, a1, a2, a3, a4, hs, q_bd_l, z_ltT, z_ltF, z_eqT, z_eqF, z_ltlT, z_ltlF, z_lltT, z_lltF, z_eqlT, z_eqlF, z_in, z_k7, z_cl, z_lneg, z_llT, z_llF, z_s1, z_nI_cl, z_nlt0, z_ne_m1, z_b0, z_b1, z_la, z_al, z_lm, z_ml, z_nm, nI_add, pk_mul, ↓reduceIte, not_true_eq_false, not_false_eq_true, true_or, or_true, false_or, or_false, true_and, and_true, and_false, false_and, Classical.not_not, Nat.add_zero, z_01, z_em, z_bit_p, Nat.not_le, Nat.not_lt, reduceCtorEq, if_true, if_false]
theorem k_feed0 (X : Sx) (d : Nat) (I : Ii) (T : Tt) {B : Nat → Nat} {n : Nat} (v1 v2 v3 v4 v5 : Int32) (h : z_Ta I B n) (hn : ¬ n + 20 ≤ 400) : c_X11_feed_0 X (d + 2) v1 v2 v3 v4 v5 I T = z_r (-1) I T := by
  rw [e_X11_feed_0, k_hasRoom X d I T h]
  unfold z_b
  simp (disch := omega) only [e_X11_feed_0_3, k_X11_feed_0_3, e_X11_feed_0_10, k_X11_feed_0_10, e_X11_feed_0_14, k_X11_feed_0_14, e_X11_feed_0_18, k_X11_feed_0_18, e_X11_feed_0_22, k_X11_feed_0_22, e_X11_feed_0_26, k_X11_feed_0_26, hn, q_bd_l, z_ltT, z_ltF, z_eqT, z_eqF, z_ltlT, z_ltlF, z_lltT, z_lltF, z_eqlT, z_eqlF, z_in, z_k7, z_cl, z_lneg, z_llT, z_llF, z_s1, z_nI_cl, z_nlt0, z_ne_m1, z_b0, z_b1, z_la, z_al, z_lm, z_ml, z_nm, nI_add, pk_mul, ↓reduceIte, not_true_eq_false, not_false_eq_true, true_or, or_true, false_or, or_false, true_and, and_true, and_false, false_and, Classical.not_not, Nat.add_zero, z_01, z_em, z_bit_p, Nat.not_le, Nat.not_lt, reduceCtorEq, if_true, if_false]
-- the reference
def z_Tr (I : Ii) (B : Nat → Nat) (n : Nat) : Prop := I 139 8 = nI n ∧ ∀ k, k < n → I 144 k = nI (B k)
theorem l_feed0 (X : Sx) (d : Nat) (I : Ii) (T : Tt) {B : Nat → Nat} {n : Nat} (v1 v2 v3 v4 v5 : Int32) (h : z_Tr I B n) (h4 : n ≤ 400) (hn : ¬ n + 20 ≤ 400) : c_X12_feed_139 X (d + 1) v1 v2 v3 v4 v5 I T = z_r (-1) (q_w I 139 0 0) T := by
  have h1 := h.1
  rw [e_X12_feed_139]
  simp (disch := omega) only [h1, q_bd_l, z_ltT, z_ltF, z_eqT, z_eqF, z_ltlT, z_ltlF, z_lltT, z_lltF, z_eqlT, z_eqlF, z_in, z_k7, z_cl, z_lneg, z_llT, z_llF, z_s1, z_nI_cl, z_nlt0, z_ne_m1, z_b0, z_b1, z_la, z_al, z_lm, z_ml, z_nm, nI_add, pk_mul, ↓reduceIte, not_true_eq_false, not_false_eq_true, true_or, or_true, false_or, or_false, true_and, and_true, and_false, false_and, Classical.not_not, Nat.add_zero, z_01, z_em, z_bit_p, Nat.not_le, Nat.not_lt, reduceCtorEq, if_true, if_false]
theorem l_feed1 (X : Sx) (d : Nat) (I : Ii) (T : Tt) {B : Nat → Nat} {n : Nat} (v1 v2 v3 v4 v5 : Int32) (h : z_Tr I B n) (hn : n + 20 ≤ 400) : ∃ K, c_X12_feed_139 X (d + 1) v1 v2 v3 v4 v5 I T = z_r (nI (n + 20)) K T ∧ z_fr (fun a k => a == 144 || (a == 139 && (k == 0 || k == 8))) I K ∧ K 139 0 = 0 ∧ z_Tr K (t_fd (z_5 v1 v2 v3 v4 v5) B n 20) (n + 20) := by
  have h1 := h.1
  have f0 : z_fr (fun a k => a == 144 || (a == 139 && (k == 0 || k == 8))) I (q_w I 139 0 0) := z_fr_w (z_fr_r _ _) 139 0 _ rfl
  have t0 : z_Tr (q_w I 139 0 0) B n := ⟨(z_w_k _ _ _ _ _ (by decide)).trans h1, fun k hk => by rw [z_w_a _ _ _ _ _ (by decide)]; exact h.2 k hk⟩
  obtain ⟨⟨K, o⟩, ⟨p1, p2, p3⟩, p4⟩ := z_foldP (β := Unit) (σ := Ii × Option Value) (fun k _ J => c_X12_feed_139_13 X d v1 v2 v3 v4 v5 (nI k) J.2 J.1 T) (fun _ u => u) (fun k _ J => z_fr (fun a k => a == 144 || (a == 139 && (k == 0 || k == 8))) I J.1 ∧ J.1 139 0 = 0 ∧ z_Tr J.1 (t_fd (z_5 v1 v2 v3 v4 v5) B n k) (n + k)) 20 (by
    intro k _ J hk hJ
    obtain ⟨J, o⟩ := J
    obtain ⟨q1, q2, q3⟩ := hJ
    dsimp only at q1 q2 q3 ⊢
    have q8 := q3.1
    have er : nI k - nI k / 4 * 4 = nI (k % 4) := pk_rem (a := k) (d := 4) (by omega) (by decide) (by decide)
    have hm : k % 4 = 0 ∨ k % 4 = 1 ∨ k % 4 = 2 ∨ k % 4 = 3 := by omega
    have es : ((24 : Int32) - 8 * nI (k % 4)).toUInt32 &&& Int32.toUInt32 31 = UInt32.ofNat (24 - 8 * (k % 4)) := by
      rcases hm with e | e | e | e <;> rw [e] <;> rfl
    have eb : ∀ s : Int32, (s.toUInt32 >>> (((24 : Int32) - 8 * nI (k % 4)).toUInt32 &&& Int32.toUInt32 31)).toInt32 &&& 255 = nI (z_bb s (24 - 8 * (k % 4))) := fun s => z_bb_r s _ _ es (by omega)
    refine ⟨(q_w (q_w J 144 (n + k) (nI (z_bb (z_5 v1 v2 v3 v4 v5 (k / 4)) (24 - 8 * (k % 4))))) 139 8 (nI (n + k + 1)), some (.int (z_5 v1 v2 v3 v4 v5 (k / 4)))), ⟨z_fr_w (z_fr_w q1 144 _ _ rfl) 139 8 _ rfl, ?_, by dsimp only; exact z_w_s _ 139 8 (nI (n + k + 1)), fun i hi => ?_⟩, ?_⟩
    · dsimp only
      rw [z_w_k _ _ _ _ _ (by decide), z_w_a _ _ _ _ _ (by decide)]; exact q2
    · dsimp only
      rw [z_w_a _ _ _ _ _ (by decide)]
      by_cases e : i = n + k
      · subst e; rw [t_fd_n, z_w_s]
      · rw [t_fd_s _ _ _ _ _ (by omega), z_w_k _ _ _ _ _ e]; exact q3.2 i (by omega)
    · rw [e_X12_feed_139_13]
      have e37 : ∀ s : Int32, c_X12_feed_139_37 X d v1 v2 v3 v4 v5 (nI k) o s J T = c_X12_feed_139_13 X d v1 v2 v3 v4 v5 (nI (k + 1)) (some (.int s)) (q_w (q_w J 144 (n + k) (nI (z_bb s (24 - 8 * (k % 4))))) 139 8 (nI (n + k + 1))) T := by
        intro s
        rw [e_X12_feed_139_37, q8, er, eb]
        simp (disch := omega) only [q_bd_l, z_ltT, z_ltF, z_eqT, z_eqF, z_ltlT, z_ltlF, z_lltT, z_lltF, z_eqlT, z_eqlF, z_in, z_k7, z_cl, z_lneg, z_llT, z_llF, z_s1, z_nI_cl, z_nlt0, z_ne_m1, z_b0, z_b1, z_la, z_al, z_lm, z_ml, z_nm, nI_add, pk_mul, ↓reduceIte, not_true_eq_false, not_false_eq_true, true_or, or_true, false_or, or_false, true_and, and_true, and_false, false_and, Classical.not_not, Nat.add_zero, z_01, z_em, z_bit_p, Nat.not_le, Nat.not_lt, reduceCtorEq, if_true, if_false]
      have hd : k / 4 = 0 ∧ k < 4 ∨ k / 4 = 1 ∧ ¬ k < 4 ∧ k < 8 ∨ k / 4 = 2 ∧ ¬ k < 4 ∧ ¬ k < 8 ∧ k < 12 ∨ k / 4 = 3 ∧ ¬ k < 4 ∧ ¬ k < 8 ∧ ¬ k < 12 ∧ k < 16 ∨ k / 4 = 4 ∧ ¬ k < 4 ∧ ¬ k < 8 ∧ ¬ k < 12 ∧ ¬ k < 16 := by omega
      rcases hd with ⟨e, c1⟩ | ⟨e, c1, c2⟩ | ⟨e, c1, c2, c3⟩ | ⟨e, c1, c2, c3, c4⟩ | ⟨e, c1, c2, c3, c4⟩
      all_goals
        rw [e]
        simp (disch := omega) only [e37, q_bd_l, z_ltT, z_ltF, z_eqT, z_eqF, z_ltlT, z_ltlF, z_lltT, z_lltF, z_eqlT, z_eqlF, z_in, z_k7, z_cl, z_lneg, z_llT, z_llF, z_s1, z_nI_cl, z_nlt0, z_ne_m1, z_b0, z_b1, z_la, z_al, z_lm, z_ml, z_nm, nI_add, pk_mul, ↓reduceIte, not_true_eq_false, not_false_eq_true, true_or, or_true, false_or, or_false, true_and, and_true, and_false, false_and, Classical.not_not, Nat.add_zero, z_01, z_em, z_bit_p, Nat.not_le, Nat.not_lt, reduceCtorEq, if_true, if_false]
        rfl) () (q_w I 139 0 0, none) ⟨f0, by exact z_w_s I 139 0 0, by rw [t_fd_0]; exact t0⟩
  dsimp only at p1 p2 p3 p4
  refine ⟨K, ?_, p1, p2, p3⟩
  rw [e_X12_feed_139]
  simp (disch := omega) only [h1, q_bd_l, z_ltT, z_ltF, z_eqT, z_eqF, z_ltlT, z_ltlF, z_lltT, z_lltF, z_eqlT, z_eqlF, z_in, z_k7, z_cl, z_lneg, z_llT, z_llF, z_s1, z_nI_cl, z_nlt0, z_ne_m1, z_b0, z_b1, z_la, z_al, z_lm, z_ml, z_nm, nI_add, pk_mul, ↓reduceIte, not_true_eq_false, not_false_eq_true, true_or, or_true, false_or, or_false, true_and, and_true, and_false, false_and, Classical.not_not, Nat.add_zero, z_01, z_em, z_bit_p, Nat.not_le, Nat.not_lt, reduceCtorEq, if_true, if_false]
  refine p4.trans ?_
  have hs := p3.1
  rw [e_X12_feed_139_13]
  simp (disch := omega) only [hs, q_bd_l, z_ltT, z_ltF, z_eqT, z_eqF, z_ltlT, z_ltlF, z_lltT, z_lltF, z_eqlT, z_eqlF, z_in, z_k7, z_cl, z_lneg, z_llT, z_llF, z_s1, z_nI_cl, z_nlt0, z_ne_m1, z_b0, z_b1, z_la, z_al, z_lm, z_ml, z_nm, nI_add, pk_mul, ↓reduceIte, not_true_eq_false, not_false_eq_true, true_or, or_true, false_or, or_false, true_and, and_true, and_false, false_and, Classical.not_not, Nat.add_zero, z_01, z_em, z_bit_p, Nat.not_le, Nat.not_lt, reduceCtorEq, if_true, if_false]
theorem k_end1 (X : Sx) (d : Nat) (I : Ii) (T : Tt) {B : Nat → Nat} {n : Nat} (h : z_Ta I B n) (k : Nat) (hk : k ≤ n) : c_X11_end_0 X (d + 1) (nI k) I T = z_r 1 (q_w I 1 1 (nI k)) T ∧ z_Ta (q_w I 1 1 (nI k)) B k := by
  have h1 := h.1
  have h2 := h.2.1
  constructor
  · rw [e_X11_end_0]
    simp (disch := omega) only [h2, q_bd_l, z_ltT, z_ltF, z_eqT, z_eqF, z_ltlT, z_ltlF, z_lltT, z_lltF, z_eqlT, z_eqlF, z_in, z_k7, z_cl, z_lneg, z_llT, z_llF, z_s1, z_nI_cl, z_nlt0, z_ne_m1, z_b0, z_b1, z_la, z_al, z_lm, z_ml, z_nm, nI_add, pk_mul, ↓reduceIte, not_true_eq_false, not_false_eq_true, true_or, or_true, false_or, or_false, true_and, and_true, and_false, false_and, Classical.not_not, Nat.add_zero, z_01, z_em, z_bit_p, Nat.not_le, Nat.not_lt, reduceCtorEq, if_true, if_false]
  · exact ⟨by omega, z_w_s _ _ _ _, fun i hi => by rw [z_w_a _ _ _ _ _ (by decide)]; exact h.2.2 i (by omega)⟩
theorem k_end0 (X : Sx) (d : Nat) (I : Ii) (T : Tt) {B : Nat → Nat} {n : Nat} (h : z_Ta I B n) (v : Int32) (hv : v < 0 ∨ nI n < v) : c_X11_end_0 X (d + 1) v I T = z_r 0 I T := by
  have h2 := h.2.1
  rw [e_X11_end_0]
  by_cases c : v < 0
  · simp (disch := omega) only [e_X11_end_0_7, h2, c, q_bd_l, z_ltT, z_ltF, z_eqT, z_eqF, z_ltlT, z_ltlF, z_lltT, z_lltF, z_eqlT, z_eqlF, z_in, z_k7, z_cl, z_lneg, z_llT, z_llF, z_s1, z_nI_cl, z_nlt0, z_ne_m1, z_b0, z_b1, z_la, z_al, z_lm, z_ml, z_nm, nI_add, pk_mul, ↓reduceIte, not_true_eq_false, not_false_eq_true, true_or, or_true, false_or, or_false, true_and, and_true, and_false, false_and, Classical.not_not, Nat.add_zero, z_01, z_em, z_bit_p, Nat.not_le, Nat.not_lt, reduceCtorEq, if_true, if_false]
  · have c2 : nI n < v := by rcases hv with a | a; exact absurd a c; exact a
    simp (disch := omega) only [e_X11_end_0_7, h2, c, c2, q_bd_l, z_ltT, z_ltF, z_eqT, z_eqF, z_ltlT, z_ltlF, z_lltT, z_lltF, z_eqlT, z_eqlF, z_in, z_k7, z_cl, z_lneg, z_llT, z_llF, z_s1, z_nI_cl, z_nlt0, z_ne_m1, z_b0, z_b1, z_la, z_al, z_lm, z_ml, z_nm, nI_add, pk_mul, ↓reduceIte, not_true_eq_false, not_false_eq_true, true_or, or_true, false_or, or_false, true_and, and_true, and_false, false_and, Classical.not_not, Nat.add_zero, z_01, z_em, z_bit_p, Nat.not_le, Nat.not_lt, reduceCtorEq, if_true, if_false]
theorem k_fault (X : Sx) (d : Nat) (I : Ii) (T : Tt) : c_X11_fault_0 X (d + 1) I T = z_r (I 0 19) I T := e_X11_fault_0 X d I T
theorem k_seed (X : Sx) (d : Nat) (v : Int32) (I : Ii) (T : Tt) : c_X11_seed_0 X (d + 1) v I T = z_r (I 27 6) (q_w I 27 6 v) T := e_X11_seed_0 X d v I T
theorem l_fault (X : Sx) (d : Nat) (I : Ii) (T : Tt) : c_X12_fault_139 X (d + 1) I T = z_r (I 139 13) (q_w I 139 0 0) T := e_X12_fault_139 X d I T
theorem l_seed (X : Sx) (d : Nat) (v : Int32) (I : Ii) (T : Tt) : c_X12_seed_139 X (d + 1) v I T = z_r (I 140 11) (q_w (q_w I 139 0 0) 140 11 v) T := e_X12_seed_139 X d v I T
