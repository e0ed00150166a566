/-! ===== THE CABINET'S TEXT, read by itself ===== -/
abbrev Cr : Type := Except Nat (Nat × (Nat → Int32))
def c_nm (B : Nat → Nat) (N p : Nat) : Int32 := nI (t_num B p (t_nf B N p))
def c_lq (B : Nat → Nat) (N p : Nat) : Nat := if t_isW (t_w 45) B N p = true then 0 else if t_isW (t_w 46) B N p = true then 1 else if t_isW (t_w 47) B N p = true then 2 else 3
/-- figures of views -/
def C_vw (B : Nat → Nat) (p n k : Nat) (r : Nat → Int32) : Nat → Int32 := z_it (fun t r => va_up r (12 + 13 * n + (7 + t)) (nI (B (p + t)) - 48)) k r
/-- a jar put behind the others -/
def C_put (B : Nat → Nat) (p n : Nat) (lq pl sp so se : Int32) (r : Nat → Int32) : Nat → Int32 := va_up (C_vw B p n 6 (va_up (va_up (va_up (va_up (va_up (va_up (va_up r (12 + 13 * n + 0) lq) (12 + 13 * n + 1) pl) (12 + 13 * n + 2) sp) (12 + 13 * n + 3) so) (12 + 13 * n + 4) se) (12 + 13 * n + 5) (nI n)) (12 + 13 * n + 6) 0)) 3 (nI (n + 1))
/-- a word and a number -/
def C_aft (B : Nat → Nat) (N i : Nat) (hi : Int32) (p : Nat) : Except Nat Nat := if t_isW (t_w i) B N p = true then (if t_isN 0 hi 4 B N (t_nx B N p) = true then .ok (t_nx B N p) else .error (t_nx B N p)) else .error p
def C_jar3 (B : Nat → Nat) (N n : Nat) (lq pl sp so se : Int32) (r : Nat → Int32) (p : Nat) : Cr := if t_isW (t_w 48) B N p = true then (if t_nf B N (t_nx B N p) = 6 then .ok (t_nx B N (t_nx B N p), C_put B (t_nx B N p) n lq pl sp so se r) else .error (t_nx B N p)) else .error p
def C_jar2 (B : Nat → Nat) (N n : Nat) (lq pl : Int32) (r : Nat → Int32) (p : Nat) : Cr := match C_aft B N 50 20 p with
  | .error e => .error e
  | .ok a => match C_aft B N 51 99 (t_nx B N a) with
    | .error e => .error e
    | .ok b => match C_aft B N 52 9 (t_nx B N b) with
      | .error e => .error e
      | .ok c => C_jar3 B N n lq pl (c_nm B N a) (c_nm B N b) (c_nm B N c) r (t_nx B N c)
def C_jar (B : Nat → Nat) (N n : Nat) (r : Nat → Int32) (p : Nat) : Cr := if c_lq B N p = 3 then .error p else if t_isW (t_w 49) B N (t_nx B N p) = true then (if t_isN 0 11 4 B N (t_nx B N (t_nx B N p)) = true then (if R_on r n (c_nm B N (t_nx B N (t_nx B N p))) < n then .error (t_nx B N (t_nx B N p)) else C_jar2 B N n (nI (c_lq B N p)) (c_nm B N (t_nx B N (t_nx B N p))) r (t_nx B N (t_nx B N (t_nx B N p)))) else .error (t_nx B N (t_nx B N p))) else .error (t_nx B N p)
def C_need (B : Nat → Nat) (N m : Nat) (r : Nat → Int32) (p : Nat) : Cr := if t_isN (r 8) 9999 4 B N p = true then (if t_isN 0 5 4 B N (t_nx B N p) = true then (if t_isN 1 9 4 B N (t_nx B N (t_nx B N p)) = true then .ok (t_nx B N (t_nx B N (t_nx B N p)), va_up (va_up (va_up (va_up r (154 + 3 * m + 0) (c_nm B N p)) (154 + 3 * m + 1) (c_nm B N (t_nx B N p))) (154 + 3 * m + 2) (c_nm B N (t_nx B N (t_nx B N p)))) 4 (nI (m + 1))) else .error (t_nx B N (t_nx B N p))) else .error (t_nx B N p)) else .error p
def C_tell (B : Nat → Nat) (N i : Nat) (lo hi : Int32) (r : Nat → Int32) (p : Nat) : Cr := if t_isN lo hi 4 B N p = true then .ok (t_nx B N p, va_up r i (c_nm B N p)) else .error p
def C_line (B : Nat → Nat) (N n m : Nat) (r : Nat → Int32) (p : Nat) : Cr :=
  if t_isW (t_w 53) B N p = true then (if n = 10 then .error p else C_jar B N n r (t_nx B N p))
  else if t_isW (t_w 54) B N p = true then (if t_isN 0 11 4 B N (t_nx B N p) = true then C_tell B N (142 + t_num B (t_nx B N p) (t_nf B N (t_nx B N p))) 0 9 r (t_nx B N (t_nx B N p)) else .error (t_nx B N p))
  else if t_isW (t_w 55) B N p = true then (if m = 10 then .error p else C_need B N m r (t_nx B N p))
  else if t_isW (t_w 56) B N p = true then C_tell B N 5 1 90 r (t_nx B N p)
  else if t_isW (t_w 57) B N p = true then C_tell B N 6 0 100 r (t_nx B N p)
  else if t_isW (t_w 58) B N p = true then C_tell B N 7 0 100 r (t_nx B N p)
  else .error p
/-- how many jars and needs a row has -/
def C_n (r : Nat → Int32) : Nat := (r 3).toNatClampNeg
def C_m (r : Nat → Int32) : Nat := (r 4).toNatClampNeg
def C_ls (B : Nat → Nat) (N : Nat) : Nat → (Nat → Int32) → Nat → Except Nat (Nat → Int32)
  | 0, _, p => .error p
  | g + 1, r, p => match C_line B N (C_n r) (C_m r) r p with
    | .error e => .error e
    | .ok (q, r') => if q = N then .ok r' else if t_isS 59 B N q = true then C_ls B N g r' (t_nx B N q) else .error q
def C_cab (B : Nat → Nat) (N : Nat) (r : Nat → Int32) : Except Nat (Nat → Int32) := if t_sk B N 0 = N then .ok r else C_ls B N 14 r (t_sk B N 0)
/-- a row that may follow -/
def C_o (r r' : Nat → Int32) : Prop := (∀ i, 184 ≤ i → r' i = r i) ∧ (∀ i, i < 12 → i ≠ 3 → i ≠ 4 → i ≠ 5 → i ≠ 6 → i ≠ 7 → r' i = r i)
theorem C_o_r (r : Nat → Int32) : C_o r r := ⟨fun _ _ => rfl, fun _ _ _ _ _ _ _ => rfl⟩
theorem C_o_t {r s t : Nat → Int32} (h1 : C_o r s) (h2 : C_o s t) : C_o r t := ⟨fun i hi => (h2.1 i hi).trans (h1.1 i hi), fun i a b c d e f => (h2.2 i a b c d e f).trans (h1.2 i a b c d e f)⟩
theorem z_up_s (r : Nat → Int32) (k : Nat) (v : Int32) : va_up r k v k = v := by unfold va_up; rw [if_pos rfl]
theorem z_up_o (r : Nat → Int32) {k i : Nat} (v : Int32) (h : i ≠ k) : va_up r k v i = r i := by unfold va_up; rw [if_neg h]
theorem C_vw_o (B : Nat → Nat) (p n : Nat) (r : Nat → Int32) (i : Nat) : ∀ k, k ≤ 6 → (i < 12 + 13 * n + 7 ∨ 12 + 13 * n + 13 ≤ i) → C_vw B p n k r i = r i
  | 0, _, _ => rfl
  | k + 1, hk, h => by
    show va_up (C_vw B p n k r) (12 + 13 * n + (7 + k)) _ i = r i
    rw [z_up_o _ _ (by omega)]
    exact C_vw_o B p n r i k (by omega) h
theorem C_vw_t (B : Nat → Nat) (p n t : Nat) (r : Nat → Int32) : ∀ k, k ≤ 6 → t < k → C_vw B p n k r (12 + 13 * n + (7 + t)) = nI (B (p + t)) - 48
  | 0, _, h => by omega
  | k + 1, hk, h => by
    show va_up (C_vw B p n k r) (12 + 13 * n + (7 + k)) _ _ = _
    by_cases e : t = k
    · subst e; rw [z_up_s]
    · rw [z_up_o _ _ (by omega)]
      exact C_vw_t B p n t r k (by omega) (by omega)
theorem C_put_3 (B : Nat → Nat) (p n : Nat) (lq pl sp so se : Int32) (r : Nat → Int32) : C_put B p n lq pl sp so se r 3 = nI (n + 1) := z_up_s _ _ _
theorem C_put_t (B : Nat → Nat) (p n t : Nat) (lq pl sp so se : Int32) (r : Nat → Int32) (ht : t < 6) : C_put B p n lq pl sp so se r (12 + 13 * n + (7 + t)) = nI (B (p + t)) - 48 := by
  unfold C_put
  rw [z_up_o _ _ (by omega), C_vw_t B p n t _ 6 (by omega) ht]
theorem C_put_o (B : Nat → Nat) (p n : Nat) (lq pl sp so se : Int32) (r : Nat → Int32) (i : Nat) (h3 : i ≠ 3) (h : i < 12 + 13 * n ∨ 12 + 13 * n + 13 ≤ i) : C_put B p n lq pl sp so se r i = r i := by
  unfold C_put
  rw [z_up_o _ _ h3, C_vw_o B p n _ i 6 (by omega) (by omega), z_up_o _ _ (by omega), z_up_o _ _ (by omega), z_up_o _ _ (by omega), z_up_o _ _ (by omega), z_up_o _ _ (by omega), z_up_o _ _ (by omega), z_up_o _ _ (by omega)]
theorem C_put_f (B : Nat → Nat) (p n : Nat) (lq pl sp so se : Int32) (r : Nat → Int32) : C_put B p n lq pl sp so se r (12 + 13 * n) = lq ∧ C_put B p n lq pl sp so se r (12 + 13 * n + 1) = pl ∧ C_put B p n lq pl sp so se r (12 + 13 * n + 2) = sp ∧ C_put B p n lq pl sp so se r (12 + 13 * n + 3) = so ∧ C_put B p n lq pl sp so se r (12 + 13 * n + 4) = se ∧ C_put B p n lq pl sp so se r (12 + 13 * n + 5) = nI n ∧ C_put B p n lq pl sp so se r (12 + 13 * n + 6) = 0 := by
  unfold C_put
  refine ⟨?_, ?_, ?_, ?_, ?_, ?_, ?_⟩
  · rw [z_up_o _ _ (by omega), C_vw_o B p n _ _ 6 (by omega) (by omega), z_up_o _ _ (by omega), z_up_o _ _ (by omega), z_up_o _ _ (by omega), z_up_o _ _ (by omega), z_up_o _ _ (by omega), z_up_o _ _ (by omega)]; exact z_up_s _ _ _
  · rw [z_up_o _ _ (by omega), C_vw_o B p n _ _ 6 (by omega) (by omega), z_up_o _ _ (by omega), z_up_o _ _ (by omega), z_up_o _ _ (by omega), z_up_o _ _ (by omega), z_up_o _ _ (by omega)]; exact z_up_s _ _ _
  · rw [z_up_o _ _ (by omega), C_vw_o B p n _ _ 6 (by omega) (by omega), z_up_o _ _ (by omega), z_up_o _ _ (by omega), z_up_o _ _ (by omega), z_up_o _ _ (by omega)]; exact z_up_s _ _ _
  · rw [z_up_o _ _ (by omega), C_vw_o B p n _ _ 6 (by omega) (by omega), z_up_o _ _ (by omega), z_up_o _ _ (by omega), z_up_o _ _ (by omega)]; exact z_up_s _ _ _
  · rw [z_up_o _ _ (by omega), C_vw_o B p n _ _ 6 (by omega) (by omega), z_up_o _ _ (by omega), z_up_o _ _ (by omega)]; exact z_up_s _ _ _
  · rw [z_up_o _ _ (by omega), C_vw_o B p n _ _ 6 (by omega) (by omega), z_up_o _ _ (by omega)]; exact z_up_s _ _ _
  · rw [z_up_o _ _ (by omega), C_vw_o B p n _ _ 6 (by omega) (by omega)]; exact z_up_s _ _ _
