/-! ===== WHAT HOLDS AT THE LAW'S START ===== -/
def q_pth : List Bool → Cond → Cond
  | [], c => c
  | b :: p, .and x y => q_pth p (bif b then y else x)
  | _ :: _, c => c
theorem q_pth_of {args : Array Value} {s : State} : ∀ (p : List Bool) (c : Cond), c.before args s = true → (q_pth p c).before args s = true
  | [], _, h => h
  | b :: p, c, h => by
    cases c with
    | and x y =>
      rw [Cond.before_and, Bool.and_eq_true] at h
      cases b with
      | true => exact q_pth_of p y h.2
      | false => exact q_pth_of p x h.1
    | _ => exact h
theorem q_str1 {s : State} {args : Array Value} {own tx : String} {k n : Nat} {bytes : List Int32} {A : Nat → Prop} (hA : ∀ a : Nat, a < s.heap.size → ¬ A a) (hr : (Cond.stringRef own k tx).before args s = true) (h1 : (Cond.exactly (.string own k) "java/lang/String").before args s = true) (h2 : (Cond.eq (.field (.string own k) "java/lang/String" "coder" "B") (.int 0)).before args s = true)
    (h3 : (Cond.arrayOf (.field (.string own k) "java/lang/String" "value" "[B") .byte).before args s = true) (h4 : (Cond.eq (.length (.field (.string own k) "java/lang/String" "value" "[B")) (.int (Int32.ofNat n))).before args s = true) (hn : n < 2 ^ 31)
    (h5 : ∀ j : Nat, j < n → (Cond.eq (.elem (.field (.string own k) "java/lang/String" "value" "[B") (.int (Int32.ofNat j))) (.int (bytes.getD j 0))).before args s = true) :
    ∃ x : Nat × Nat, vk_R own k tx x.1 s ∧ va_O "java/lang/String" x.1 A s s.heap ∧ va_OF "java/lang/String" "coder" "B" (.int 0) x.1 A s s.heap ∧ va_OF "java/lang/String" "value" "[B" (.ref x.2) x.1 A s s.heap ∧ va_T .byte x.2 n (fun j => .int (bytes.getD j 0)) A s s.heap := by
  have hi0 : ∀ i : Nat, i < 1 → i = 0 := fun i h => by omega
  obtain ⟨adK, adV, hS, hE⟩ := vk_Sof (args := args) (s := s) (N := 1) (tm := fun _ => .string own k) (len := [n]) (byt := [bytes]) (A := A) (fun i h => by rw [hi0 i h]; exact hn) (fun _ _ => h1) (fun _ _ => h2) (fun _ _ => h3) (fun i h => by rw [hi0 i h]; exact h4) (fun i h j hj => by rw [hi0 i h] at hj ⊢; exact h5 j hj) (fun i j hi hj hij => absurd ((hi0 i hi).trans (hi0 j hj).symm) hij) hA
  obtain ⟨a1, a2, a3, a4⟩ := hS.1 0 (by decide)
  exact ⟨(adK 0, adV 0), vk_R.of hr (hE 0 (by decide)), a1, a2, a3, a4⟩
section Start
variable {s : State} {b : Nat} {A : Nat → Prop}
theorem st_0 (hts : ∀ w ∈ lw_tbl, w.before #[Value.ref b] s = true) (hgv : (Jvm.Cond.and given_1 narrow_1).before #[Value.ref b] s = true) (hA : ∀ a : Nat, a < s.heap.size → ¬ A a) : ∃ x : Nat × Nat, vk_R "JarCabinet" 151 "a wrong text of the cabinet" x.1 s ∧ va_O "java/lang/String" x.1 A s s.heap ∧ va_OF "java/lang/String" "coder" "B" (.int 0) x.1 A s s.heap ∧ va_OF "java/lang/String" "value" "[B" (.ref x.2) x.1 A s s.heap ∧ va_T .byte x.2 27 (fun j => .int (([97, 32, 119, 114, 111, 110, 103, 32, 116, 101, 120, 116, 32, 111, 102, 32, 116, 104, 101, 32, 99, 97, 98, 105, 110, 101, 116] : List Int32).getD j 0)) A s s.heap := by
  refine q_str1 (bytes := [97, 32, 119, 114, 111, 110, 103, 32, 116, 101, 120, 116, 32, 111, 102, 32, 116, 104, 101, 32, 99, 97, 98, 105, 110, 101, 116]) hA (hts _ (q_lk_mem in_5 19 rfl)) (q_pth_of [true, false, false, true, true, true, false, true, false, false, false] _ hgv) (q_pth_of [true, false, false, true, true, true, false, true, false, false, true] _ hgv) (q_pth_of [true, false, false, true, true, true, false, true, false, true, false] _ hgv) (q_pth_of [true, false, false, true, true, true, false, true, false, true, true] _ hgv) (by decide) (fun j hj => ?_)
  match j, hj with
    | 0, _ => exact (q_pth_of [true, false, false, true, true, true, false, true, true, false, false] _ hgv)
    | 1, _ => exact (q_pth_of [true, false, false, true, true, true, false, true, true, false, true] _ hgv)
    | 2, _ => exact (q_pth_of [true, false, false, true, true, true, false, true, true, true, false] _ hgv)
    | 3, _ => exact (q_pth_of [true, false, false, true, true, true, false, true, true, true, true] _ hgv)
    | 4, _ => exact (q_pth_of [true, false, false, true, true, true, true, false, false, false] _ hgv)
    | 5, _ => exact (q_pth_of [true, false, false, true, true, true, true, false, false, true, false] _ hgv)
    | 6, _ => exact (q_pth_of [true, false, false, true, true, true, true, false, false, true, true] _ hgv)
    | 7, _ => exact (q_pth_of [true, false, false, true, true, true, true, false, true, false, false] _ hgv)
    | 8, _ => exact (q_pth_of [true, false, false, true, true, true, true, false, true, false, true] _ hgv)
    | 9, _ => exact (q_pth_of [true, false, false, true, true, true, true, false, true, true, false] _ hgv)
    | 10, _ => exact (q_pth_of [true, false, false, true, true, true, true, false, true, true, true] _ hgv)
    | 11, _ => exact (q_pth_of [true, false, false, true, true, true, true, true, false, false, false] _ hgv)
    | 12, _ => exact (q_pth_of [true, false, false, true, true, true, true, true, false, false, true] _ hgv)
    | 13, _ => exact (q_pth_of [true, false, false, true, true, true, true, true, false, true, false] _ hgv)
    | 14, _ => exact (q_pth_of [true, false, false, true, true, true, true, true, false, true, true] _ hgv)
    | 15, _ => exact (q_pth_of [true, false, false, true, true, true, true, true, true, false, false] _ hgv)
    | 16, _ => exact (q_pth_of [true, false, false, true, true, true, true, true, true, false, true] _ hgv)
    | 17, _ => exact (q_pth_of [true, false, false, true, true, true, true, true, true, true, false] _ hgv)
    | 18, _ => exact (q_pth_of [true, false, false, true, true, true, true, true, true, true, true] _ hgv)
    | 19, _ => exact (q_pth_of [true, false, true, false, false, false, false, false, false, false] _ hgv)
    | 20, _ => exact (q_pth_of [true, false, true, false, false, false, false, false, false, true, false] _ hgv)
    | 21, _ => exact (q_pth_of [true, false, true, false, false, false, false, false, false, true, true] _ hgv)
    | 22, _ => exact (q_pth_of [true, false, true, false, false, false, false, false, true, false, false] _ hgv)
    | 23, _ => exact (q_pth_of [true, false, true, false, false, false, false, false, true, false, true] _ hgv)
    | 24, _ => exact (q_pth_of [true, false, true, false, false, false, false, false, true, true, false] _ hgv)
    | 25, _ => exact (q_pth_of [true, false, true, false, false, false, false, false, true, true, true] _ hgv)
    | 26, _ => exact (q_pth_of [true, false, true, false, false, false, false, true, false, false] _ hgv)
    | j + 27, h => exact absurd h (by omega)
theorem st_1 (hts : ∀ w ∈ lw_tbl, w.before #[Value.ref b] s = true) (hgv : (Jvm.Cond.and given_1 narrow_1).before #[Value.ref b] s = true) (hA : ∀ a : Nat, a < s.heap.size → ¬ A a) : ∃ x : Nat × Nat, vk_R "JarCabinet" 161 "no more texts of the cabinet" x.1 s ∧ va_O "java/lang/String" x.1 A s s.heap ∧ va_OF "java/lang/String" "coder" "B" (.int 0) x.1 A s s.heap ∧ va_OF "java/lang/String" "value" "[B" (.ref x.2) x.1 A s s.heap ∧ va_T .byte x.2 28 (fun j => .int (([110, 111, 32, 109, 111, 114, 101, 32, 116, 101, 120, 116, 115, 32, 111, 102, 32, 116, 104, 101, 32, 99, 97, 98, 105, 110, 101, 116] : List Int32).getD j 0)) A s s.heap := by
  refine q_str1 (bytes := [110, 111, 32, 109, 111, 114, 101, 32, 116, 101, 120, 116, 115, 32, 111, 102, 32, 116, 104, 101, 32, 99, 97, 98, 105, 110, 101, 116]) hA (hts _ (q_lk_mem in_5 54 rfl)) (q_pth_of [true, false, true, false, false, false, false, true, false, true, false] _ hgv) (q_pth_of [true, false, true, false, false, false, false, true, false, true, true] _ hgv) (q_pth_of [true, false, true, false, false, false, false, true, true, false, false] _ hgv) (q_pth_of [true, false, true, false, false, false, false, true, true, false, true] _ hgv) (by decide) (fun j hj => ?_)
  match j, hj with
    | 0, _ => exact (q_pth_of [true, false, true, false, false, false, false, true, true, true, false] _ hgv)
    | 1, _ => exact (q_pth_of [true, false, true, false, false, false, false, true, true, true, true] _ hgv)
    | 2, _ => exact (q_pth_of [true, false, true, false, false, false, true, false, false, false] _ hgv)
    | 3, _ => exact (q_pth_of [true, false, true, false, false, false, true, false, false, true, false] _ hgv)
    | 4, _ => exact (q_pth_of [true, false, true, false, false, false, true, false, false, true, true] _ hgv)
    | 5, _ => exact (q_pth_of [true, false, true, false, false, false, true, false, true, false, false] _ hgv)
    | 6, _ => exact (q_pth_of [true, false, true, false, false, false, true, false, true, false, true] _ hgv)
    | 7, _ => exact (q_pth_of [true, false, true, false, false, false, true, false, true, true, false] _ hgv)
    | 8, _ => exact (q_pth_of [true, false, true, false, false, false, true, false, true, true, true] _ hgv)
    | 9, _ => exact (q_pth_of [true, false, true, false, false, false, true, true, false, false, false] _ hgv)
    | 10, _ => exact (q_pth_of [true, false, true, false, false, false, true, true, false, false, true] _ hgv)
    | 11, _ => exact (q_pth_of [true, false, true, false, false, false, true, true, false, true, false] _ hgv)
    | 12, _ => exact (q_pth_of [true, false, true, false, false, false, true, true, false, true, true] _ hgv)
    | 13, _ => exact (q_pth_of [true, false, true, false, false, false, true, true, true, false, false] _ hgv)
    | 14, _ => exact (q_pth_of [true, false, true, false, false, false, true, true, true, false, true] _ hgv)
    | 15, _ => exact (q_pth_of [true, false, true, false, false, false, true, true, true, true, false] _ hgv)
    | 16, _ => exact (q_pth_of [true, false, true, false, false, false, true, true, true, true, true] _ hgv)
    | 17, _ => exact (q_pth_of [true, false, true, false, false, true, false, false, false, false] _ hgv)
    | 18, _ => exact (q_pth_of [true, false, true, false, false, true, false, false, false, true, false] _ hgv)
    | 19, _ => exact (q_pth_of [true, false, true, false, false, true, false, false, false, true, true] _ hgv)
    | 20, _ => exact (q_pth_of [true, false, true, false, false, true, false, false, true, false, false] _ hgv)
    | 21, _ => exact (q_pth_of [true, false, true, false, false, true, false, false, true, false, true] _ hgv)
    | 22, _ => exact (q_pth_of [true, false, true, false, false, true, false, false, true, true, false] _ hgv)
    | 23, _ => exact (q_pth_of [true, false, true, false, false, true, false, false, true, true, true] _ hgv)
    | 24, _ => exact (q_pth_of [true, false, true, false, false, true, false, true, false, false, false] _ hgv)
    | 25, _ => exact (q_pth_of [true, false, true, false, false, true, false, true, false, false, true] _ hgv)
    | 26, _ => exact (q_pth_of [true, false, true, false, false, true, false, true, false, true, false] _ hgv)
    | 27, _ => exact (q_pth_of [true, false, true, false, false, true, false, true, false, true, true] _ hgv)
    | j + 28, h => exact absurd h (by omega)
theorem st_2 (hts : ∀ w ∈ lw_tbl, w.before #[Value.ref b] s = true) (hgv : (Jvm.Cond.and given_1 narrow_1).before #[Value.ref b] s = true) (hA : ∀ a : Nat, a < s.heap.size → ¬ A a) : ∃ x : Nat × Nat, vk_R "JarCabinet" 168 "a wrong text of the law" x.1 s ∧ va_O "java/lang/String" x.1 A s s.heap ∧ va_OF "java/lang/String" "coder" "B" (.int 0) x.1 A s s.heap ∧ va_OF "java/lang/String" "value" "[B" (.ref x.2) x.1 A s s.heap ∧ va_T .byte x.2 23 (fun j => .int (([97, 32, 119, 114, 111, 110, 103, 32, 116, 101, 120, 116, 32, 111, 102, 32, 116, 104, 101, 32, 108, 97, 119] : List Int32).getD j 0)) A s s.heap := by
  refine q_str1 (bytes := [97, 32, 119, 114, 111, 110, 103, 32, 116, 101, 120, 116, 32, 111, 102, 32, 116, 104, 101, 32, 108, 97, 119]) hA (hts _ (q_lk_mem in_5 136 rfl)) (q_pth_of [true, false, true, true, false, true, false, true, true, false, false] _ hgv) (q_pth_of [true, false, true, true, false, true, false, true, true, false, true] _ hgv) (q_pth_of [true, false, true, true, false, true, false, true, true, true, false] _ hgv) (q_pth_of [true, false, true, true, false, true, false, true, true, true, true] _ hgv) (by decide) (fun j hj => ?_)
  match j, hj with
    | 0, _ => exact (q_pth_of [true, false, true, true, false, true, true, false, false, false] _ hgv)
    | 1, _ => exact (q_pth_of [true, false, true, true, false, true, true, false, false, true, false] _ hgv)
    | 2, _ => exact (q_pth_of [true, false, true, true, false, true, true, false, false, true, true] _ hgv)
    | 3, _ => exact (q_pth_of [true, false, true, true, false, true, true, false, true, false, false] _ hgv)
    | 4, _ => exact (q_pth_of [true, false, true, true, false, true, true, false, true, false, true] _ hgv)
    | 5, _ => exact (q_pth_of [true, false, true, true, false, true, true, false, true, true, false] _ hgv)
    | 6, _ => exact (q_pth_of [true, false, true, true, false, true, true, false, true, true, true] _ hgv)
    | 7, _ => exact (q_pth_of [true, false, true, true, false, true, true, true, false, false, false] _ hgv)
    | 8, _ => exact (q_pth_of [true, false, true, true, false, true, true, true, false, false, true] _ hgv)
    | 9, _ => exact (q_pth_of [true, false, true, true, false, true, true, true, false, true, false] _ hgv)
    | 10, _ => exact (q_pth_of [true, false, true, true, false, true, true, true, false, true, true] _ hgv)
    | 11, _ => exact (q_pth_of [true, false, true, true, false, true, true, true, true, false, false] _ hgv)
    | 12, _ => exact (q_pth_of [true, false, true, true, false, true, true, true, true, false, true] _ hgv)
    | 13, _ => exact (q_pth_of [true, false, true, true, false, true, true, true, true, true, false] _ hgv)
    | 14, _ => exact (q_pth_of [true, false, true, true, false, true, true, true, true, true, true] _ hgv)
    | 15, _ => exact (q_pth_of [true, false, true, true, true, false, false, false, false, false] _ hgv)
    | 16, _ => exact (q_pth_of [true, false, true, true, true, false, false, false, false, true, false] _ hgv)
    | 17, _ => exact (q_pth_of [true, false, true, true, true, false, false, false, false, true, true] _ hgv)
    | 18, _ => exact (q_pth_of [true, false, true, true, true, false, false, false, true, false, false] _ hgv)
    | 19, _ => exact (q_pth_of [true, false, true, true, true, false, false, false, true, false, true] _ hgv)
    | 20, _ => exact (q_pth_of [true, false, true, true, true, false, false, false, true, true, false] _ hgv)
    | 21, _ => exact (q_pth_of [true, false, true, true, true, false, false, false, true, true, true] _ hgv)
    | 22, _ => exact (q_pth_of [true, false, true, true, true, false, false, true, false, false, false] _ hgv)
    | j + 23, h => exact absurd h (by omega)
theorem st_3 (hts : ∀ w ∈ lw_tbl, w.before #[Value.ref b] s = true) (hgv : (Jvm.Cond.and given_1 narrow_1).before #[Value.ref b] s = true) (hA : ∀ a : Nat, a < s.heap.size → ¬ A a) : ∃ x : Nat × Nat, vk_R "JarCabinet" 214 "no such what of a jar" x.1 s ∧ va_O "java/lang/String" x.1 A s s.heap ∧ va_OF "java/lang/String" "coder" "B" (.int 0) x.1 A s s.heap ∧ va_OF "java/lang/String" "value" "[B" (.ref x.2) x.1 A s s.heap ∧ va_T .byte x.2 21 (fun j => .int (([110, 111, 32, 115, 117, 99, 104, 32, 119, 104, 97, 116, 32, 111, 102, 32, 97, 32, 106, 97, 114] : List Int32).getD j 0)) A s s.heap := by
  refine q_str1 (bytes := [110, 111, 32, 115, 117, 99, 104, 32, 119, 104, 97, 116, 32, 111, 102, 32, 97, 32, 106, 97, 114]) hA (hts _ (q_lk_mem in_5 193 rfl)) (q_pth_of [true, false, true, true, true, false, true, true, false, false, true] _ hgv) (q_pth_of [true, false, true, true, true, false, true, true, false, true, false] _ hgv) (q_pth_of [true, false, true, true, true, false, true, true, false, true, true] _ hgv) (q_pth_of [true, false, true, true, true, false, true, true, true, false, false] _ hgv) (by decide) (fun j hj => ?_)
  match j, hj with
    | 0, _ => exact (q_pth_of [true, false, true, true, true, false, true, true, true, false, true] _ hgv)
    | 1, _ => exact (q_pth_of [true, false, true, true, true, false, true, true, true, true, false] _ hgv)
    | 2, _ => exact (q_pth_of [true, false, true, true, true, false, true, true, true, true, true] _ hgv)
    | 3, _ => exact (q_pth_of [true, false, true, true, true, true, false, false, false, false] _ hgv)
    | 4, _ => exact (q_pth_of [true, false, true, true, true, true, false, false, false, true, false] _ hgv)
    | 5, _ => exact (q_pth_of [true, false, true, true, true, true, false, false, false, true, true] _ hgv)
    | 6, _ => exact (q_pth_of [true, false, true, true, true, true, false, false, true, false, false] _ hgv)
    | 7, _ => exact (q_pth_of [true, false, true, true, true, true, false, false, true, false, true] _ hgv)
    | 8, _ => exact (q_pth_of [true, false, true, true, true, true, false, false, true, true, false] _ hgv)
    | 9, _ => exact (q_pth_of [true, false, true, true, true, true, false, false, true, true, true] _ hgv)
    | 10, _ => exact (q_pth_of [true, false, true, true, true, true, false, true, false, false, false] _ hgv)
    | 11, _ => exact (q_pth_of [true, false, true, true, true, true, false, true, false, false, true] _ hgv)
    | 12, _ => exact (q_pth_of [true, false, true, true, true, true, false, true, false, true, false] _ hgv)
    | 13, _ => exact (q_pth_of [true, false, true, true, true, true, false, true, false, true, true] _ hgv)
    | 14, _ => exact (q_pth_of [true, false, true, true, true, true, false, true, true, false, false] _ hgv)
    | 15, _ => exact (q_pth_of [true, false, true, true, true, true, false, true, true, false, true] _ hgv)
    | 16, _ => exact (q_pth_of [true, false, true, true, true, true, false, true, true, true, false] _ hgv)
    | 17, _ => exact (q_pth_of [true, false, true, true, true, true, false, true, true, true, true] _ hgv)
    | 18, _ => exact (q_pth_of [true, false, true, true, true, true, true, false, false, false] _ hgv)
    | 19, _ => exact (q_pth_of [true, false, true, true, true, true, true, false, false, true, false] _ hgv)
    | 20, _ => exact (q_pth_of [true, false, true, true, true, true, true, false, false, true, true] _ hgv)
    | j + 21, h => exact absurd h (by omega)
theorem st_4 (hts : ∀ w ∈ lw_tbl, w.before #[Value.ref b] s = true) (hgv : (Jvm.Cond.and given_1 narrow_1).before #[Value.ref b] s = true) (hA : ∀ a : Nat, a < s.heap.size → ¬ A a) : ∃ x : Nat × Nat, vk_R "JarCabinet" 238 "no such need" x.1 s ∧ va_O "java/lang/String" x.1 A s s.heap ∧ va_OF "java/lang/String" "coder" "B" (.int 0) x.1 A s s.heap ∧ va_OF "java/lang/String" "value" "[B" (.ref x.2) x.1 A s s.heap ∧ va_T .byte x.2 12 (fun j => .int (([110, 111, 32, 115, 117, 99, 104, 32, 110, 101, 101, 100] : List Int32).getD j 0)) A s s.heap := by
  refine q_str1 (bytes := [110, 111, 32, 115, 117, 99, 104, 32, 110, 101, 101, 100]) hA (hts _ (q_lk_mem in_5 231 rfl)) (q_pth_of [true, true, false, false, false, false, true, true, false, true, false] _ hgv) (q_pth_of [true, true, false, false, false, false, true, true, false, true, true] _ hgv) (q_pth_of [true, true, false, false, false, false, true, true, true, false, false] _ hgv) (q_pth_of [true, true, false, false, false, false, true, true, true, false, true] _ hgv) (by decide) (fun j hj => ?_)
  match j, hj with
    | 0, _ => exact (q_pth_of [true, true, false, false, false, false, true, true, true, true, false] _ hgv)
    | 1, _ => exact (q_pth_of [true, true, false, false, false, false, true, true, true, true, true] _ hgv)
    | 2, _ => exact (q_pth_of [true, true, false, false, false, true, false, false, false, false] _ hgv)
    | 3, _ => exact (q_pth_of [true, true, false, false, false, true, false, false, false, true, false] _ hgv)
    | 4, _ => exact (q_pth_of [true, true, false, false, false, true, false, false, false, true, true] _ hgv)
    | 5, _ => exact (q_pth_of [true, true, false, false, false, true, false, false, true, false, false] _ hgv)
    | 6, _ => exact (q_pth_of [true, true, false, false, false, true, false, false, true, false, true] _ hgv)
    | 7, _ => exact (q_pth_of [true, true, false, false, false, true, false, false, true, true, false] _ hgv)
    | 8, _ => exact (q_pth_of [true, true, false, false, false, true, false, false, true, true, true] _ hgv)
    | 9, _ => exact (q_pth_of [true, true, false, false, false, true, false, true, false, false, false] _ hgv)
    | 10, _ => exact (q_pth_of [true, true, false, false, false, true, false, true, false, false, true] _ hgv)
    | 11, _ => exact (q_pth_of [true, true, false, false, false, true, false, true, false, true, false] _ hgv)
    | j + 12, h => exact absurd h (by omega)
theorem st_5 (hts : ∀ w ∈ lw_tbl, w.before #[Value.ref b] s = true) (hgv : (Jvm.Cond.and given_1 narrow_1).before #[Value.ref b] s = true) (hA : ∀ a : Nat, a < s.heap.size → ¬ A a) : ∃ x : Nat × Nat, vk_R "JarCabinet" 253 "no such what of a need" x.1 s ∧ va_O "java/lang/String" x.1 A s s.heap ∧ va_OF "java/lang/String" "coder" "B" (.int 0) x.1 A s s.heap ∧ va_OF "java/lang/String" "value" "[B" (.ref x.2) x.1 A s s.heap ∧ va_T .byte x.2 22 (fun j => .int (([110, 111, 32, 115, 117, 99, 104, 32, 119, 104, 97, 116, 32, 111, 102, 32, 97, 32, 110, 101, 101, 100] : List Int32).getD j 0)) A s s.heap := by
  refine q_str1 (bytes := [110, 111, 32, 115, 117, 99, 104, 32, 119, 104, 97, 116, 32, 111, 102, 32, 97, 32, 110, 101, 101, 100]) hA (hts _ (q_lk_mem in_5 236 rfl)) (q_pth_of [true, true, false, false, false, true, false, true, false, true, true] _ hgv) (q_pth_of [true, true, false, false, false, true, false, true, true, false, false] _ hgv) (q_pth_of [true, true, false, false, false, true, false, true, true, false, true] _ hgv) (q_pth_of [true, true, false, false, false, true, false, true, true, true, false] _ hgv) (by decide) (fun j hj => ?_)
  match j, hj with
    | 0, _ => exact (q_pth_of [true, true, false, false, false, true, false, true, true, true, true] _ hgv)
    | 1, _ => exact (q_pth_of [true, true, false, false, false, true, true, false, false, false] _ hgv)
    | 2, _ => exact (q_pth_of [true, true, false, false, false, true, true, false, false, true, false] _ hgv)
    | 3, _ => exact (q_pth_of [true, true, false, false, false, true, true, false, false, true, true] _ hgv)
    | 4, _ => exact (q_pth_of [true, true, false, false, false, true, true, false, true, false, false] _ hgv)
    | 5, _ => exact (q_pth_of [true, true, false, false, false, true, true, false, true, false, true] _ hgv)
    | 6, _ => exact (q_pth_of [true, true, false, false, false, true, true, false, true, true, false] _ hgv)
    | 7, _ => exact (q_pth_of [true, true, false, false, false, true, true, false, true, true, true] _ hgv)
    | 8, _ => exact (q_pth_of [true, true, false, false, false, true, true, true, false, false, false] _ hgv)
    | 9, _ => exact (q_pth_of [true, true, false, false, false, true, true, true, false, false, true] _ hgv)
    | 10, _ => exact (q_pth_of [true, true, false, false, false, true, true, true, false, true, false] _ hgv)
    | 11, _ => exact (q_pth_of [true, true, false, false, false, true, true, true, false, true, true] _ hgv)
    | 12, _ => exact (q_pth_of [true, true, false, false, false, true, true, true, true, false, false] _ hgv)
    | 13, _ => exact (q_pth_of [true, true, false, false, false, true, true, true, true, false, true] _ hgv)
    | 14, _ => exact (q_pth_of [true, true, false, false, false, true, true, true, true, true, false] _ hgv)
    | 15, _ => exact (q_pth_of [true, true, false, false, false, true, true, true, true, true, true] _ hgv)
    | 16, _ => exact (q_pth_of [true, true, false, false, true, false, false, false, false, false] _ hgv)
    | 17, _ => exact (q_pth_of [true, true, false, false, true, false, false, false, false, true, false] _ hgv)
    | 18, _ => exact (q_pth_of [true, true, false, false, true, false, false, false, false, true, true] _ hgv)
    | 19, _ => exact (q_pth_of [true, true, false, false, true, false, false, false, true, false, false] _ hgv)
    | 20, _ => exact (q_pth_of [true, true, false, false, true, false, false, false, true, false, true] _ hgv)
    | 21, _ => exact (q_pth_of [true, true, false, false, true, false, false, false, true, true, false] _ hgv)
    | j + 22, h => exact absurd h (by omega)
theorem st_6 (hts : ∀ w ∈ lw_tbl, w.before #[Value.ref b] s = true) (hgv : (Jvm.Cond.and given_1 narrow_1).before #[Value.ref b] s = true) (hA : ∀ a : Nat, a < s.heap.size → ¬ A a) : ∃ x : Nat × Nat, vk_R "JarCabinet" 285 "no such number of years" x.1 s ∧ va_O "java/lang/String" x.1 A s s.heap ∧ va_OF "java/lang/String" "coder" "B" (.int 0) x.1 A s s.heap ∧ va_OF "java/lang/String" "value" "[B" (.ref x.2) x.1 A s s.heap ∧ va_T .byte x.2 23 (fun j => .int (([110, 111, 32, 115, 117, 99, 104, 32, 110, 117, 109, 98, 101, 114, 32, 111, 102, 32, 121, 101, 97, 114, 115] : List Int32).getD j 0)) A s s.heap := by
  refine q_str1 (bytes := [110, 111, 32, 115, 117, 99, 104, 32, 110, 117, 109, 98, 101, 114, 32, 111, 102, 32, 121, 101, 97, 114, 115]) hA (hts _ (q_lk_mem in_6 88 rfl)) (q_pth_of [true, true, false, false, true, true, true, false, true, false, false] _ hgv) (q_pth_of [true, true, false, false, true, true, true, false, true, false, true] _ hgv) (q_pth_of [true, true, false, false, true, true, true, false, true, true, false] _ hgv) (q_pth_of [true, true, false, false, true, true, true, false, true, true, true] _ hgv) (by decide) (fun j hj => ?_)
  match j, hj with
    | 0, _ => exact (q_pth_of [true, true, false, false, true, true, true, true, false, false, false] _ hgv)
    | 1, _ => exact (q_pth_of [true, true, false, false, true, true, true, true, false, false, true] _ hgv)
    | 2, _ => exact (q_pth_of [true, true, false, false, true, true, true, true, false, true, false] _ hgv)
    | 3, _ => exact (q_pth_of [true, true, false, false, true, true, true, true, false, true, true] _ hgv)
    | 4, _ => exact (q_pth_of [true, true, false, false, true, true, true, true, true, false, false] _ hgv)
    | 5, _ => exact (q_pth_of [true, true, false, false, true, true, true, true, true, false, true] _ hgv)
    | 6, _ => exact (q_pth_of [true, true, false, false, true, true, true, true, true, true, false] _ hgv)
    | 7, _ => exact (q_pth_of [true, true, false, false, true, true, true, true, true, true, true] _ hgv)
    | 8, _ => exact (q_pth_of [true, true, false, true, false, false, false, false, false, false] _ hgv)
    | 9, _ => exact (q_pth_of [true, true, false, true, false, false, false, false, false, true, false] _ hgv)
    | 10, _ => exact (q_pth_of [true, true, false, true, false, false, false, false, false, true, true] _ hgv)
    | 11, _ => exact (q_pth_of [true, true, false, true, false, false, false, false, true, false, false] _ hgv)
    | 12, _ => exact (q_pth_of [true, true, false, true, false, false, false, false, true, false, true] _ hgv)
    | 13, _ => exact (q_pth_of [true, true, false, true, false, false, false, false, true, true, false] _ hgv)
    | 14, _ => exact (q_pth_of [true, true, false, true, false, false, false, false, true, true, true] _ hgv)
    | 15, _ => exact (q_pth_of [true, true, false, true, false, false, false, true, false, false] _ hgv)
    | 16, _ => exact (q_pth_of [true, true, false, true, false, false, false, true, false, true, false] _ hgv)
    | 17, _ => exact (q_pth_of [true, true, false, true, false, false, false, true, false, true, true] _ hgv)
    | 18, _ => exact (q_pth_of [true, true, false, true, false, false, false, true, true, false, false] _ hgv)
    | 19, _ => exact (q_pth_of [true, true, false, true, false, false, false, true, true, false, true] _ hgv)
    | 20, _ => exact (q_pth_of [true, true, false, true, false, false, false, true, true, true, false] _ hgv)
    | 21, _ => exact (q_pth_of [true, true, false, true, false, false, false, true, true, true, true] _ hgv)
    | 22, _ => exact (q_pth_of [true, true, false, true, false, false, true, false, false, false] _ hgv)
    | j + 23, h => exact absurd h (by omega)
theorem st_7 (hts : ∀ w ∈ lw_tbl, w.before #[Value.ref b] s = true) (hgv : (Jvm.Cond.and given_1 narrow_1).before #[Value.ref b] s = true) (hA : ∀ a : Nat, a < s.heap.size → ¬ A a) : ∃ x : Nat × Nat, vk_R "JarCabinet" 327 "the tape tells no tastes" x.1 s ∧ va_O "java/lang/String" x.1 A s s.heap ∧ va_OF "java/lang/String" "coder" "B" (.int 0) x.1 A s s.heap ∧ va_OF "java/lang/String" "value" "[B" (.ref x.2) x.1 A s s.heap ∧ va_T .byte x.2 24 (fun j => .int (([116, 104, 101, 32, 116, 97, 112, 101, 32, 116, 101, 108, 108, 115, 32, 110, 111, 32, 116, 97, 115, 116, 101, 115] : List Int32).getD j 0)) A s s.heap := by
  refine q_str1 (bytes := [116, 104, 101, 32, 116, 97, 112, 101, 32, 116, 101, 108, 108, 115, 32, 110, 111, 32, 116, 97, 115, 116, 101, 115]) hA (hts _ (q_lk_mem in_6 168 rfl)) (q_pth_of [true, true, false, true, false, true, false, false, true, false, true] _ hgv) (q_pth_of [true, true, false, true, false, true, false, false, true, true, false] _ hgv) (q_pth_of [true, true, false, true, false, true, false, false, true, true, true] _ hgv) (q_pth_of [true, true, false, true, false, true, false, true, false, false, false] _ hgv) (by decide) (fun j hj => ?_)
  match j, hj with
    | 0, _ => exact (q_pth_of [true, true, false, true, false, true, false, true, false, false, true] _ hgv)
    | 1, _ => exact (q_pth_of [true, true, false, true, false, true, false, true, false, true, false] _ hgv)
    | 2, _ => exact (q_pth_of [true, true, false, true, false, true, false, true, false, true, true] _ hgv)
    | 3, _ => exact (q_pth_of [true, true, false, true, false, true, false, true, true, false, false] _ hgv)
    | 4, _ => exact (q_pth_of [true, true, false, true, false, true, false, true, true, false, true] _ hgv)
    | 5, _ => exact (q_pth_of [true, true, false, true, false, true, false, true, true, true, false] _ hgv)
    | 6, _ => exact (q_pth_of [true, true, false, true, false, true, false, true, true, true, true] _ hgv)
    | 7, _ => exact (q_pth_of [true, true, false, true, false, true, true, false, false, false] _ hgv)
    | 8, _ => exact (q_pth_of [true, true, false, true, false, true, true, false, false, true, false] _ hgv)
    | 9, _ => exact (q_pth_of [true, true, false, true, false, true, true, false, false, true, true] _ hgv)
    | 10, _ => exact (q_pth_of [true, true, false, true, false, true, true, false, true, false, false] _ hgv)
    | 11, _ => exact (q_pth_of [true, true, false, true, false, true, true, false, true, false, true] _ hgv)
    | 12, _ => exact (q_pth_of [true, true, false, true, false, true, true, false, true, true, false] _ hgv)
    | 13, _ => exact (q_pth_of [true, true, false, true, false, true, true, false, true, true, true] _ hgv)
    | 14, _ => exact (q_pth_of [true, true, false, true, false, true, true, true, false, false, false] _ hgv)
    | 15, _ => exact (q_pth_of [true, true, false, true, false, true, true, true, false, false, true] _ hgv)
    | 16, _ => exact (q_pth_of [true, true, false, true, false, true, true, true, false, true, false] _ hgv)
    | 17, _ => exact (q_pth_of [true, true, false, true, false, true, true, true, false, true, true] _ hgv)
    | 18, _ => exact (q_pth_of [true, true, false, true, false, true, true, true, true, false, false] _ hgv)
    | 19, _ => exact (q_pth_of [true, true, false, true, false, true, true, true, true, false, true] _ hgv)
    | 20, _ => exact (q_pth_of [true, true, false, true, false, true, true, true, true, true, false] _ hgv)
    | 21, _ => exact (q_pth_of [true, true, false, true, false, true, true, true, true, true, true] _ hgv)
    | 22, _ => exact (q_pth_of [true, true, false, true, true, false, false, false, false, false] _ hgv)
    | 23, _ => exact (q_pth_of [true, true, false, true, true, false, false, false, false, true, false] _ hgv)
    | j + 24, h => exact absurd h (by omega)
theorem st_8 (hts : ∀ w ∈ lw_tbl, w.before #[Value.ref b] s = true) (hgv : (Jvm.Cond.and given_1 narrow_1).before #[Value.ref b] s = true) (hA : ∀ a : Nat, a < s.heap.size → ¬ A a) : ∃ x : Nat × Nat, vk_R "JarCabinet" 362 "no such what of a jar ahead" x.1 s ∧ va_O "java/lang/String" x.1 A s s.heap ∧ va_OF "java/lang/String" "coder" "B" (.int 0) x.1 A s s.heap ∧ va_OF "java/lang/String" "value" "[B" (.ref x.2) x.1 A s s.heap ∧ va_T .byte x.2 27 (fun j => .int (([110, 111, 32, 115, 117, 99, 104, 32, 119, 104, 97, 116, 32, 111, 102, 32, 97, 32, 106, 97, 114, 32, 97, 104, 101, 97, 100] : List Int32).getD j 0)) A s s.heap := by
  refine q_str1 (bytes := [110, 111, 32, 115, 117, 99, 104, 32, 119, 104, 97, 116, 32, 111, 102, 32, 97, 32, 106, 97, 114, 32, 97, 104, 101, 97, 100]) hA (hts _ (q_lk_mem in_7 11 rfl)) (q_pth_of [true, true, false, true, true, false, false, false, false, true, true] _ hgv) (q_pth_of [true, true, false, true, true, false, false, false, true, false, false] _ hgv) (q_pth_of [true, true, false, true, true, false, false, false, true, false, true] _ hgv) (q_pth_of [true, true, false, true, true, false, false, false, true, true, false] _ hgv) (by decide) (fun j hj => ?_)
  match j, hj with
    | 0, _ => exact (q_pth_of [true, true, false, true, true, false, false, false, true, true, true] _ hgv)
    | 1, _ => exact (q_pth_of [true, true, false, true, true, false, false, true, false, false, false] _ hgv)
    | 2, _ => exact (q_pth_of [true, true, false, true, true, false, false, true, false, false, true] _ hgv)
    | 3, _ => exact (q_pth_of [true, true, false, true, true, false, false, true, false, true, false] _ hgv)
    | 4, _ => exact (q_pth_of [true, true, false, true, true, false, false, true, false, true, true] _ hgv)
    | 5, _ => exact (q_pth_of [true, true, false, true, true, false, false, true, true, false, false] _ hgv)
    | 6, _ => exact (q_pth_of [true, true, false, true, true, false, false, true, true, false, true] _ hgv)
    | 7, _ => exact (q_pth_of [true, true, false, true, true, false, false, true, true, true, false] _ hgv)
    | 8, _ => exact (q_pth_of [true, true, false, true, true, false, false, true, true, true, true] _ hgv)
    | 9, _ => exact (q_pth_of [true, true, false, true, true, false, true, false, false, false] _ hgv)
    | 10, _ => exact (q_pth_of [true, true, false, true, true, false, true, false, false, true, false] _ hgv)
    | 11, _ => exact (q_pth_of [true, true, false, true, true, false, true, false, false, true, true] _ hgv)
    | 12, _ => exact (q_pth_of [true, true, false, true, true, false, true, false, true, false, false] _ hgv)
    | 13, _ => exact (q_pth_of [true, true, false, true, true, false, true, false, true, false, true] _ hgv)
    | 14, _ => exact (q_pth_of [true, true, false, true, true, false, true, false, true, true, false] _ hgv)
    | 15, _ => exact (q_pth_of [true, true, false, true, true, false, true, false, true, true, true] _ hgv)
    | 16, _ => exact (q_pth_of [true, true, false, true, true, false, true, true, false, false, false] _ hgv)
    | 17, _ => exact (q_pth_of [true, true, false, true, true, false, true, true, false, false, true] _ hgv)
    | 18, _ => exact (q_pth_of [true, true, false, true, true, false, true, true, false, true, false] _ hgv)
    | 19, _ => exact (q_pth_of [true, true, false, true, true, false, true, true, false, true, true] _ hgv)
    | 20, _ => exact (q_pth_of [true, true, false, true, true, false, true, true, true, false, false] _ hgv)
    | 21, _ => exact (q_pth_of [true, true, false, true, true, false, true, true, true, false, true] _ hgv)
    | 22, _ => exact (q_pth_of [true, true, false, true, true, false, true, true, true, true, false] _ hgv)
    | 23, _ => exact (q_pth_of [true, true, false, true, true, false, true, true, true, true, true] _ hgv)
    | 24, _ => exact (q_pth_of [true, true, false, true, true, true, false, false, false, false] _ hgv)
    | 25, _ => exact (q_pth_of [true, true, false, true, true, true, false, false, false, true, false] _ hgv)
    | 26, _ => exact (q_pth_of [true, true, false, true, true, true, false, false, false, true, true] _ hgv)
    | j + 27, h => exact absurd h (by omega)
theorem st_9 (hts : ∀ w ∈ lw_tbl, w.before #[Value.ref b] s = true) (hgv : (Jvm.Cond.and given_1 narrow_1).before #[Value.ref b] s = true) (hA : ∀ a : Nat, a < s.heap.size → ¬ A a) : ∃ x : Nat × Nat, vk_R "JarCabinet" 403 "no such what of a row" x.1 s ∧ va_O "java/lang/String" x.1 A s s.heap ∧ va_OF "java/lang/String" "coder" "B" (.int 0) x.1 A s s.heap ∧ va_OF "java/lang/String" "value" "[B" (.ref x.2) x.1 A s s.heap ∧ va_T .byte x.2 21 (fun j => .int (([110, 111, 32, 115, 117, 99, 104, 32, 119, 104, 97, 116, 32, 111, 102, 32, 97, 32, 114, 111, 119] : List Int32).getD j 0)) A s s.heap := by
  refine q_str1 (bytes := [110, 111, 32, 115, 117, 99, 104, 32, 119, 104, 97, 116, 32, 111, 102, 32, 97, 32, 114, 111, 119]) hA (hts _ (q_lk_mem in_7 131 rfl)) (q_pth_of [true, true, false, true, true, true, false, false, true, false, false] _ hgv) (q_pth_of [true, true, false, true, true, true, false, false, true, false, true] _ hgv) (q_pth_of [true, true, false, true, true, true, false, false, true, true, false] _ hgv) (q_pth_of [true, true, false, true, true, true, false, false, true, true, true] _ hgv) (by decide) (fun j hj => ?_)
  match j, hj with
    | 0, _ => exact (q_pth_of [true, true, false, true, true, true, false, true, false, false, false] _ hgv)
    | 1, _ => exact (q_pth_of [true, true, false, true, true, true, false, true, false, false, true] _ hgv)
    | 2, _ => exact (q_pth_of [true, true, false, true, true, true, false, true, false, true, false] _ hgv)
    | 3, _ => exact (q_pth_of [true, true, false, true, true, true, false, true, false, true, true] _ hgv)
    | 4, _ => exact (q_pth_of [true, true, false, true, true, true, false, true, true, false, false] _ hgv)
    | 5, _ => exact (q_pth_of [true, true, false, true, true, true, false, true, true, false, true] _ hgv)
    | 6, _ => exact (q_pth_of [true, true, false, true, true, true, false, true, true, true, false] _ hgv)
    | 7, _ => exact (q_pth_of [true, true, false, true, true, true, false, true, true, true, true] _ hgv)
    | 8, _ => exact (q_pth_of [true, true, false, true, true, true, true, false, false, false] _ hgv)
    | 9, _ => exact (q_pth_of [true, true, false, true, true, true, true, false, false, true, false] _ hgv)
    | 10, _ => exact (q_pth_of [true, true, false, true, true, true, true, false, false, true, true] _ hgv)
    | 11, _ => exact (q_pth_of [true, true, false, true, true, true, true, false, true, false, false] _ hgv)
    | 12, _ => exact (q_pth_of [true, true, false, true, true, true, true, false, true, false, true] _ hgv)
    | 13, _ => exact (q_pth_of [true, true, false, true, true, true, true, false, true, true, false] _ hgv)
    | 14, _ => exact (q_pth_of [true, true, false, true, true, true, true, false, true, true, true] _ hgv)
    | 15, _ => exact (q_pth_of [true, true, false, true, true, true, true, true, false, false, false] _ hgv)
    | 16, _ => exact (q_pth_of [true, true, false, true, true, true, true, true, false, false, true] _ hgv)
    | 17, _ => exact (q_pth_of [true, true, false, true, true, true, true, true, false, true, false] _ hgv)
    | 18, _ => exact (q_pth_of [true, true, false, true, true, true, true, true, false, true, true] _ hgv)
    | 19, _ => exact (q_pth_of [true, true, false, true, true, true, true, true, true, false, false] _ hgv)
    | 20, _ => exact (q_pth_of [true, true, false, true, true, true, true, true, true, false, true] _ hgv)
    | j + 21, h => exact absurd h (by omega)
theorem st_10 (hts : ∀ w ∈ lw_tbl, w.before #[Value.ref b] s = true) (hgv : (Jvm.Cond.and given_1 narrow_1).before #[Value.ref b] s = true) (hA : ∀ a : Nat, a < s.heap.size → ¬ A a) : ∃ x : Nat × Nat, vk_R "JarCabinet" 445 "no such jar" x.1 s ∧ va_O "java/lang/String" x.1 A s s.heap ∧ va_OF "java/lang/String" "coder" "B" (.int 0) x.1 A s s.heap ∧ va_OF "java/lang/String" "value" "[B" (.ref x.2) x.1 A s s.heap ∧ va_T .byte x.2 11 (fun j => .int (([110, 111, 32, 115, 117, 99, 104, 32, 106, 97, 114] : List Int32).getD j 0)) A s s.heap := by
  refine q_str1 (bytes := [110, 111, 32, 115, 117, 99, 104, 32, 106, 97, 114]) hA (hts _ (q_lk_mem in_5 163 rfl)) (q_pth_of [true, false, true, true, true, false, false, true, false, false, true] _ hgv) (q_pth_of [true, false, true, true, true, false, false, true, false, true, false] _ hgv) (q_pth_of [true, false, true, true, true, false, false, true, false, true, true] _ hgv) (q_pth_of [true, false, true, true, true, false, false, true, true, false, false] _ hgv) (by decide) (fun j hj => ?_)
  match j, hj with
    | 0, _ => exact (q_pth_of [true, false, true, true, true, false, false, true, true, false, true] _ hgv)
    | 1, _ => exact (q_pth_of [true, false, true, true, true, false, false, true, true, true, false] _ hgv)
    | 2, _ => exact (q_pth_of [true, false, true, true, true, false, false, true, true, true, true] _ hgv)
    | 3, _ => exact (q_pth_of [true, false, true, true, true, false, true, false, false, false] _ hgv)
    | 4, _ => exact (q_pth_of [true, false, true, true, true, false, true, false, false, true, false] _ hgv)
    | 5, _ => exact (q_pth_of [true, false, true, true, true, false, true, false, false, true, true] _ hgv)
    | 6, _ => exact (q_pth_of [true, false, true, true, true, false, true, false, true, false, false] _ hgv)
    | 7, _ => exact (q_pth_of [true, false, true, true, true, false, true, false, true, false, true] _ hgv)
    | 8, _ => exact (q_pth_of [true, false, true, true, true, false, true, false, true, true, false] _ hgv)
    | 9, _ => exact (q_pth_of [true, false, true, true, true, false, true, false, true, true, true] _ hgv)
    | 10, _ => exact (q_pth_of [true, false, true, true, true, false, true, true, false, false, false] _ hgv)
    | j + 11, h => exact absurd h (by omega)
theorem st_11 (hts : ∀ w ∈ lw_tbl, w.before #[Value.ref b] s = true) (hgv : (Jvm.Cond.and given_1 narrow_1).before #[Value.ref b] s = true) (hA : ∀ a : Nat, a < s.heap.size → ¬ A a) : ∃ x : Nat × Nat, vk_R "JarCabinet" 447 "no such matter" x.1 s ∧ va_O "java/lang/String" x.1 A s s.heap ∧ va_OF "java/lang/String" "coder" "B" (.int 0) x.1 A s s.heap ∧ va_OF "java/lang/String" "value" "[B" (.ref x.2) x.1 A s s.heap ∧ va_T .byte x.2 14 (fun j => .int (([110, 111, 32, 115, 117, 99, 104, 32, 109, 97, 116, 116, 101, 114] : List Int32).getD j 0)) A s s.heap := by
  refine q_str1 (bytes := [110, 111, 32, 115, 117, 99, 104, 32, 109, 97, 116, 116, 101, 114]) hA (hts _ (q_lk_mem in_5 210 rfl)) (q_pth_of [true, false, true, true, true, true, true, false, true, false, false] _ hgv) (q_pth_of [true, false, true, true, true, true, true, false, true, false, true] _ hgv) (q_pth_of [true, false, true, true, true, true, true, false, true, true, false] _ hgv) (q_pth_of [true, false, true, true, true, true, true, false, true, true, true] _ hgv) (by decide) (fun j hj => ?_)
  match j, hj with
    | 0, _ => exact (q_pth_of [true, false, true, true, true, true, true, true, false, false, false] _ hgv)
    | 1, _ => exact (q_pth_of [true, false, true, true, true, true, true, true, false, false, true] _ hgv)
    | 2, _ => exact (q_pth_of [true, false, true, true, true, true, true, true, false, true, false] _ hgv)
    | 3, _ => exact (q_pth_of [true, false, true, true, true, true, true, true, false, true, true] _ hgv)
    | 4, _ => exact (q_pth_of [true, false, true, true, true, true, true, true, true, false, false] _ hgv)
    | 5, _ => exact (q_pth_of [true, false, true, true, true, true, true, true, true, false, true] _ hgv)
    | 6, _ => exact (q_pth_of [true, false, true, true, true, true, true, true, true, true, false] _ hgv)
    | 7, _ => exact (q_pth_of [true, false, true, true, true, true, true, true, true, true, true] _ hgv)
    | 8, _ => exact (q_pth_of [true, true, false, false, false, false, false, false, false, false] _ hgv)
    | 9, _ => exact (q_pth_of [true, true, false, false, false, false, false, false, false, true, false] _ hgv)
    | 10, _ => exact (q_pth_of [true, true, false, false, false, false, false, false, false, true, true] _ hgv)
    | 11, _ => exact (q_pth_of [true, true, false, false, false, false, false, false, true, false, false] _ hgv)
    | 12, _ => exact (q_pth_of [true, true, false, false, false, false, false, false, true, false, true] _ hgv)
    | 13, _ => exact (q_pth_of [true, true, false, false, false, false, false, false, true, true, false] _ hgv)
    | j + 14, h => exact absurd h (by omega)
theorem st_12 (hts : ∀ w ∈ lw_tbl, w.before #[Value.ref b] s = true) (hgv : (Jvm.Cond.and given_1 narrow_1).before #[Value.ref b] s = true) (hA : ∀ a : Nat, a < s.heap.size → ¬ A a) : ∃ x : Nat × Nat, vk_R "JarCabinet" 449 "no such place" x.1 s ∧ va_O "java/lang/String" x.1 A s s.heap ∧ va_OF "java/lang/String" "coder" "B" (.int 0) x.1 A s s.heap ∧ va_OF "java/lang/String" "value" "[B" (.ref x.2) x.1 A s s.heap ∧ va_T .byte x.2 13 (fun j => .int (([110, 111, 32, 115, 117, 99, 104, 32, 112, 108, 97, 99, 101] : List Int32).getD j 0)) A s s.heap := by
  refine q_str1 (bytes := [110, 111, 32, 115, 117, 99, 104, 32, 112, 108, 97, 99, 101]) hA (hts _ (q_lk_mem in_5 223 rfl)) (q_pth_of [true, true, false, false, false, false, false, false, true, true, true] _ hgv) (q_pth_of [true, true, false, false, false, false, false, true, false, false] _ hgv) (q_pth_of [true, true, false, false, false, false, false, true, false, true, false] _ hgv) (q_pth_of [true, true, false, false, false, false, false, true, false, true, true] _ hgv) (by decide) (fun j hj => ?_)
  match j, hj with
    | 0, _ => exact (q_pth_of [true, true, false, false, false, false, false, true, true, false, false] _ hgv)
    | 1, _ => exact (q_pth_of [true, true, false, false, false, false, false, true, true, false, true] _ hgv)
    | 2, _ => exact (q_pth_of [true, true, false, false, false, false, false, true, true, true, false] _ hgv)
    | 3, _ => exact (q_pth_of [true, true, false, false, false, false, false, true, true, true, true] _ hgv)
    | 4, _ => exact (q_pth_of [true, true, false, false, false, false, true, false, false, false] _ hgv)
    | 5, _ => exact (q_pth_of [true, true, false, false, false, false, true, false, false, true, false] _ hgv)
    | 6, _ => exact (q_pth_of [true, true, false, false, false, false, true, false, false, true, true] _ hgv)
    | 7, _ => exact (q_pth_of [true, true, false, false, false, false, true, false, true, false, false] _ hgv)
    | 8, _ => exact (q_pth_of [true, true, false, false, false, false, true, false, true, false, true] _ hgv)
    | 9, _ => exact (q_pth_of [true, true, false, false, false, false, true, false, true, true, false] _ hgv)
    | 10, _ => exact (q_pth_of [true, true, false, false, false, false, true, false, true, true, true] _ hgv)
    | 11, _ => exact (q_pth_of [true, true, false, false, false, false, true, true, false, false, false] _ hgv)
    | 12, _ => exact (q_pth_of [true, true, false, false, false, false, true, true, false, false, true] _ hgv)
    | j + 13, h => exact absurd h (by omega)
theorem st_13 (hts : ∀ w ∈ lw_tbl, w.before #[Value.ref b] s = true) (hgv : (Jvm.Cond.and given_1 narrow_1).before #[Value.ref b] s = true) (hA : ∀ a : Nat, a < s.heap.size → ¬ A a) : ∃ x : Nat × Nat, vk_R "JarCabinet" 451 "no such number" x.1 s ∧ va_O "java/lang/String" x.1 A s s.heap ∧ va_OF "java/lang/String" "coder" "B" (.int 0) x.1 A s s.heap ∧ va_OF "java/lang/String" "value" "[B" (.ref x.2) x.1 A s s.heap ∧ va_T .byte x.2 14 (fun j => .int (([110, 111, 32, 115, 117, 99, 104, 32, 110, 117, 109, 98, 101, 114] : List Int32).getD j 0)) A s s.heap := by
  refine q_str1 (bytes := [110, 111, 32, 115, 117, 99, 104, 32, 110, 117, 109, 98, 101, 114]) hA (hts _ (q_lk_mem in_6 124 rfl)) (q_pth_of [true, true, false, true, false, false, true, false, false, true, false] _ hgv) (q_pth_of [true, true, false, true, false, false, true, false, false, true, true] _ hgv) (q_pth_of [true, true, false, true, false, false, true, false, true, false, false] _ hgv) (q_pth_of [true, true, false, true, false, false, true, false, true, false, true] _ hgv) (by decide) (fun j hj => ?_)
  match j, hj with
    | 0, _ => exact (q_pth_of [true, true, false, true, false, false, true, false, true, true, false] _ hgv)
    | 1, _ => exact (q_pth_of [true, true, false, true, false, false, true, false, true, true, true] _ hgv)
    | 2, _ => exact (q_pth_of [true, true, false, true, false, false, true, true, false, false, false] _ hgv)
    | 3, _ => exact (q_pth_of [true, true, false, true, false, false, true, true, false, false, true] _ hgv)
    | 4, _ => exact (q_pth_of [true, true, false, true, false, false, true, true, false, true, false] _ hgv)
    | 5, _ => exact (q_pth_of [true, true, false, true, false, false, true, true, false, true, true] _ hgv)
    | 6, _ => exact (q_pth_of [true, true, false, true, false, false, true, true, true, false, false] _ hgv)
    | 7, _ => exact (q_pth_of [true, true, false, true, false, false, true, true, true, false, true] _ hgv)
    | 8, _ => exact (q_pth_of [true, true, false, true, false, false, true, true, true, true, false] _ hgv)
    | 9, _ => exact (q_pth_of [true, true, false, true, false, false, true, true, true, true, true] _ hgv)
    | 10, _ => exact (q_pth_of [true, true, false, true, false, true, false, false, false, false] _ hgv)
    | 11, _ => exact (q_pth_of [true, true, false, true, false, true, false, false, false, true, false] _ hgv)
    | 12, _ => exact (q_pth_of [true, true, false, true, false, true, false, false, false, true, true] _ hgv)
    | 13, _ => exact (q_pth_of [true, true, false, true, false, true, false, false, true, false, false] _ hgv)
    | j + 14, h => exact absurd h (by omega)
theorem st_14 (hts : ∀ w ∈ lw_tbl, w.before #[Value.ref b] s = true) (hgv : (Jvm.Cond.and given_1 narrow_1).before #[Value.ref b] s = true) (hA : ∀ a : Nat, a < s.heap.size → ¬ A a) : ∃ x : Nat × Nat, vk_R "JarCabinet" 453 "both jars are one" x.1 s ∧ va_O "java/lang/String" x.1 A s s.heap ∧ va_OF "java/lang/String" "coder" "B" (.int 0) x.1 A s s.heap ∧ va_OF "java/lang/String" "value" "[B" (.ref x.2) x.1 A s s.heap ∧ va_T .byte x.2 17 (fun j => .int (([98, 111, 116, 104, 32, 106, 97, 114, 115, 32, 97, 114, 101, 32, 111, 110, 101] : List Int32).getD j 0)) A s s.heap := by
  refine q_str1 (bytes := [98, 111, 116, 104, 32, 106, 97, 114, 115, 32, 97, 114, 101, 32, 111, 110, 101]) hA (hts _ (q_lk_mem in_6 50 rfl)) (q_pth_of [true, true, false, false, true, false, true, true, true, false, true] _ hgv) (q_pth_of [true, true, false, false, true, false, true, true, true, true, false] _ hgv) (q_pth_of [true, true, false, false, true, false, true, true, true, true, true] _ hgv) (q_pth_of [true, true, false, false, true, true, false, false, false, false] _ hgv) (by decide) (fun j hj => ?_)
  match j, hj with
    | 0, _ => exact (q_pth_of [true, true, false, false, true, true, false, false, false, true, false] _ hgv)
    | 1, _ => exact (q_pth_of [true, true, false, false, true, true, false, false, false, true, true] _ hgv)
    | 2, _ => exact (q_pth_of [true, true, false, false, true, true, false, false, true, false, false] _ hgv)
    | 3, _ => exact (q_pth_of [true, true, false, false, true, true, false, false, true, false, true] _ hgv)
    | 4, _ => exact (q_pth_of [true, true, false, false, true, true, false, false, true, true, false] _ hgv)
    | 5, _ => exact (q_pth_of [true, true, false, false, true, true, false, false, true, true, true] _ hgv)
    | 6, _ => exact (q_pth_of [true, true, false, false, true, true, false, true, false, false, false] _ hgv)
    | 7, _ => exact (q_pth_of [true, true, false, false, true, true, false, true, false, false, true] _ hgv)
    | 8, _ => exact (q_pth_of [true, true, false, false, true, true, false, true, false, true, false] _ hgv)
    | 9, _ => exact (q_pth_of [true, true, false, false, true, true, false, true, false, true, true] _ hgv)
    | 10, _ => exact (q_pth_of [true, true, false, false, true, true, false, true, true, false, false] _ hgv)
    | 11, _ => exact (q_pth_of [true, true, false, false, true, true, false, true, true, false, true] _ hgv)
    | 12, _ => exact (q_pth_of [true, true, false, false, true, true, false, true, true, true, false] _ hgv)
    | 13, _ => exact (q_pth_of [true, true, false, false, true, true, false, true, true, true, true] _ hgv)
    | 14, _ => exact (q_pth_of [true, true, false, false, true, true, true, false, false, false] _ hgv)
    | 15, _ => exact (q_pth_of [true, true, false, false, true, true, true, false, false, true, false] _ hgv)
    | 16, _ => exact (q_pth_of [true, true, false, false, true, true, true, false, false, true, true] _ hgv)
    | j + 17, h => exact absurd h (by omega)
theorem st_15 (hts : ∀ w ∈ lw_tbl, w.before #[Value.ref b] s = true) (hgv : (Jvm.Cond.and given_1 narrow_1).before #[Value.ref b] s = true) (hA : ∀ a : Nat, a < s.heap.size → ¬ A a) : ∃ x : Nat × Nat, vk_R "JarCabinet" 457 "no spoon is left" x.1 s ∧ va_O "java/lang/String" x.1 A s s.heap ∧ va_OF "java/lang/String" "coder" "B" (.int 0) x.1 A s s.heap ∧ va_OF "java/lang/String" "value" "[B" (.ref x.2) x.1 A s s.heap ∧ va_T .byte x.2 16 (fun j => .int (([110, 111, 32, 115, 112, 111, 111, 110, 32, 105, 115, 32, 108, 101, 102, 116] : List Int32).getD j 0)) A s s.heap := by
  refine q_str1 (bytes := [110, 111, 32, 115, 112, 111, 111, 110, 32, 105, 115, 32, 108, 101, 102, 116]) hA (hts _ (q_lk_mem in_6 18 rfl)) (q_pth_of [true, true, false, false, true, false, false, false, true, true, true] _ hgv) (q_pth_of [true, true, false, false, true, false, false, true, false, false] _ hgv) (q_pth_of [true, true, false, false, true, false, false, true, false, true, false] _ hgv) (q_pth_of [true, true, false, false, true, false, false, true, false, true, true] _ hgv) (by decide) (fun j hj => ?_)
  match j, hj with
    | 0, _ => exact (q_pth_of [true, true, false, false, true, false, false, true, true, false, false] _ hgv)
    | 1, _ => exact (q_pth_of [true, true, false, false, true, false, false, true, true, false, true] _ hgv)
    | 2, _ => exact (q_pth_of [true, true, false, false, true, false, false, true, true, true, false] _ hgv)
    | 3, _ => exact (q_pth_of [true, true, false, false, true, false, false, true, true, true, true] _ hgv)
    | 4, _ => exact (q_pth_of [true, true, false, false, true, false, true, false, false, false] _ hgv)
    | 5, _ => exact (q_pth_of [true, true, false, false, true, false, true, false, false, true, false] _ hgv)
    | 6, _ => exact (q_pth_of [true, true, false, false, true, false, true, false, false, true, true] _ hgv)
    | 7, _ => exact (q_pth_of [true, true, false, false, true, false, true, false, true, false, false] _ hgv)
    | 8, _ => exact (q_pth_of [true, true, false, false, true, false, true, false, true, false, true] _ hgv)
    | 9, _ => exact (q_pth_of [true, true, false, false, true, false, true, false, true, true, false] _ hgv)
    | 10, _ => exact (q_pth_of [true, true, false, false, true, false, true, false, true, true, true] _ hgv)
    | 11, _ => exact (q_pth_of [true, true, false, false, true, false, true, true, false, false, false] _ hgv)
    | 12, _ => exact (q_pth_of [true, true, false, false, true, false, true, true, false, false, true] _ hgv)
    | 13, _ => exact (q_pth_of [true, true, false, false, true, false, true, true, false, true, false] _ hgv)
    | 14, _ => exact (q_pth_of [true, true, false, false, true, false, true, true, false, true, true] _ hgv)
    | 15, _ => exact (q_pth_of [true, true, false, false, true, false, true, true, true, false, false] _ hgv)
    | j + 16, h => exact absurd h (by omega)
theorem st_16 (hts : ∀ w ∈ lw_tbl, w.before #[Value.ref b] s = true) (hgv : (Jvm.Cond.and given_1 narrow_1).before #[Value.ref b] s = true) (hA : ∀ a : Nat, a < s.heap.size → ¬ A a) : ∃ x : Nat × Nat, vk_R "JarCabinet$CabinetReader" 39 "jar" x.1 s ∧ va_O "java/lang/String" x.1 A s s.heap ∧ va_OF "java/lang/String" "coder" "B" (.int 0) x.1 A s s.heap ∧ va_OF "java/lang/String" "value" "[B" (.ref x.2) x.1 A s s.heap ∧ va_T .byte x.2 3 (fun j => .int (([106, 97, 114] : List Int32).getD j 0)) A s s.heap := by
  refine q_str1 (bytes := [106, 97, 114]) hA (hts _ (q_lk_mem in_4 62 rfl)) (q_pth_of [true, false, false, false, true, true, false, false, true, true, true] _ hgv) (q_pth_of [true, false, false, false, true, true, false, true, false, false, false] _ hgv) (q_pth_of [true, false, false, false, true, true, false, true, false, false, true] _ hgv) (q_pth_of [true, false, false, false, true, true, false, true, false, true, false] _ hgv) (by decide) (fun j hj => ?_)
  match j, hj with
    | 0, _ => exact (q_pth_of [true, false, false, false, true, true, false, true, false, true, true] _ hgv)
    | 1, _ => exact (q_pth_of [true, false, false, false, true, true, false, true, true, false, false] _ hgv)
    | 2, _ => exact (q_pth_of [true, false, false, false, true, true, false, true, true, false, true] _ hgv)
    | j + 3, h => exact absurd h (by omega)
theorem st_17 (hts : ∀ w ∈ lw_tbl, w.before #[Value.ref b] s = true) (hgv : (Jvm.Cond.and given_1 narrow_1).before #[Value.ref b] s = true) (hA : ∀ a : Nat, a < s.heap.size → ¬ A a) : ∃ x : Nat × Nat, vk_R "JarCabinet$CabinetReader" 54 "need" x.1 s ∧ va_O "java/lang/String" x.1 A s s.heap ∧ va_OF "java/lang/String" "coder" "B" (.int 0) x.1 A s s.heap ∧ va_OF "java/lang/String" "value" "[B" (.ref x.2) x.1 A s s.heap ∧ va_T .byte x.2 4 (fun j => .int (([110, 101, 101, 100] : List Int32).getD j 0)) A s s.heap := by
  refine q_str1 (bytes := [110, 101, 101, 100]) hA (hts _ (q_lk_mem in_4 183 rfl)) (q_pth_of [true, false, false, true, false, true, true, true, false, true, false] _ hgv) (q_pth_of [true, false, false, true, false, true, true, true, false, true, true] _ hgv) (q_pth_of [true, false, false, true, false, true, true, true, true, false, false] _ hgv) (q_pth_of [true, false, false, true, false, true, true, true, true, false, true] _ hgv) (by decide) (fun j hj => ?_)
  match j, hj with
    | 0, _ => exact (q_pth_of [true, false, false, true, false, true, true, true, true, true, false] _ hgv)
    | 1, _ => exact (q_pth_of [true, false, false, true, false, true, true, true, true, true, true] _ hgv)
    | 2, _ => exact (q_pth_of [true, false, false, true, true, false, false, false, false, false] _ hgv)
    | 3, _ => exact (q_pth_of [true, false, false, true, true, false, false, false, false, true, false] _ hgv)
    | j + 4, h => exact absurd h (by omega)
theorem st_18 (hts : ∀ w ∈ lw_tbl, w.before #[Value.ref b] s = true) (hgv : (Jvm.Cond.and given_1 narrow_1).before #[Value.ref b] s = true) (hA : ∀ a : Nat, a < s.heap.size → ¬ A a) : ∃ x : Nat × Nat, vk_R "JarCabinet$CabinetReader" 62 "light" x.1 s ∧ va_O "java/lang/String" x.1 A s s.heap ∧ va_OF "java/lang/String" "coder" "B" (.int 0) x.1 A s s.heap ∧ va_OF "java/lang/String" "value" "[B" (.ref x.2) x.1 A s s.heap ∧ va_T .byte x.2 5 (fun j => .int (([108, 105, 103, 104, 116] : List Int32).getD j 0)) A s s.heap := by
  refine q_str1 (bytes := [108, 105, 103, 104, 116]) hA (hts _ (q_lk_mem in_4 188 rfl)) (q_pth_of [true, false, false, true, true, false, false, false, false, true, true] _ hgv) (q_pth_of [true, false, false, true, true, false, false, false, true, false, false] _ hgv) (q_pth_of [true, false, false, true, true, false, false, false, true, false, true] _ hgv) (q_pth_of [true, false, false, true, true, false, false, false, true, true, false] _ hgv) (by decide) (fun j hj => ?_)
  match j, hj with
    | 0, _ => exact (q_pth_of [true, false, false, true, true, false, false, false, true, true, true] _ hgv)
    | 1, _ => exact (q_pth_of [true, false, false, true, true, false, false, true, false, false, false] _ hgv)
    | 2, _ => exact (q_pth_of [true, false, false, true, true, false, false, true, false, false, true] _ hgv)
    | 3, _ => exact (q_pth_of [true, false, false, true, true, false, false, true, false, true, false] _ hgv)
    | 4, _ => exact (q_pth_of [true, false, false, true, true, false, false, true, false, true, true] _ hgv)
    | j + 5, h => exact absurd h (by omega)
theorem st_19 (hts : ∀ w ∈ lw_tbl, w.before #[Value.ref b] s = true) (hgv : (Jvm.Cond.and given_1 narrow_1).before #[Value.ref b] s = true) (hA : ∀ a : Nat, a < s.heap.size → ¬ A a) : ∃ x : Nat × Nat, vk_R "JarCabinet$CabinetReader" 70 "quota" x.1 s ∧ va_O "java/lang/String" x.1 A s s.heap ∧ va_OF "java/lang/String" "coder" "B" (.int 0) x.1 A s s.heap ∧ va_OF "java/lang/String" "value" "[B" (.ref x.2) x.1 A s s.heap ∧ va_T .byte x.2 5 (fun j => .int (([113, 117, 111, 116, 97] : List Int32).getD j 0)) A s s.heap := by
  refine q_str1 (bytes := [113, 117, 111, 116, 97]) hA (hts _ (q_lk_mem in_4 193 rfl)) (q_pth_of [true, false, false, true, true, false, false, true, true, false, false] _ hgv) (q_pth_of [true, false, false, true, true, false, false, true, true, false, true] _ hgv) (q_pth_of [true, false, false, true, true, false, false, true, true, true, false] _ hgv) (q_pth_of [true, false, false, true, true, false, false, true, true, true, true] _ hgv) (by decide) (fun j hj => ?_)
  match j, hj with
    | 0, _ => exact (q_pth_of [true, false, false, true, true, false, true, false, false, false] _ hgv)
    | 1, _ => exact (q_pth_of [true, false, false, true, true, false, true, false, false, true, false] _ hgv)
    | 2, _ => exact (q_pth_of [true, false, false, true, true, false, true, false, false, true, true] _ hgv)
    | 3, _ => exact (q_pth_of [true, false, false, true, true, false, true, false, true, false, false] _ hgv)
    | 4, _ => exact (q_pth_of [true, false, false, true, true, false, true, false, true, false, true] _ hgv)
    | j + 5, h => exact absurd h (by omega)
theorem st_20 (hts : ∀ w ∈ lw_tbl, w.before #[Value.ref b] s = true) (hgv : (Jvm.Cond.and given_1 narrow_1).before #[Value.ref b] s = true) (hA : ∀ a : Nat, a < s.heap.size → ¬ A a) : ∃ x : Nat × Nat, vk_R "JarCabinet$CabinetReader" 75 "peel" x.1 s ∧ va_O "java/lang/String" x.1 A s s.heap ∧ va_OF "java/lang/String" "coder" "B" (.int 0) x.1 A s s.heap ∧ va_OF "java/lang/String" "value" "[B" (.ref x.2) x.1 A s s.heap ∧ va_T .byte x.2 4 (fun j => .int (([112, 101, 101, 108] : List Int32).getD j 0)) A s s.heap := by
  refine q_str1 (bytes := [112, 101, 101, 108]) hA (hts _ (q_lk_mem in_4 198 rfl)) (q_pth_of [true, false, false, true, true, false, true, false, true, true, false] _ hgv) (q_pth_of [true, false, false, true, true, false, true, false, true, true, true] _ hgv) (q_pth_of [true, false, false, true, true, false, true, true, false, false, false] _ hgv) (q_pth_of [true, false, false, true, true, false, true, true, false, false, true] _ hgv) (by decide) (fun j hj => ?_)
  match j, hj with
    | 0, _ => exact (q_pth_of [true, false, false, true, true, false, true, true, false, true, false] _ hgv)
    | 1, _ => exact (q_pth_of [true, false, false, true, true, false, true, true, false, true, true] _ hgv)
    | 2, _ => exact (q_pth_of [true, false, false, true, true, false, true, true, true, false, false] _ hgv)
    | 3, _ => exact (q_pth_of [true, false, false, true, true, false, true, true, true, false, true] _ hgv)
    | j + 4, h => exact absurd h (by omega)
theorem st_21 (hts : ∀ w ∈ lw_tbl, w.before #[Value.ref b] s = true) (hgv : (Jvm.Cond.and given_1 narrow_1).before #[Value.ref b] s = true) (hA : ∀ a : Nat, a < s.heap.size → ¬ A a) : ∃ x : Nat × Nat, vk_R "JarCabinet$CabinetReader" 80 "wasps" x.1 s ∧ va_O "java/lang/String" x.1 A s s.heap ∧ va_OF "java/lang/String" "coder" "B" (.int 0) x.1 A s s.heap ∧ va_OF "java/lang/String" "value" "[B" (.ref x.2) x.1 A s s.heap ∧ va_T .byte x.2 5 (fun j => .int (([119, 97, 115, 112, 115] : List Int32).getD j 0)) A s s.heap := by
  refine q_str1 (bytes := [119, 97, 115, 112, 115]) hA (hts _ (q_lk_mem in_4 203 rfl)) (q_pth_of [true, false, false, true, true, false, true, true, true, true, false] _ hgv) (q_pth_of [true, false, false, true, true, false, true, true, true, true, true] _ hgv) (q_pth_of [true, false, false, true, true, true, false, false, false, false] _ hgv) (q_pth_of [true, false, false, true, true, true, false, false, false, true, false] _ hgv) (by decide) (fun j hj => ?_)
  match j, hj with
    | 0, _ => exact (q_pth_of [true, false, false, true, true, true, false, false, false, true, true] _ hgv)
    | 1, _ => exact (q_pth_of [true, false, false, true, true, true, false, false, true, false, false] _ hgv)
    | 2, _ => exact (q_pth_of [true, false, false, true, true, true, false, false, true, false, true] _ hgv)
    | 3, _ => exact (q_pth_of [true, false, false, true, true, true, false, false, true, true, false] _ hgv)
    | 4, _ => exact (q_pth_of [true, false, false, true, true, true, false, false, true, true, true] _ hgv)
    | j + 5, h => exact absurd h (by omega)
theorem st_22 (hts : ∀ w ∈ lw_tbl, w.before #[Value.ref b] s = true) (hgv : (Jvm.Cond.and given_1 narrow_1).before #[Value.ref b] s = true) (hA : ∀ a : Nat, a < s.heap.size → ¬ A a) : ∃ x : Nat × Nat, vk_R "JarCabinet$CabinetReader" 92 "at" x.1 s ∧ va_O "java/lang/String" x.1 A s s.heap ∧ va_OF "java/lang/String" "coder" "B" (.int 0) x.1 A s s.heap ∧ va_OF "java/lang/String" "value" "[B" (.ref x.2) x.1 A s s.heap ∧ va_T .byte x.2 2 (fun j => .int (([97, 116] : List Int32).getD j 0)) A s s.heap := by
  refine q_str1 (bytes := [97, 116]) hA (hts _ (q_lk_mem in_4 132 rfl)) (q_pth_of [true, false, false, true, false, false, false, true, true, true, false] _ hgv) (q_pth_of [true, false, false, true, false, false, false, true, true, true, true] _ hgv) (q_pth_of [true, false, false, true, false, false, true, false, false, false] _ hgv) (q_pth_of [true, false, false, true, false, false, true, false, false, true, false] _ hgv) (by decide) (fun j hj => ?_)
  match j, hj with
    | 0, _ => exact (q_pth_of [true, false, false, true, false, false, true, false, false, true, true] _ hgv)
    | 1, _ => exact (q_pth_of [true, false, false, true, false, false, true, false, true, false, false] _ hgv)
    | j + 2, h => exact absurd h (by omega)
theorem st_23 (hts : ∀ w ∈ lw_tbl, w.before #[Value.ref b] s = true) (hgv : (Jvm.Cond.and given_1 narrow_1).before #[Value.ref b] s = true) (hA : ∀ a : Nat, a < s.heap.size → ¬ A a) : ∃ x : Nat × Nat, vk_R "JarCabinet$CabinetReader" 98 "spoons" x.1 s ∧ va_O "java/lang/String" x.1 A s s.heap ∧ va_OF "java/lang/String" "coder" "B" (.int 0) x.1 A s s.heap ∧ va_OF "java/lang/String" "value" "[B" (.ref x.2) x.1 A s s.heap ∧ va_T .byte x.2 6 (fun j => .int (([115, 112, 111, 111, 110, 115] : List Int32).getD j 0)) A s s.heap := by
  refine q_str1 (bytes := [115, 112, 111, 111, 110, 115]) hA (hts _ (q_lk_mem in_4 146 rfl)) (q_pth_of [true, false, false, true, false, false, true, false, true, false, true] _ hgv) (q_pth_of [true, false, false, true, false, false, true, false, true, true, false] _ hgv) (q_pth_of [true, false, false, true, false, false, true, false, true, true, true] _ hgv) (q_pth_of [true, false, false, true, false, false, true, true, false, false, false] _ hgv) (by decide) (fun j hj => ?_)
  match j, hj with
    | 0, _ => exact (q_pth_of [true, false, false, true, false, false, true, true, false, false, true] _ hgv)
    | 1, _ => exact (q_pth_of [true, false, false, true, false, false, true, true, false, true, false] _ hgv)
    | 2, _ => exact (q_pth_of [true, false, false, true, false, false, true, true, false, true, true] _ hgv)
    | 3, _ => exact (q_pth_of [true, false, false, true, false, false, true, true, true, false, false] _ hgv)
    | 4, _ => exact (q_pth_of [true, false, false, true, false, false, true, true, true, false, true] _ hgv)
    | 5, _ => exact (q_pth_of [true, false, false, true, false, false, true, true, true, true, false] _ hgv)
    | j + 6, h => exact absurd h (by omega)
theorem st_24 (hts : ∀ w ∈ lw_tbl, w.before #[Value.ref b] s = true) (hgv : (Jvm.Cond.and given_1 narrow_1).before #[Value.ref b] s = true) (hA : ∀ a : Nat, a < s.heap.size → ¬ A a) : ∃ x : Nat × Nat, vk_R "JarCabinet$CabinetReader" 112 "sour" x.1 s ∧ va_O "java/lang/String" x.1 A s s.heap ∧ va_OF "java/lang/String" "coder" "B" (.int 0) x.1 A s s.heap ∧ va_OF "java/lang/String" "value" "[B" (.ref x.2) x.1 A s s.heap ∧ va_T .byte x.2 4 (fun j => .int (([115, 111, 117, 114] : List Int32).getD j 0)) A s s.heap := by
  refine q_str1 (bytes := [115, 111, 117, 114]) hA (hts _ (q_lk_mem in_4 156 rfl)) (q_pth_of [true, false, false, true, false, false, true, true, true, true, true] _ hgv) (q_pth_of [true, false, false, true, false, true, false, false, false, false] _ hgv) (q_pth_of [true, false, false, true, false, true, false, false, false, true, false] _ hgv) (q_pth_of [true, false, false, true, false, true, false, false, false, true, true] _ hgv) (by decide) (fun j hj => ?_)
  match j, hj with
    | 0, _ => exact (q_pth_of [true, false, false, true, false, true, false, false, true, false, false] _ hgv)
    | 1, _ => exact (q_pth_of [true, false, false, true, false, true, false, false, true, false, true] _ hgv)
    | 2, _ => exact (q_pth_of [true, false, false, true, false, true, false, false, true, true, false] _ hgv)
    | 3, _ => exact (q_pth_of [true, false, false, true, false, true, false, false, true, true, true] _ hgv)
    | j + 4, h => exact absurd h (by omega)
theorem st_25 (hts : ∀ w ∈ lw_tbl, w.before #[Value.ref b] s = true) (hgv : (Jvm.Cond.and given_1 narrow_1).before #[Value.ref b] s = true) (hA : ∀ a : Nat, a < s.heap.size → ¬ A a) : ∃ x : Nat × Nat, vk_R "JarCabinet$CabinetReader" 117 "seal" x.1 s ∧ va_O "java/lang/String" x.1 A s s.heap ∧ va_OF "java/lang/String" "coder" "B" (.int 0) x.1 A s s.heap ∧ va_OF "java/lang/String" "value" "[B" (.ref x.2) x.1 A s s.heap ∧ va_T .byte x.2 4 (fun j => .int (([115, 101, 97, 108] : List Int32).getD j 0)) A s s.heap := by
  refine q_str1 (bytes := [115, 101, 97, 108]) hA (hts _ (q_lk_mem in_4 157 rfl)) (q_pth_of [true, false, false, true, false, true, false, true, false, false, false] _ hgv) (q_pth_of [true, false, false, true, false, true, false, true, false, false, true] _ hgv) (q_pth_of [true, false, false, true, false, true, false, true, false, true, false] _ hgv) (q_pth_of [true, false, false, true, false, true, false, true, false, true, true] _ hgv) (by decide) (fun j hj => ?_)
  match j, hj with
    | 0, _ => exact (q_pth_of [true, false, false, true, false, true, false, true, true, false, false] _ hgv)
    | 1, _ => exact (q_pth_of [true, false, false, true, false, true, false, true, true, false, true] _ hgv)
    | 2, _ => exact (q_pth_of [true, false, false, true, false, true, false, true, true, true, false] _ hgv)
    | 3, _ => exact (q_pth_of [true, false, false, true, false, true, false, true, true, true, true] _ hgv)
    | j + 4, h => exact absurd h (by omega)
theorem st_26 (hts : ∀ w ∈ lw_tbl, w.before #[Value.ref b] s = true) (hgv : (Jvm.Cond.and given_1 narrow_1).before #[Value.ref b] s = true) (hA : ∀ a : Nat, a < s.heap.size → ¬ A a) : ∃ x : Nat × Nat, vk_R "JarCabinet$CabinetReader" 122 "views" x.1 s ∧ va_O "java/lang/String" x.1 A s s.heap ∧ va_OF "java/lang/String" "coder" "B" (.int 0) x.1 A s s.heap ∧ va_OF "java/lang/String" "value" "[B" (.ref x.2) x.1 A s s.heap ∧ va_T .byte x.2 5 (fun j => .int (([118, 105, 101, 119, 115] : List Int32).getD j 0)) A s s.heap := by
  refine q_str1 (bytes := [118, 105, 101, 119, 115]) hA (hts _ (q_lk_mem in_4 158 rfl)) (q_pth_of [true, false, false, true, false, true, true, false, false, false] _ hgv) (q_pth_of [true, false, false, true, false, true, true, false, false, true, false] _ hgv) (q_pth_of [true, false, false, true, false, true, true, false, false, true, true] _ hgv) (q_pth_of [true, false, false, true, false, true, true, false, true, false, false] _ hgv) (by decide) (fun j hj => ?_)
  match j, hj with
    | 0, _ => exact (q_pth_of [true, false, false, true, false, true, true, false, true, false, true] _ hgv)
    | 1, _ => exact (q_pth_of [true, false, false, true, false, true, true, false, true, true, false] _ hgv)
    | 2, _ => exact (q_pth_of [true, false, false, true, false, true, true, false, true, true, true] _ hgv)
    | 3, _ => exact (q_pth_of [true, false, false, true, false, true, true, true, false, false, false] _ hgv)
    | 4, _ => exact (q_pth_of [true, false, false, true, false, true, true, true, false, false, true] _ hgv)
    | j + 5, h => exact absurd h (by omega)
theorem st_27 (hts : ∀ w ∈ lw_tbl, w.before #[Value.ref b] s = true) (hgv : (Jvm.Cond.and given_1 narrow_1).before #[Value.ref b] s = true) (hA : ∀ a : Nat, a < s.heap.size → ¬ A a) : ∃ x : Nat × Nat, vk_R "JarCabinet$LawReader" 52 "if" x.1 s ∧ va_O "java/lang/String" x.1 A s s.heap ∧ va_OF "java/lang/String" "coder" "B" (.int 0) x.1 A s s.heap ∧ va_OF "java/lang/String" "value" "[B" (.ref x.2) x.1 A s s.heap ∧ va_T .byte x.2 2 (fun j => .int (([105, 102] : List Int32).getD j 0)) A s s.heap := by
  refine q_str1 (bytes := [105, 102]) hA (hts _ (q_lk_mem in_5 92 rfl)) (q_pth_of [true, false, true, false, true, false, false, true, true, false, true] _ hgv) (q_pth_of [true, false, true, false, true, false, false, true, true, true, false] _ hgv) (q_pth_of [true, false, true, false, true, false, false, true, true, true, true] _ hgv) (q_pth_of [true, false, true, false, true, false, true, false, false, false] _ hgv) (by decide) (fun j hj => ?_)
  match j, hj with
    | 0, _ => exact (q_pth_of [true, false, true, false, true, false, true, false, false, true, false] _ hgv)
    | 1, _ => exact (q_pth_of [true, false, true, false, true, false, true, false, false, true, true] _ hgv)
    | j + 2, h => exact absurd h (by omega)
theorem st_28 (hts : ∀ w ∈ lw_tbl, w.before #[Value.ref b] s = true) (hgv : (Jvm.Cond.and given_1 narrow_1).before #[Value.ref b] s = true) (hA : ∀ a : Nat, a < s.heap.size → ¬ A a) : ∃ x : Nat × Nat, vk_R "JarCabinet$LawReader" 66 "add" x.1 s ∧ va_O "java/lang/String" x.1 A s s.heap ∧ va_OF "java/lang/String" "coder" "B" (.int 0) x.1 A s s.heap ∧ va_OF "java/lang/String" "value" "[B" (.ref x.2) x.1 A s s.heap ∧ va_T .byte x.2 3 (fun j => .int (([97, 100, 100] : List Int32).getD j 0)) A s s.heap := by
  refine q_str1 (bytes := [97, 100, 100]) hA (hts _ (q_lk_mem in_5 86 rfl)) (q_pth_of [true, false, true, false, false, true, false, true, true, false, false] _ hgv) (q_pth_of [true, false, true, false, false, true, false, true, true, false, true] _ hgv) (q_pth_of [true, false, true, false, false, true, false, true, true, true, false] _ hgv) (q_pth_of [true, false, true, false, false, true, false, true, true, true, true] _ hgv) (by decide) (fun j hj => ?_)
  match j, hj with
    | 0, _ => exact (q_pth_of [true, false, true, false, false, true, true, false, false, false] _ hgv)
    | 1, _ => exact (q_pth_of [true, false, true, false, false, true, true, false, false, true, false] _ hgv)
    | 2, _ => exact (q_pth_of [true, false, true, false, false, true, true, false, false, true, true] _ hgv)
    | j + 3, h => exact absurd h (by omega)
theorem st_29 (hts : ∀ w ∈ lw_tbl, w.before #[Value.ref b] s = true) (hgv : (Jvm.Cond.and given_1 narrow_1).before #[Value.ref b] s = true) (hA : ∀ a : Nat, a < s.heap.size → ¬ A a) : ∃ x : Nat × Nat, vk_R "JarCabinet$LawReader" 68 "less" x.1 s ∧ va_O "java/lang/String" x.1 A s s.heap ∧ va_OF "java/lang/String" "coder" "B" (.int 0) x.1 A s s.heap ∧ va_OF "java/lang/String" "value" "[B" (.ref x.2) x.1 A s s.heap ∧ va_T .byte x.2 4 (fun j => .int (([108, 101, 115, 115] : List Int32).getD j 0)) A s s.heap := by
  refine q_str1 (bytes := [108, 101, 115, 115]) hA (hts _ (q_lk_mem in_5 88 rfl)) (q_pth_of [true, false, true, false, false, true, true, false, true, false, false] _ hgv) (q_pth_of [true, false, true, false, false, true, true, false, true, false, true] _ hgv) (q_pth_of [true, false, true, false, false, true, true, false, true, true, false] _ hgv) (q_pth_of [true, false, true, false, false, true, true, false, true, true, true] _ hgv) (by decide) (fun j hj => ?_)
  match j, hj with
    | 0, _ => exact (q_pth_of [true, false, true, false, false, true, true, true, false, false, false] _ hgv)
    | 1, _ => exact (q_pth_of [true, false, true, false, false, true, true, true, false, false, true] _ hgv)
    | 2, _ => exact (q_pth_of [true, false, true, false, false, true, true, true, false, true, false] _ hgv)
    | 3, _ => exact (q_pth_of [true, false, true, false, false, true, true, true, false, true, true] _ hgv)
    | j + 4, h => exact absurd h (by omega)
theorem st_30 (hts : ∀ w ∈ lw_tbl, w.before #[Value.ref b] s = true) (hgv : (Jvm.Cond.and given_1 narrow_1).before #[Value.ref b] s = true) (hA : ∀ a : Nat, a < s.heap.size → ¬ A a) : ∃ x : Nat × Nat, vk_R "JarCabinet$LawReader" 70 "sour" x.1 s ∧ va_O "java/lang/String" x.1 A s s.heap ∧ va_OF "java/lang/String" "coder" "B" (.int 0) x.1 A s s.heap ∧ va_OF "java/lang/String" "value" "[B" (.ref x.2) x.1 A s s.heap ∧ va_T .byte x.2 4 (fun j => .int (([115, 111, 117, 114] : List Int32).getD j 0)) A s s.heap := by
  refine q_str1 (bytes := [115, 111, 117, 114]) hA (hts _ (q_lk_mem in_5 89 rfl)) (q_pth_of [true, false, true, false, false, true, true, true, true, false, false] _ hgv) (q_pth_of [true, false, true, false, false, true, true, true, true, false, true] _ hgv) (q_pth_of [true, false, true, false, false, true, true, true, true, true, false] _ hgv) (q_pth_of [true, false, true, false, false, true, true, true, true, true, true] _ hgv) (by decide) (fun j hj => ?_)
  match j, hj with
    | 0, _ => exact (q_pth_of [true, false, true, false, true, false, false, false, false, false] _ hgv)
    | 1, _ => exact (q_pth_of [true, false, true, false, true, false, false, false, false, true, false] _ hgv)
    | 2, _ => exact (q_pth_of [true, false, true, false, true, false, false, false, false, true, true] _ hgv)
    | 3, _ => exact (q_pth_of [true, false, true, false, true, false, false, false, true, false, false] _ hgv)
    | j + 4, h => exact absurd h (by omega)
theorem st_31 (hts : ∀ w ∈ lw_tbl, w.before #[Value.ref b] s = true) (hgv : (Jvm.Cond.and given_1 narrow_1).before #[Value.ref b] s = true) (hA : ∀ a : Nat, a < s.heap.size → ¬ A a) : ∃ x : Nat × Nat, vk_R "JarCabinet$LawReader" 72 "pop" x.1 s ∧ va_O "java/lang/String" x.1 A s s.heap ∧ va_OF "java/lang/String" "coder" "B" (.int 0) x.1 A s s.heap ∧ va_OF "java/lang/String" "value" "[B" (.ref x.2) x.1 A s s.heap ∧ va_T .byte x.2 3 (fun j => .int (([112, 111, 112] : List Int32).getD j 0)) A s s.heap := by
  refine q_str1 (bytes := [112, 111, 112]) hA (hts _ (q_lk_mem in_5 90 rfl)) (q_pth_of [true, false, true, false, true, false, false, false, true, true, false] _ hgv) (q_pth_of [true, false, true, false, true, false, false, false, true, true, true] _ hgv) (q_pth_of [true, false, true, false, true, false, false, true, false, false, false] _ hgv) (q_pth_of [true, false, true, false, true, false, false, true, false, false, true] _ hgv) (by decide) (fun j hj => ?_)
  match j, hj with
    | 0, _ => exact (q_pth_of [true, false, true, false, true, false, false, true, false, true, false] _ hgv)
    | 1, _ => exact (q_pth_of [true, false, true, false, true, false, false, true, false, true, true] _ hgv)
    | 2, _ => exact (q_pth_of [true, false, true, false, true, false, false, true, true, false, false] _ hgv)
    | j + 3, h => exact absurd h (by omega)
theorem st_32 (hts : ∀ w ∈ lw_tbl, w.before #[Value.ref b] s = true) (hgv : (Jvm.Cond.and given_1 narrow_1).before #[Value.ref b] s = true) (hA : ∀ a : Nat, a < s.heap.size → ¬ A a) : ∃ x : Nat × Nat, vk_R "JarCabinet$LawReader" 74 "and" x.1 s ∧ va_O "java/lang/String" x.1 A s s.heap ∧ va_OF "java/lang/String" "coder" "B" (.int 0) x.1 A s s.heap ∧ va_OF "java/lang/String" "value" "[B" (.ref x.2) x.1 A s s.heap ∧ va_T .byte x.2 3 (fun j => .int (([97, 110, 100] : List Int32).getD j 0)) A s s.heap := by
  refine q_str1 (bytes := [97, 110, 100]) hA (hts _ (q_lk_mem in_5 97 rfl)) (q_pth_of [true, false, true, false, true, false, true, false, true, false, false] _ hgv) (q_pth_of [true, false, true, false, true, false, true, false, true, false, true] _ hgv) (q_pth_of [true, false, true, false, true, false, true, false, true, true, false] _ hgv) (q_pth_of [true, false, true, false, true, false, true, false, true, true, true] _ hgv) (by decide) (fun j hj => ?_)
  match j, hj with
    | 0, _ => exact (q_pth_of [true, false, true, false, true, false, true, true, false, false, false] _ hgv)
    | 1, _ => exact (q_pth_of [true, false, true, false, true, false, true, true, false, false, true] _ hgv)
    | 2, _ => exact (q_pth_of [true, false, true, false, true, false, true, true, false, true, false] _ hgv)
    | j + 3, h => exact absurd h (by omega)
theorem st_33 (hts : ∀ w ∈ lw_tbl, w.before #[Value.ref b] s = true) (hgv : (Jvm.Cond.and given_1 narrow_1).before #[Value.ref b] s = true) (hA : ∀ a : Nat, a < s.heap.size → ¬ A a) : ∃ x : Nat × Nat, vk_R "JarCabinet$LawReader" 83 "or" x.1 s ∧ va_O "java/lang/String" x.1 A s s.heap ∧ va_OF "java/lang/String" "coder" "B" (.int 0) x.1 A s s.heap ∧ va_OF "java/lang/String" "value" "[B" (.ref x.2) x.1 A s s.heap ∧ va_T .byte x.2 2 (fun j => .int (([111, 114] : List Int32).getD j 0)) A s s.heap := by
  refine q_str1 (bytes := [111, 114]) hA (hts _ (q_lk_mem in_5 131 rfl)) (q_pth_of [true, false, true, true, false, true, false, false, true, true, false] _ hgv) (q_pth_of [true, false, true, true, false, true, false, false, true, true, true] _ hgv) (q_pth_of [true, false, true, true, false, true, false, true, false, false, false] _ hgv) (q_pth_of [true, false, true, true, false, true, false, true, false, false, true] _ hgv) (by decide) (fun j hj => ?_)
  match j, hj with
    | 0, _ => exact (q_pth_of [true, false, true, true, false, true, false, true, false, true, false] _ hgv)
    | 1, _ => exact (q_pth_of [true, false, true, true, false, true, false, true, false, true, true] _ hgv)
    | j + 2, h => exact absurd h (by omega)
theorem st_34 (hts : ∀ w ∈ lw_tbl, w.before #[Value.ref b] s = true) (hgv : (Jvm.Cond.and given_1 narrow_1).before #[Value.ref b] s = true) (hA : ∀ a : Nat, a < s.heap.size → ¬ A a) : ∃ x : Nat × Nat, vk_R "JarCabinet$LawReader" 85 "not" x.1 s ∧ va_O "java/lang/String" x.1 A s s.heap ∧ va_OF "java/lang/String" "coder" "B" (.int 0) x.1 A s s.heap ∧ va_OF "java/lang/String" "value" "[B" (.ref x.2) x.1 A s s.heap ∧ va_T .byte x.2 3 (fun j => .int (([110, 111, 116] : List Int32).getD j 0)) A s s.heap := by
  refine q_str1 (bytes := [110, 111, 116]) hA (hts _ (q_lk_mem in_5 102 rfl)) (q_pth_of [true, false, true, false, true, false, true, true, false, true, true] _ hgv) (q_pth_of [true, false, true, false, true, false, true, true, true, false, false] _ hgv) (q_pth_of [true, false, true, false, true, false, true, true, true, false, true] _ hgv) (q_pth_of [true, false, true, false, true, false, true, true, true, true, false] _ hgv) (by decide) (fun j hj => ?_)
  match j, hj with
    | 0, _ => exact (q_pth_of [true, false, true, false, true, false, true, true, true, true, true] _ hgv)
    | 1, _ => exact (q_pth_of [true, false, true, false, true, true, false, false, false, false] _ hgv)
    | 2, _ => exact (q_pth_of [true, false, true, false, true, true, false, false, false, true, false] _ hgv)
    | j + 3, h => exact absurd h (by omega)
theorem st_35 (hts : ∀ w ∈ lw_tbl, w.before #[Value.ref b] s = true) (hgv : (Jvm.Cond.and given_1 narrow_1).before #[Value.ref b] s = true) (hA : ∀ a : Nat, a < s.heap.size → ¬ A a) : ∃ x : Nat × Nat, vk_R "JarCabinet$LawReader" 99 "open" x.1 s ∧ va_O "java/lang/String" x.1 A s s.heap ∧ va_OF "java/lang/String" "coder" "B" (.int 0) x.1 A s s.heap ∧ va_OF "java/lang/String" "value" "[B" (.ref x.2) x.1 A s s.heap ∧ va_T .byte x.2 4 (fun j => .int (([111, 112, 101, 110] : List Int32).getD j 0)) A s s.heap := by
  refine q_str1 (bytes := [111, 112, 101, 110]) hA (hts _ (q_lk_mem in_5 116 rfl)) (q_pth_of [true, false, true, false, true, true, false, false, false, true, true] _ hgv) (q_pth_of [true, false, true, false, true, true, false, false, true, false, false] _ hgv) (q_pth_of [true, false, true, false, true, true, false, false, true, false, true] _ hgv) (q_pth_of [true, false, true, false, true, true, false, false, true, true, false] _ hgv) (by decide) (fun j hj => ?_)
  match j, hj with
    | 0, _ => exact (q_pth_of [true, false, true, false, true, true, false, false, true, true, true] _ hgv)
    | 1, _ => exact (q_pth_of [true, false, true, false, true, true, false, true, false, false, false] _ hgv)
    | 2, _ => exact (q_pth_of [true, false, true, false, true, true, false, true, false, false, true] _ hgv)
    | 3, _ => exact (q_pth_of [true, false, true, false, true, true, false, true, false, true, false] _ hgv)
    | j + 4, h => exact absurd h (by omega)
theorem st_36 (hts : ∀ w ∈ lw_tbl, w.before #[Value.ref b] s = true) (hgv : (Jvm.Cond.and given_1 narrow_1).before #[Value.ref b] s = true) (hA : ∀ a : Nat, a < s.heap.size → ¬ A a) : ∃ x : Nat × Nat, vk_R "JarCabinet$LawReader" 110 "jar" x.1 s ∧ va_O "java/lang/String" x.1 A s s.heap ∧ va_OF "java/lang/String" "coder" "B" (.int 0) x.1 A s s.heap ∧ va_OF "java/lang/String" "value" "[B" (.ref x.2) x.1 A s s.heap ∧ va_T .byte x.2 3 (fun j => .int (([106, 97, 114] : List Int32).getD j 0)) A s s.heap := by
  refine q_str1 (bytes := [106, 97, 114]) hA (hts _ (q_lk_mem in_5 125 rfl)) (q_pth_of [true, false, true, false, true, true, false, true, false, true, true] _ hgv) (q_pth_of [true, false, true, false, true, true, false, true, true, false, false] _ hgv) (q_pth_of [true, false, true, false, true, true, false, true, true, false, true] _ hgv) (q_pth_of [true, false, true, false, true, true, false, true, true, true, false] _ hgv) (by decide) (fun j hj => ?_)
  match j, hj with
    | 0, _ => exact (q_pth_of [true, false, true, false, true, true, false, true, true, true, true] _ hgv)
    | 1, _ => exact (q_pth_of [true, false, true, false, true, true, true, false, false, false] _ hgv)
    | 2, _ => exact (q_pth_of [true, false, true, false, true, true, true, false, false, true, false] _ hgv)
    | j + 3, h => exact absurd h (by omega)
theorem st_37 (hts : ∀ w ∈ lw_tbl, w.before #[Value.ref b] s = true) (hgv : (Jvm.Cond.and given_1 narrow_1).before #[Value.ref b] s = true) (hA : ∀ a : Nat, a < s.heap.size → ¬ A a) : ∃ x : Nat × Nat, vk_R "JarCabinet$LawReader" 112 "matter" x.1 s ∧ va_O "java/lang/String" x.1 A s s.heap ∧ va_OF "java/lang/String" "coder" "B" (.int 0) x.1 A s s.heap ∧ va_OF "java/lang/String" "value" "[B" (.ref x.2) x.1 A s s.heap ∧ va_T .byte x.2 6 (fun j => .int (([109, 97, 116, 116, 101, 114] : List Int32).getD j 0)) A s s.heap := by
  refine q_str1 (bytes := [109, 97, 116, 116, 101, 114]) hA (hts _ (q_lk_mem in_5 126 rfl)) (q_pth_of [true, false, true, false, true, true, true, false, true, false, false] _ hgv) (q_pth_of [true, false, true, false, true, true, true, false, true, false, true] _ hgv) (q_pth_of [true, false, true, false, true, true, true, false, true, true, false] _ hgv) (q_pth_of [true, false, true, false, true, true, true, false, true, true, true] _ hgv) (by decide) (fun j hj => ?_)
  match j, hj with
    | 0, _ => exact (q_pth_of [true, false, true, false, true, true, true, true, false, false, false] _ hgv)
    | 1, _ => exact (q_pth_of [true, false, true, false, true, true, true, true, false, false, true] _ hgv)
    | 2, _ => exact (q_pth_of [true, false, true, false, true, true, true, true, false, true, false] _ hgv)
    | 3, _ => exact (q_pth_of [true, false, true, false, true, true, true, true, false, true, true] _ hgv)
    | 4, _ => exact (q_pth_of [true, false, true, false, true, true, true, true, true, false, false] _ hgv)
    | 5, _ => exact (q_pth_of [true, false, true, false, true, true, true, true, true, false, true] _ hgv)
    | j + 6, h => exact absurd h (by omega)
theorem st_38 (hts : ∀ w ∈ lw_tbl, w.before #[Value.ref b] s = true) (hgv : (Jvm.Cond.and given_1 narrow_1).before #[Value.ref b] s = true) (hA : ∀ a : Nat, a < s.heap.size → ¬ A a) : ∃ x : Nat × Nat, vk_R "JarCabinet$LawReader" 114 "view" x.1 s ∧ va_O "java/lang/String" x.1 A s s.heap ∧ va_OF "java/lang/String" "coder" "B" (.int 0) x.1 A s s.heap ∧ va_OF "java/lang/String" "value" "[B" (.ref x.2) x.1 A s s.heap ∧ va_T .byte x.2 4 (fun j => .int (([118, 105, 101, 119] : List Int32).getD j 0)) A s s.heap := by
  refine q_str1 (bytes := [118, 105, 101, 119]) hA (hts _ (q_lk_mem in_5 127 rfl)) (q_pth_of [true, false, true, false, true, true, true, true, true, true, false] _ hgv) (q_pth_of [true, false, true, false, true, true, true, true, true, true, true] _ hgv) (q_pth_of [true, false, true, true, false, false, false, false, false, false] _ hgv) (q_pth_of [true, false, true, true, false, false, false, false, false, true, false] _ hgv) (by decide) (fun j hj => ?_)
  match j, hj with
    | 0, _ => exact (q_pth_of [true, false, true, true, false, false, false, false, false, true, true] _ hgv)
    | 1, _ => exact (q_pth_of [true, false, true, true, false, false, false, false, true, false, false] _ hgv)
    | 2, _ => exact (q_pth_of [true, false, true, true, false, false, false, false, true, false, true] _ hgv)
    | 3, _ => exact (q_pth_of [true, false, true, true, false, false, false, false, true, true, false] _ hgv)
    | j + 4, h => exact absurd h (by omega)
theorem st_39 (hts : ∀ w ∈ lw_tbl, w.before #[Value.ref b] s = true) (hgv : (Jvm.Cond.and given_1 narrow_1).before #[Value.ref b] s = true) (hA : ∀ a : Nat, a < s.heap.size → ¬ A a) : ∃ x : Nat × Nat, vk_R "JarCabinet$LawReader" 116 "spoons" x.1 s ∧ va_O "java/lang/String" x.1 A s s.heap ∧ va_OF "java/lang/String" "coder" "B" (.int 0) x.1 A s s.heap ∧ va_OF "java/lang/String" "value" "[B" (.ref x.2) x.1 A s s.heap ∧ va_T .byte x.2 6 (fun j => .int (([115, 112, 111, 111, 110, 115] : List Int32).getD j 0)) A s s.heap := by
  refine q_str1 (bytes := [115, 112, 111, 111, 110, 115]) hA (hts _ (q_lk_mem in_5 128 rfl)) (q_pth_of [true, false, true, true, false, false, false, false, true, true, true] _ hgv) (q_pth_of [true, false, true, true, false, false, false, true, false, false] _ hgv) (q_pth_of [true, false, true, true, false, false, false, true, false, true, false] _ hgv) (q_pth_of [true, false, true, true, false, false, false, true, false, true, true] _ hgv) (by decide) (fun j hj => ?_)
  match j, hj with
    | 0, _ => exact (q_pth_of [true, false, true, true, false, false, false, true, true, false, false] _ hgv)
    | 1, _ => exact (q_pth_of [true, false, true, true, false, false, false, true, true, false, true] _ hgv)
    | 2, _ => exact (q_pth_of [true, false, true, true, false, false, false, true, true, true, false] _ hgv)
    | 3, _ => exact (q_pth_of [true, false, true, true, false, false, false, true, true, true, true] _ hgv)
    | 4, _ => exact (q_pth_of [true, false, true, true, false, false, true, false, false, false] _ hgv)
    | 5, _ => exact (q_pth_of [true, false, true, true, false, false, true, false, false, true, false] _ hgv)
    | j + 6, h => exact absurd h (by omega)
theorem st_40 (hts : ∀ w ∈ lw_tbl, w.before #[Value.ref b] s = true) (hgv : (Jvm.Cond.and given_1 narrow_1).before #[Value.ref b] s = true) (hA : ∀ a : Nat, a < s.heap.size → ¬ A a) : ∃ x : Nat × Nat, vk_R "JarCabinet$LawReader" 118 "place" x.1 s ∧ va_O "java/lang/String" x.1 A s s.heap ∧ va_OF "java/lang/String" "coder" "B" (.int 0) x.1 A s s.heap ∧ va_OF "java/lang/String" "value" "[B" (.ref x.2) x.1 A s s.heap ∧ va_T .byte x.2 5 (fun j => .int (([112, 108, 97, 99, 101] : List Int32).getD j 0)) A s s.heap := by
  refine q_str1 (bytes := [112, 108, 97, 99, 101]) hA (hts _ (q_lk_mem in_5 129 rfl)) (q_pth_of [true, false, true, true, false, false, true, false, true, false, false] _ hgv) (q_pth_of [true, false, true, true, false, false, true, false, true, false, true] _ hgv) (q_pth_of [true, false, true, true, false, false, true, false, true, true, false] _ hgv) (q_pth_of [true, false, true, true, false, false, true, false, true, true, true] _ hgv) (by decide) (fun j hj => ?_)
  match j, hj with
    | 0, _ => exact (q_pth_of [true, false, true, true, false, false, true, true, false, false, false] _ hgv)
    | 1, _ => exact (q_pth_of [true, false, true, true, false, false, true, true, false, false, true] _ hgv)
    | 2, _ => exact (q_pth_of [true, false, true, true, false, false, true, true, false, true, false] _ hgv)
    | 3, _ => exact (q_pth_of [true, false, true, true, false, false, true, true, false, true, true] _ hgv)
    | 4, _ => exact (q_pth_of [true, false, true, true, false, false, true, true, true, false, false] _ hgv)
    | j + 5, h => exact absurd h (by omega)
theorem st_41 (hts : ∀ w ∈ lw_tbl, w.before #[Value.ref b] s = true) (hgv : (Jvm.Cond.and given_1 narrow_1).before #[Value.ref b] s = true) (hA : ∀ a : Nat, a < s.heap.size → ¬ A a) : ∃ x : Nat × Nat, vk_R "JarCabinet$LawReader" 120 "year" x.1 s ∧ va_O "java/lang/String" x.1 A s s.heap ∧ va_OF "java/lang/String" "coder" "B" (.int 0) x.1 A s s.heap ∧ va_OF "java/lang/String" "value" "[B" (.ref x.2) x.1 A s s.heap ∧ va_T .byte x.2 4 (fun j => .int (([121, 101, 97, 114] : List Int32).getD j 0)) A s s.heap := by
  refine q_str1 (bytes := [121, 101, 97, 114]) hA (hts _ (q_lk_mem in_5 130 rfl)) (q_pth_of [true, false, true, true, false, false, true, true, true, false, true] _ hgv) (q_pth_of [true, false, true, true, false, false, true, true, true, true, false] _ hgv) (q_pth_of [true, false, true, true, false, false, true, true, true, true, true] _ hgv) (q_pth_of [true, false, true, true, false, true, false, false, false, false] _ hgv) (by decide) (fun j hj => ?_)
  match j, hj with
    | 0, _ => exact (q_pth_of [true, false, true, true, false, true, false, false, false, true, false] _ hgv)
    | 1, _ => exact (q_pth_of [true, false, true, true, false, true, false, false, false, true, true] _ hgv)
    | 2, _ => exact (q_pth_of [true, false, true, true, false, true, false, false, true, false, false] _ hgv)
    | 3, _ => exact (q_pth_of [true, false, true, true, false, true, false, false, true, false, true] _ hgv)
    | j + 4, h => exact absurd h (by omega)
theorem st_42 (hts : ∀ w ∈ lw_tbl, w.before #[Value.ref b] s = true) (hgv : (Jvm.Cond.and given_1 narrow_1).before #[Value.ref b] s = true) (hA : ∀ a : Nat, a < s.heap.size → ¬ A a) : ∃ x : Nat × Nat, vk_R "JarCabinet$Tape" 63 "vinegar" x.1 s ∧ va_O "java/lang/String" x.1 A s s.heap ∧ va_OF "java/lang/String" "coder" "B" (.int 0) x.1 A s s.heap ∧ va_OF "java/lang/String" "value" "[B" (.ref x.2) x.1 A s s.heap ∧ va_T .byte x.2 7 (fun j => .int (([118, 105, 110, 101, 103, 97, 114] : List Int32).getD j 0)) A s s.heap := by
  refine q_str1 (bytes := [118, 105, 110, 101, 103, 97, 114]) hA (hts _ (q_lk_mem in_4 124 rfl)) (q_pth_of [true, false, false, false, true, true, false, true, true, true, false] _ hgv) (q_pth_of [true, false, false, false, true, true, false, true, true, true, true] _ hgv) (q_pth_of [true, false, false, false, true, true, true, false, false, false] _ hgv) (q_pth_of [true, false, false, false, true, true, true, false, false, true, false] _ hgv) (by decide) (fun j hj => ?_)
  match j, hj with
    | 0, _ => exact (q_pth_of [true, false, false, false, true, true, true, false, false, true, true] _ hgv)
    | 1, _ => exact (q_pth_of [true, false, false, false, true, true, true, false, true, false, false] _ hgv)
    | 2, _ => exact (q_pth_of [true, false, false, false, true, true, true, false, true, false, true] _ hgv)
    | 3, _ => exact (q_pth_of [true, false, false, false, true, true, true, false, true, true, false] _ hgv)
    | 4, _ => exact (q_pth_of [true, false, false, false, true, true, true, false, true, true, true] _ hgv)
    | 5, _ => exact (q_pth_of [true, false, false, false, true, true, true, true, false, false, false] _ hgv)
    | 6, _ => exact (q_pth_of [true, false, false, false, true, true, true, true, false, false, true] _ hgv)
    | j + 7, h => exact absurd h (by omega)
theorem st_43 (hts : ∀ w ∈ lw_tbl, w.before #[Value.ref b] s = true) (hgv : (Jvm.Cond.and given_1 narrow_1).before #[Value.ref b] s = true) (hA : ∀ a : Nat, a < s.heap.size → ¬ A a) : ∃ x : Nat × Nat, vk_R "JarCabinet$Tape" 68 "honey" x.1 s ∧ va_O "java/lang/String" x.1 A s s.heap ∧ va_OF "java/lang/String" "coder" "B" (.int 0) x.1 A s s.heap ∧ va_OF "java/lang/String" "value" "[B" (.ref x.2) x.1 A s s.heap ∧ va_T .byte x.2 5 (fun j => .int (([104, 111, 110, 101, 121] : List Int32).getD j 0)) A s s.heap := by
  refine q_str1 (bytes := [104, 111, 110, 101, 121]) hA (hts _ (q_lk_mem in_4 130 rfl)) (q_pth_of [true, false, false, false, true, true, true, true, false, true, false] _ hgv) (q_pth_of [true, false, false, false, true, true, true, true, false, true, true] _ hgv) (q_pth_of [true, false, false, false, true, true, true, true, true, false, false] _ hgv) (q_pth_of [true, false, false, false, true, true, true, true, true, false, true] _ hgv) (by decide) (fun j hj => ?_)
  match j, hj with
    | 0, _ => exact (q_pth_of [true, false, false, false, true, true, true, true, true, true, false] _ hgv)
    | 1, _ => exact (q_pth_of [true, false, false, false, true, true, true, true, true, true, true] _ hgv)
    | 2, _ => exact (q_pth_of [true, false, false, true, false, false, false, false, false, false] _ hgv)
    | 3, _ => exact (q_pth_of [true, false, false, true, false, false, false, false, false, true, false] _ hgv)
    | 4, _ => exact (q_pth_of [true, false, false, true, false, false, false, false, false, true, true] _ hgv)
    | j + 5, h => exact absurd h (by omega)
theorem st_44 (hts : ∀ w ∈ lw_tbl, w.before #[Value.ref b] s = true) (hgv : (Jvm.Cond.and given_1 narrow_1).before #[Value.ref b] s = true) (hA : ∀ a : Nat, a < s.heap.size → ¬ A a) : ∃ x : Nat × Nat, vk_R "JarCabinet$Tape" 70 "water" x.1 s ∧ va_O "java/lang/String" x.1 A s s.heap ∧ va_OF "java/lang/String" "coder" "B" (.int 0) x.1 A s s.heap ∧ va_OF "java/lang/String" "value" "[B" (.ref x.2) x.1 A s s.heap ∧ va_T .byte x.2 5 (fun j => .int (([119, 97, 116, 101, 114] : List Int32).getD j 0)) A s s.heap := by
  refine q_str1 (bytes := [119, 97, 116, 101, 114]) hA (hts _ (q_lk_mem in_4 131 rfl)) (q_pth_of [true, false, false, true, false, false, false, false, true, false, false] _ hgv) (q_pth_of [true, false, false, true, false, false, false, false, true, false, true] _ hgv) (q_pth_of [true, false, false, true, false, false, false, false, true, true, false] _ hgv) (q_pth_of [true, false, false, true, false, false, false, false, true, true, true] _ hgv) (by decide) (fun j hj => ?_)
  match j, hj with
    | 0, _ => exact (q_pth_of [true, false, false, true, false, false, false, true, false, false] _ hgv)
    | 1, _ => exact (q_pth_of [true, false, false, true, false, false, false, true, false, true, false] _ hgv)
    | 2, _ => exact (q_pth_of [true, false, false, true, false, false, false, true, false, true, true] _ hgv)
    | 3, _ => exact (q_pth_of [true, false, false, true, false, false, false, true, true, false, false] _ hgv)
    | 4, _ => exact (q_pth_of [true, false, false, true, false, false, false, true, true, false, true] _ hgv)
    | j + 5, h => exact absurd h (by omega)
theorem st_45 (hts : ∀ w ∈ lw_tbl, w.before #[Value.ref b] s = true) (hgv : (Jvm.Cond.and given_1 narrow_1).before #[Value.ref b] s = true) (hA : ∀ a : Nat, a < s.heap.size → ¬ A a) : ∃ x : Nat × Nat, vk_R "JarCabinetModel" 102 "vinegar" x.1 s ∧ va_O "java/lang/String" x.1 A s s.heap ∧ va_OF "java/lang/String" "coder" "B" (.int 0) x.1 A s s.heap ∧ va_OF "java/lang/String" "value" "[B" (.ref x.2) x.1 A s s.heap ∧ va_T .byte x.2 7 (fun j => .int (([118, 105, 110, 101, 103, 97, 114] : List Int32).getD j 0)) A s s.heap := by
  refine q_str1 (bytes := [118, 105, 110, 101, 103, 97, 114]) hA (hts _ (q_lk_mem in_8 67 rfl)) (q_pth_of [true, true, true, false, false, true, true, false, true, false, true] _ hgv) (q_pth_of [true, true, true, false, false, true, true, false, true, true, false] _ hgv) (q_pth_of [true, true, true, false, false, true, true, false, true, true, true] _ hgv) (q_pth_of [true, true, true, false, false, true, true, true, false, false, false] _ hgv) (by decide) (fun j hj => ?_)
  match j, hj with
    | 0, _ => exact (q_pth_of [true, true, true, false, false, true, true, true, false, false, true] _ hgv)
    | 1, _ => exact (q_pth_of [true, true, true, false, false, true, true, true, false, true, false] _ hgv)
    | 2, _ => exact (q_pth_of [true, true, true, false, false, true, true, true, false, true, true] _ hgv)
    | 3, _ => exact (q_pth_of [true, true, true, false, false, true, true, true, true, false, false] _ hgv)
    | 4, _ => exact (q_pth_of [true, true, true, false, false, true, true, true, true, false, true] _ hgv)
    | 5, _ => exact (q_pth_of [true, true, true, false, false, true, true, true, true, true, false] _ hgv)
    | 6, _ => exact (q_pth_of [true, true, true, false, false, true, true, true, true, true, true] _ hgv)
    | j + 7, h => exact absurd h (by omega)
theorem st_46 (hts : ∀ w ∈ lw_tbl, w.before #[Value.ref b] s = true) (hgv : (Jvm.Cond.and given_1 narrow_1).before #[Value.ref b] s = true) (hA : ∀ a : Nat, a < s.heap.size → ¬ A a) : ∃ x : Nat × Nat, vk_R "JarCabinetModel" 104 "honey" x.1 s ∧ va_O "java/lang/String" x.1 A s s.heap ∧ va_OF "java/lang/String" "coder" "B" (.int 0) x.1 A s s.heap ∧ va_OF "java/lang/String" "value" "[B" (.ref x.2) x.1 A s s.heap ∧ va_T .byte x.2 5 (fun j => .int (([104, 111, 110, 101, 121] : List Int32).getD j 0)) A s s.heap := by
  refine q_str1 (bytes := [104, 111, 110, 101, 121]) hA (hts _ (q_lk_mem in_8 68 rfl)) (q_pth_of [true, true, true, false, true, false, false, false, false, true, false] _ hgv) (q_pth_of [true, true, true, false, true, false, false, false, false, true, true] _ hgv) (q_pth_of [true, true, true, false, true, false, false, false, true, false, false] _ hgv) (q_pth_of [true, true, true, false, true, false, false, false, true, false, true] _ hgv) (by decide) (fun j hj => ?_)
  match j, hj with
    | 0, _ => exact (q_pth_of [true, true, true, false, true, false, false, false, true, true, false] _ hgv)
    | 1, _ => exact (q_pth_of [true, true, true, false, true, false, false, false, true, true, true] _ hgv)
    | 2, _ => exact (q_pth_of [true, true, true, false, true, false, false, true, false, false, false] _ hgv)
    | 3, _ => exact (q_pth_of [true, true, true, false, true, false, false, true, false, false, true] _ hgv)
    | 4, _ => exact (q_pth_of [true, true, true, false, true, false, false, true, false, true, false] _ hgv)
    | j + 5, h => exact absurd h (by omega)
theorem st_47 (hts : ∀ w ∈ lw_tbl, w.before #[Value.ref b] s = true) (hgv : (Jvm.Cond.and given_1 narrow_1).before #[Value.ref b] s = true) (hA : ∀ a : Nat, a < s.heap.size → ¬ A a) : ∃ x : Nat × Nat, vk_R "JarCabinetModel" 106 "water" x.1 s ∧ va_O "java/lang/String" x.1 A s s.heap ∧ va_OF "java/lang/String" "coder" "B" (.int 0) x.1 A s s.heap ∧ va_OF "java/lang/String" "value" "[B" (.ref x.2) x.1 A s s.heap ∧ va_T .byte x.2 5 (fun j => .int (([119, 97, 116, 101, 114] : List Int32).getD j 0)) A s s.heap := by
  refine q_str1 (bytes := [119, 97, 116, 101, 114]) hA (hts _ (q_lk_mem in_8 69 rfl)) (q_pth_of [true, true, true, false, true, false, false, true, true, false, false] _ hgv) (q_pth_of [true, true, true, false, true, false, false, true, true, false, true] _ hgv) (q_pth_of [true, true, true, false, true, false, false, true, true, true, false] _ hgv) (q_pth_of [true, true, true, false, true, false, false, true, true, true, true] _ hgv) (by decide) (fun j hj => ?_)
  match j, hj with
    | 0, _ => exact (q_pth_of [true, true, true, false, true, false, true, false, false, false] _ hgv)
    | 1, _ => exact (q_pth_of [true, true, true, false, true, false, true, false, false, true, false] _ hgv)
    | 2, _ => exact (q_pth_of [true, true, true, false, true, false, true, false, false, true, true] _ hgv)
    | 3, _ => exact (q_pth_of [true, true, true, false, true, false, true, false, true, false, false] _ hgv)
    | 4, _ => exact (q_pth_of [true, true, true, false, true, false, true, false, true, false, true] _ hgv)
    | j + 5, h => exact absurd h (by omega)
theorem st_48 (hts : ∀ w ∈ lw_tbl, w.before #[Value.ref b] s = true) (hgv : (Jvm.Cond.and given_1 narrow_1).before #[Value.ref b] s = true) (hA : ∀ a : Nat, a < s.heap.size → ¬ A a) : ∃ x : Nat × Nat, vk_R "JarCabinetModel" 108 "views" x.1 s ∧ va_O "java/lang/String" x.1 A s s.heap ∧ va_OF "java/lang/String" "coder" "B" (.int 0) x.1 A s s.heap ∧ va_OF "java/lang/String" "value" "[B" (.ref x.2) x.1 A s s.heap ∧ va_T .byte x.2 5 (fun j => .int (([118, 105, 101, 119, 115] : List Int32).getD j 0)) A s s.heap := by
  refine q_str1 (bytes := [118, 105, 101, 119, 115]) hA (hts _ (q_lk_mem in_8 121 rfl)) (q_pth_of [true, true, true, true, true, false, false, false, false, true, true] _ hgv) (q_pth_of [true, true, true, true, true, false, false, false, true, false, false] _ hgv) (q_pth_of [true, true, true, true, true, false, false, false, true, false, true] _ hgv) (q_pth_of [true, true, true, true, true, false, false, false, true, true, false] _ hgv) (by decide) (fun j hj => ?_)
  match j, hj with
    | 0, _ => exact (q_pth_of [true, true, true, true, true, false, false, false, true, true, true] _ hgv)
    | 1, _ => exact (q_pth_of [true, true, true, true, true, false, false, true, false, false, false] _ hgv)
    | 2, _ => exact (q_pth_of [true, true, true, true, true, false, false, true, false, false, true] _ hgv)
    | 3, _ => exact (q_pth_of [true, true, true, true, true, false, false, true, false, true, false] _ hgv)
    | 4, _ => exact (q_pth_of [true, true, true, true, true, false, false, true, false, true, true] _ hgv)
    | j + 5, h => exact absurd h (by omega)
theorem st_49 (hts : ∀ w ∈ lw_tbl, w.before #[Value.ref b] s = true) (hgv : (Jvm.Cond.and given_1 narrow_1).before #[Value.ref b] s = true) (hA : ∀ a : Nat, a < s.heap.size → ¬ A a) : ∃ x : Nat × Nat, vk_R "JarCabinetModel" 116 "at" x.1 s ∧ va_O "java/lang/String" x.1 A s s.heap ∧ va_OF "java/lang/String" "coder" "B" (.int 0) x.1 A s s.heap ∧ va_OF "java/lang/String" "value" "[B" (.ref x.2) x.1 A s s.heap ∧ va_T .byte x.2 2 (fun j => .int (([97, 116] : List Int32).getD j 0)) A s s.heap := by
  refine q_str1 (bytes := [97, 116]) hA (hts _ (q_lk_mem in_8 103 rfl)) (q_pth_of [true, true, true, true, false, true, true, false, false, true, false] _ hgv) (q_pth_of [true, true, true, true, false, true, true, false, false, true, true] _ hgv) (q_pth_of [true, true, true, true, false, true, true, false, true, false, false] _ hgv) (q_pth_of [true, true, true, true, false, true, true, false, true, false, true] _ hgv) (by decide) (fun j hj => ?_)
  match j, hj with
    | 0, _ => exact (q_pth_of [true, true, true, true, false, true, true, false, true, true, false] _ hgv)
    | 1, _ => exact (q_pth_of [true, true, true, true, false, true, true, false, true, true, true] _ hgv)
    | j + 2, h => exact absurd h (by omega)
theorem st_50 (hts : ∀ w ∈ lw_tbl, w.before #[Value.ref b] s = true) (hgv : (Jvm.Cond.and given_1 narrow_1).before #[Value.ref b] s = true) (hA : ∀ a : Nat, a < s.heap.size → ¬ A a) : ∃ x : Nat × Nat, vk_R "JarCabinetModel" 120 "spoons" x.1 s ∧ va_O "java/lang/String" x.1 A s s.heap ∧ va_OF "java/lang/String" "coder" "B" (.int 0) x.1 A s s.heap ∧ va_OF "java/lang/String" "value" "[B" (.ref x.2) x.1 A s s.heap ∧ va_T .byte x.2 6 (fun j => .int (([115, 112, 111, 111, 110, 115] : List Int32).getD j 0)) A s s.heap := by
  refine q_str1 (bytes := [115, 112, 111, 111, 110, 115]) hA (hts _ (q_lk_mem in_8 82 rfl)) (q_pth_of [true, true, true, false, true, true, true, true, true, true, true] _ hgv) (q_pth_of [true, true, true, true, false, false, false, false, false, false] _ hgv) (q_pth_of [true, true, true, true, false, false, false, false, false, true, false] _ hgv) (q_pth_of [true, true, true, true, false, false, false, false, false, true, true] _ hgv) (by decide) (fun j hj => ?_)
  match j, hj with
    | 0, _ => exact (q_pth_of [true, true, true, true, false, false, false, false, true, false, false] _ hgv)
    | 1, _ => exact (q_pth_of [true, true, true, true, false, false, false, false, true, false, true] _ hgv)
    | 2, _ => exact (q_pth_of [true, true, true, true, false, false, false, false, true, true, false] _ hgv)
    | 3, _ => exact (q_pth_of [true, true, true, true, false, false, false, false, true, true, true] _ hgv)
    | 4, _ => exact (q_pth_of [true, true, true, true, false, false, false, true, false, false] _ hgv)
    | 5, _ => exact (q_pth_of [true, true, true, true, false, false, false, true, false, true, false] _ hgv)
    | j + 6, h => exact absurd h (by omega)
theorem st_51 (hts : ∀ w ∈ lw_tbl, w.before #[Value.ref b] s = true) (hgv : (Jvm.Cond.and given_1 narrow_1).before #[Value.ref b] s = true) (hA : ∀ a : Nat, a < s.heap.size → ¬ A a) : ∃ x : Nat × Nat, vk_R "JarCabinetModel" 126 "sour" x.1 s ∧ va_O "java/lang/String" x.1 A s s.heap ∧ va_OF "java/lang/String" "coder" "B" (.int 0) x.1 A s s.heap ∧ va_OF "java/lang/String" "value" "[B" (.ref x.2) x.1 A s s.heap ∧ va_T .byte x.2 4 (fun j => .int (([115, 111, 117, 114] : List Int32).getD j 0)) A s s.heap := by
  refine q_str1 (bytes := [115, 111, 117, 114]) hA (hts _ (q_lk_mem in_8 35 rfl)) (q_pth_of [true, true, true, false, false, false, true, false, false, true, false] _ hgv) (q_pth_of [true, true, true, false, false, false, true, false, false, true, true] _ hgv) (q_pth_of [true, true, true, false, false, false, true, false, true, false, false] _ hgv) (q_pth_of [true, true, true, false, false, false, true, false, true, false, true] _ hgv) (by decide) (fun j hj => ?_)
  match j, hj with
    | 0, _ => exact (q_pth_of [true, true, true, false, false, false, true, false, true, true, false] _ hgv)
    | 1, _ => exact (q_pth_of [true, true, true, false, false, false, true, false, true, true, true] _ hgv)
    | 2, _ => exact (q_pth_of [true, true, true, false, false, false, true, true, false, false, false] _ hgv)
    | 3, _ => exact (q_pth_of [true, true, true, false, false, false, true, true, false, false, true] _ hgv)
    | j + 4, h => exact absurd h (by omega)
theorem st_52 (hts : ∀ w ∈ lw_tbl, w.before #[Value.ref b] s = true) (hgv : (Jvm.Cond.and given_1 narrow_1).before #[Value.ref b] s = true) (hA : ∀ a : Nat, a < s.heap.size → ¬ A a) : ∃ x : Nat × Nat, vk_R "JarCabinetModel" 128 "seal" x.1 s ∧ va_O "java/lang/String" x.1 A s s.heap ∧ va_OF "java/lang/String" "coder" "B" (.int 0) x.1 A s s.heap ∧ va_OF "java/lang/String" "value" "[B" (.ref x.2) x.1 A s s.heap ∧ va_T .byte x.2 4 (fun j => .int (([115, 101, 97, 108] : List Int32).getD j 0)) A s s.heap := by
  refine q_str1 (bytes := [115, 101, 97, 108]) hA (hts _ (q_lk_mem in_8 116 rfl)) (q_pth_of [true, true, true, true, false, true, true, true, false, false, true] _ hgv) (q_pth_of [true, true, true, true, false, true, true, true, false, true, false] _ hgv) (q_pth_of [true, true, true, true, false, true, true, true, false, true, true] _ hgv) (q_pth_of [true, true, true, true, false, true, true, true, true, false, false] _ hgv) (by decide) (fun j hj => ?_)
  match j, hj with
    | 0, _ => exact (q_pth_of [true, true, true, true, false, true, true, true, true, false, true] _ hgv)
    | 1, _ => exact (q_pth_of [true, true, true, true, false, true, true, true, true, true, false] _ hgv)
    | 2, _ => exact (q_pth_of [true, true, true, true, false, true, true, true, true, true, true] _ hgv)
    | 3, _ => exact (q_pth_of [true, true, true, true, true, false, false, false, false, false] _ hgv)
    | j + 4, h => exact absurd h (by omega)
theorem st_53 (hts : ∀ w ∈ lw_tbl, w.before #[Value.ref b] s = true) (hgv : (Jvm.Cond.and given_1 narrow_1).before #[Value.ref b] s = true) (hA : ∀ a : Nat, a < s.heap.size → ¬ A a) : ∃ x : Nat × Nat, vk_R "JarCabinetModel" 133 "jar" x.1 s ∧ va_O "java/lang/String" x.1 A s s.heap ∧ va_OF "java/lang/String" "coder" "B" (.int 0) x.1 A s s.heap ∧ va_OF "java/lang/String" "value" "[B" (.ref x.2) x.1 A s s.heap ∧ va_T .byte x.2 3 (fun j => .int (([106, 97, 114] : List Int32).getD j 0)) A s s.heap := by
  refine q_str1 (bytes := [106, 97, 114]) hA (hts _ (q_lk_mem in_8 79 rfl)) (q_pth_of [true, true, true, false, true, true, false, false, false, false] _ hgv) (q_pth_of [true, true, true, false, true, true, false, false, false, true, false] _ hgv) (q_pth_of [true, true, true, false, true, true, false, false, false, true, true] _ hgv) (q_pth_of [true, true, true, false, true, true, false, false, true, false, false] _ hgv) (by decide) (fun j hj => ?_)
  match j, hj with
    | 0, _ => exact (q_pth_of [true, true, true, false, true, true, false, false, true, false, true] _ hgv)
    | 1, _ => exact (q_pth_of [true, true, true, false, true, true, false, false, true, true, false] _ hgv)
    | 2, _ => exact (q_pth_of [true, true, true, false, true, true, false, false, true, true, true] _ hgv)
    | j + 3, h => exact absurd h (by omega)
theorem st_54 (hts : ∀ w ∈ lw_tbl, w.before #[Value.ref b] s = true) (hgv : (Jvm.Cond.and given_1 narrow_1).before #[Value.ref b] s = true) (hA : ∀ a : Nat, a < s.heap.size → ¬ A a) : ∃ x : Nat × Nat, vk_R "JarCabinetModel" 138 "light" x.1 s ∧ va_O "java/lang/String" x.1 A s s.heap ∧ va_OF "java/lang/String" "coder" "B" (.int 0) x.1 A s s.heap ∧ va_OF "java/lang/String" "value" "[B" (.ref x.2) x.1 A s s.heap ∧ va_T .byte x.2 5 (fun j => .int (([108, 105, 103, 104, 116] : List Int32).getD j 0)) A s s.heap := by
  refine q_str1 (bytes := [108, 105, 103, 104, 116]) hA (hts _ (q_lk_mem in_8 122 rfl)) (q_pth_of [true, true, true, true, true, false, false, true, true, false, true] _ hgv) (q_pth_of [true, true, true, true, true, false, false, true, true, true, false] _ hgv) (q_pth_of [true, true, true, true, true, false, false, true, true, true, true] _ hgv) (q_pth_of [true, true, true, true, true, false, true, false, false, false] _ hgv) (by decide) (fun j hj => ?_)
  match j, hj with
    | 0, _ => exact (q_pth_of [true, true, true, true, true, false, true, false, false, true, false] _ hgv)
    | 1, _ => exact (q_pth_of [true, true, true, true, true, false, true, false, false, true, true] _ hgv)
    | 2, _ => exact (q_pth_of [true, true, true, true, true, false, true, false, true, false, false] _ hgv)
    | 3, _ => exact (q_pth_of [true, true, true, true, true, false, true, false, true, false, true] _ hgv)
    | 4, _ => exact (q_pth_of [true, true, true, true, true, false, true, false, true, true, false] _ hgv)
    | j + 5, h => exact absurd h (by omega)
theorem st_55 (hts : ∀ w ∈ lw_tbl, w.before #[Value.ref b] s = true) (hgv : (Jvm.Cond.and given_1 narrow_1).before #[Value.ref b] s = true) (hA : ∀ a : Nat, a < s.heap.size → ¬ A a) : ∃ x : Nat × Nat, vk_R "JarCabinetModel" 143 "need" x.1 s ∧ va_O "java/lang/String" x.1 A s s.heap ∧ va_OF "java/lang/String" "coder" "B" (.int 0) x.1 A s s.heap ∧ va_OF "java/lang/String" "value" "[B" (.ref x.2) x.1 A s s.heap ∧ va_T .byte x.2 4 (fun j => .int (([110, 101, 101, 100] : List Int32).getD j 0)) A s s.heap := by
  refine q_str1 (bytes := [110, 101, 101, 100]) hA (hts _ (q_lk_mem in_8 127 rfl)) (q_pth_of [true, true, true, true, true, false, true, true, false, false, false] _ hgv) (q_pth_of [true, true, true, true, true, false, true, true, false, false, true] _ hgv) (q_pth_of [true, true, true, true, true, false, true, true, false, true, false] _ hgv) (q_pth_of [true, true, true, true, true, false, true, true, false, true, true] _ hgv) (by decide) (fun j hj => ?_)
  match j, hj with
    | 0, _ => exact (q_pth_of [true, true, true, true, true, false, true, true, true, false, false] _ hgv)
    | 1, _ => exact (q_pth_of [true, true, true, true, true, false, true, true, true, false, true] _ hgv)
    | 2, _ => exact (q_pth_of [true, true, true, true, true, false, true, true, true, true, false] _ hgv)
    | 3, _ => exact (q_pth_of [true, true, true, true, true, false, true, true, true, true, true] _ hgv)
    | j + 4, h => exact absurd h (by omega)
theorem st_56 (hts : ∀ w ∈ lw_tbl, w.before #[Value.ref b] s = true) (hgv : (Jvm.Cond.and given_1 narrow_1).before #[Value.ref b] s = true) (hA : ∀ a : Nat, a < s.heap.size → ¬ A a) : ∃ x : Nat × Nat, vk_R "JarCabinetModel" 148 "quota" x.1 s ∧ va_O "java/lang/String" x.1 A s s.heap ∧ va_OF "java/lang/String" "coder" "B" (.int 0) x.1 A s s.heap ∧ va_OF "java/lang/String" "value" "[B" (.ref x.2) x.1 A s s.heap ∧ va_T .byte x.2 5 (fun j => .int (([113, 117, 111, 116, 97] : List Int32).getD j 0)) A s s.heap := by
  refine q_str1 (bytes := [113, 117, 111, 116, 97]) hA (hts _ (q_lk_mem in_8 132 rfl)) (q_pth_of [true, true, true, true, true, true, false, false, false, true, false] _ hgv) (q_pth_of [true, true, true, true, true, true, false, false, false, true, true] _ hgv) (q_pth_of [true, true, true, true, true, true, false, false, true, false, false] _ hgv) (q_pth_of [true, true, true, true, true, true, false, false, true, false, true] _ hgv) (by decide) (fun j hj => ?_)
  match j, hj with
    | 0, _ => exact (q_pth_of [true, true, true, true, true, true, false, false, true, true, false] _ hgv)
    | 1, _ => exact (q_pth_of [true, true, true, true, true, true, false, false, true, true, true] _ hgv)
    | 2, _ => exact (q_pth_of [true, true, true, true, true, true, false, true, false, false, false] _ hgv)
    | 3, _ => exact (q_pth_of [true, true, true, true, true, true, false, true, false, false, true] _ hgv)
    | 4, _ => exact (q_pth_of [true, true, true, true, true, true, false, true, false, true, false] _ hgv)
    | j + 5, h => exact absurd h (by omega)
theorem st_57 (hts : ∀ w ∈ lw_tbl, w.before #[Value.ref b] s = true) (hgv : (Jvm.Cond.and given_1 narrow_1).before #[Value.ref b] s = true) (hA : ∀ a : Nat, a < s.heap.size → ¬ A a) : ∃ x : Nat × Nat, vk_R "JarCabinetModel" 150 "peel" x.1 s ∧ va_O "java/lang/String" x.1 A s s.heap ∧ va_OF "java/lang/String" "coder" "B" (.int 0) x.1 A s s.heap ∧ va_OF "java/lang/String" "value" "[B" (.ref x.2) x.1 A s s.heap ∧ va_T .byte x.2 4 (fun j => .int (([112, 101, 101, 108] : List Int32).getD j 0)) A s s.heap := by
  refine q_str1 (bytes := [112, 101, 101, 108]) hA (hts _ (q_lk_mem in_8 133 rfl)) (q_pth_of [true, true, true, true, true, true, false, true, true, false, false] _ hgv) (q_pth_of [true, true, true, true, true, true, false, true, true, false, true] _ hgv) (q_pth_of [true, true, true, true, true, true, false, true, true, true, false] _ hgv) (q_pth_of [true, true, true, true, true, true, false, true, true, true, true] _ hgv) (by decide) (fun j hj => ?_)
  match j, hj with
    | 0, _ => exact (q_pth_of [true, true, true, true, true, true, true, false, false, false] _ hgv)
    | 1, _ => exact (q_pth_of [true, true, true, true, true, true, true, false, false, true, false] _ hgv)
    | 2, _ => exact (q_pth_of [true, true, true, true, true, true, true, false, false, true, true] _ hgv)
    | 3, _ => exact (q_pth_of [true, true, true, true, true, true, true, false, true, false, false] _ hgv)
    | j + 4, h => exact absurd h (by omega)
theorem st_58 (hts : ∀ w ∈ lw_tbl, w.before #[Value.ref b] s = true) (hgv : (Jvm.Cond.and given_1 narrow_1).before #[Value.ref b] s = true) (hA : ∀ a : Nat, a < s.heap.size → ¬ A a) : ∃ x : Nat × Nat, vk_R "JarCabinetModel" 152 "wasps" x.1 s ∧ va_O "java/lang/String" x.1 A s s.heap ∧ va_OF "java/lang/String" "coder" "B" (.int 0) x.1 A s s.heap ∧ va_OF "java/lang/String" "value" "[B" (.ref x.2) x.1 A s s.heap ∧ va_T .byte x.2 5 (fun j => .int (([119, 97, 115, 112, 115] : List Int32).getD j 0)) A s s.heap := by
  refine q_str1 (bytes := [119, 97, 115, 112, 115]) hA (hts _ (q_lk_mem in_8 134 rfl)) (q_pth_of [true, true, true, true, true, true, true, false, true, true, false] _ hgv) (q_pth_of [true, true, true, true, true, true, true, false, true, true, true] _ hgv) (q_pth_of [true, true, true, true, true, true, true, true, false, false, false] _ hgv) (q_pth_of [true, true, true, true, true, true, true, true, false, false, true] _ hgv) (by decide) (fun j hj => ?_)
  match j, hj with
    | 0, _ => exact (q_pth_of [true, true, true, true, true, true, true, true, false, true, false] _ hgv)
    | 1, _ => exact (q_pth_of [true, true, true, true, true, true, true, true, false, true, true] _ hgv)
    | 2, _ => exact (q_pth_of [true, true, true, true, true, true, true, true, true, false, false] _ hgv)
    | 3, _ => exact (q_pth_of [true, true, true, true, true, true, true, true, true, false, true] _ hgv)
    | 4, _ => exact (q_pth_of [true, true, true, true, true, true, true, true, true, true, false] _ hgv)
    | j + 5, h => exact absurd h (by omega)
theorem st_59 (hts : ∀ w ∈ lw_tbl, w.before #[Value.ref b] s = true) (hgv : (Jvm.Cond.and given_1 narrow_1).before #[Value.ref b] s = true) (hA : ∀ a : Nat, a < s.heap.size → ¬ A a) : ∃ x : Nat × Nat, vk_R "JarCabinetModel" 183 "matter" x.1 s ∧ va_O "java/lang/String" x.1 A s s.heap ∧ va_OF "java/lang/String" "coder" "B" (.int 0) x.1 A s s.heap ∧ va_OF "java/lang/String" "value" "[B" (.ref x.2) x.1 A s s.heap ∧ va_T .byte x.2 6 (fun j => .int (([109, 97, 116, 116, 101, 114] : List Int32).getD j 0)) A s s.heap := by
  refine q_str1 (bytes := [109, 97, 116, 116, 101, 114]) hA (hts _ (q_lk_mem in_8 80 rfl)) (q_pth_of [true, true, true, false, true, true, false, true, false, true, false] _ hgv) (q_pth_of [true, true, true, false, true, true, false, true, false, true, true] _ hgv) (q_pth_of [true, true, true, false, true, true, false, true, true, false, false] _ hgv) (q_pth_of [true, true, true, false, true, true, false, true, true, false, true] _ hgv) (by decide) (fun j hj => ?_)
  match j, hj with
    | 0, _ => exact (q_pth_of [true, true, true, false, true, true, false, true, true, true, false] _ hgv)
    | 1, _ => exact (q_pth_of [true, true, true, false, true, true, false, true, true, true, true] _ hgv)
    | 2, _ => exact (q_pth_of [true, true, true, false, true, true, true, false, false, false] _ hgv)
    | 3, _ => exact (q_pth_of [true, true, true, false, true, true, true, false, false, true, false] _ hgv)
    | 4, _ => exact (q_pth_of [true, true, true, false, true, true, true, false, false, true, true] _ hgv)
    | 5, _ => exact (q_pth_of [true, true, true, false, true, true, true, false, true, false, false] _ hgv)
    | j + 6, h => exact absurd h (by omega)
theorem st_60 (hts : ∀ w ∈ lw_tbl, w.before #[Value.ref b] s = true) (hgv : (Jvm.Cond.and given_1 narrow_1).before #[Value.ref b] s = true) (hA : ∀ a : Nat, a < s.heap.size → ¬ A a) : ∃ x : Nat × Nat, vk_R "JarCabinetModel" 185 "view" x.1 s ∧ va_O "java/lang/String" x.1 A s s.heap ∧ va_OF "java/lang/String" "coder" "B" (.int 0) x.1 A s s.heap ∧ va_OF "java/lang/String" "value" "[B" (.ref x.2) x.1 A s s.heap ∧ va_T .byte x.2 4 (fun j => .int (([118, 105, 101, 119] : List Int32).getD j 0)) A s s.heap := by
  refine q_str1 (bytes := [118, 105, 101, 119]) hA (hts _ (q_lk_mem in_8 81 rfl)) (q_pth_of [true, true, true, false, true, true, true, false, true, true, false] _ hgv) (q_pth_of [true, true, true, false, true, true, true, false, true, true, true] _ hgv) (q_pth_of [true, true, true, false, true, true, true, true, false, false, false] _ hgv) (q_pth_of [true, true, true, false, true, true, true, true, false, false, true] _ hgv) (by decide) (fun j hj => ?_)
  match j, hj with
    | 0, _ => exact (q_pth_of [true, true, true, false, true, true, true, true, false, true, false] _ hgv)
    | 1, _ => exact (q_pth_of [true, true, true, false, true, true, true, true, false, true, true] _ hgv)
    | 2, _ => exact (q_pth_of [true, true, true, false, true, true, true, true, true, false, false] _ hgv)
    | 3, _ => exact (q_pth_of [true, true, true, false, true, true, true, true, true, false, true] _ hgv)
    | j + 4, h => exact absurd h (by omega)
theorem st_61 (hts : ∀ w ∈ lw_tbl, w.before #[Value.ref b] s = true) (hgv : (Jvm.Cond.and given_1 narrow_1).before #[Value.ref b] s = true) (hA : ∀ a : Nat, a < s.heap.size → ¬ A a) : ∃ x : Nat × Nat, vk_R "JarCabinetModel" 187 "place" x.1 s ∧ va_O "java/lang/String" x.1 A s s.heap ∧ va_OF "java/lang/String" "coder" "B" (.int 0) x.1 A s s.heap ∧ va_OF "java/lang/String" "value" "[B" (.ref x.2) x.1 A s s.heap ∧ va_T .byte x.2 5 (fun j => .int (([112, 108, 97, 99, 101] : List Int32).getD j 0)) A s s.heap := by
  refine q_str1 (bytes := [112, 108, 97, 99, 101]) hA (hts _ (q_lk_mem in_8 83 rfl)) (q_pth_of [true, true, true, true, false, false, false, true, true, false, true] _ hgv) (q_pth_of [true, true, true, true, false, false, false, true, true, true, false] _ hgv) (q_pth_of [true, true, true, true, false, false, false, true, true, true, true] _ hgv) (q_pth_of [true, true, true, true, false, false, true, false, false, false] _ hgv) (by decide) (fun j hj => ?_)
  match j, hj with
    | 0, _ => exact (q_pth_of [true, true, true, true, false, false, true, false, false, true, false] _ hgv)
    | 1, _ => exact (q_pth_of [true, true, true, true, false, false, true, false, false, true, true] _ hgv)
    | 2, _ => exact (q_pth_of [true, true, true, true, false, false, true, false, true, false, false] _ hgv)
    | 3, _ => exact (q_pth_of [true, true, true, true, false, false, true, false, true, false, true] _ hgv)
    | 4, _ => exact (q_pth_of [true, true, true, true, false, false, true, false, true, true, false] _ hgv)
    | j + 5, h => exact absurd h (by omega)
theorem st_62 (hts : ∀ w ∈ lw_tbl, w.before #[Value.ref b] s = true) (hgv : (Jvm.Cond.and given_1 narrow_1).before #[Value.ref b] s = true) (hA : ∀ a : Nat, a < s.heap.size → ¬ A a) : ∃ x : Nat × Nat, vk_R "JarCabinetModel" 188 "year" x.1 s ∧ va_O "java/lang/String" x.1 A s s.heap ∧ va_OF "java/lang/String" "coder" "B" (.int 0) x.1 A s s.heap ∧ va_OF "java/lang/String" "value" "[B" (.ref x.2) x.1 A s s.heap ∧ va_T .byte x.2 4 (fun j => .int (([121, 101, 97, 114] : List Int32).getD j 0)) A s s.heap := by
  refine q_str1 (bytes := [121, 101, 97, 114]) hA (hts _ (q_lk_mem in_8 84 rfl)) (q_pth_of [true, true, true, true, false, false, true, true, false, false, false] _ hgv) (q_pth_of [true, true, true, true, false, false, true, true, false, false, true] _ hgv) (q_pth_of [true, true, true, true, false, false, true, true, false, true, false] _ hgv) (q_pth_of [true, true, true, true, false, false, true, true, false, true, true] _ hgv) (by decide) (fun j hj => ?_)
  match j, hj with
    | 0, _ => exact (q_pth_of [true, true, true, true, false, false, true, true, true, false, false] _ hgv)
    | 1, _ => exact (q_pth_of [true, true, true, true, false, false, true, true, true, false, true] _ hgv)
    | 2, _ => exact (q_pth_of [true, true, true, true, false, false, true, true, true, true, false] _ hgv)
    | 3, _ => exact (q_pth_of [true, true, true, true, false, false, true, true, true, true, true] _ hgv)
    | j + 4, h => exact absurd h (by omega)
theorem st_63 (hts : ∀ w ∈ lw_tbl, w.before #[Value.ref b] s = true) (hgv : (Jvm.Cond.and given_1 narrow_1).before #[Value.ref b] s = true) (hA : ∀ a : Nat, a < s.heap.size → ¬ A a) : ∃ x : Nat × Nat, vk_R "JarCabinetModel" 196 "open" x.1 s ∧ va_O "java/lang/String" x.1 A s s.heap ∧ va_OF "java/lang/String" "coder" "B" (.int 0) x.1 A s s.heap ∧ va_OF "java/lang/String" "value" "[B" (.ref x.2) x.1 A s s.heap ∧ va_T .byte x.2 4 (fun j => .int (([111, 112, 101, 110] : List Int32).getD j 0)) A s s.heap := by
  refine q_str1 (bytes := [111, 112, 101, 110]) hA (hts _ (q_lk_mem in_8 70 rfl)) (q_pth_of [true, true, true, false, true, false, true, false, true, true, true] _ hgv) (q_pth_of [true, true, true, false, true, false, true, true, false, false, false] _ hgv) (q_pth_of [true, true, true, false, true, false, true, true, false, false, true] _ hgv) (q_pth_of [true, true, true, false, true, false, true, true, false, true, false] _ hgv) (by decide) (fun j hj => ?_)
  match j, hj with
    | 0, _ => exact (q_pth_of [true, true, true, false, true, false, true, true, false, true, true] _ hgv)
    | 1, _ => exact (q_pth_of [true, true, true, false, true, false, true, true, true, false, false] _ hgv)
    | 2, _ => exact (q_pth_of [true, true, true, false, true, false, true, true, true, false, true] _ hgv)
    | 3, _ => exact (q_pth_of [true, true, true, false, true, false, true, true, true, true, false] _ hgv)
    | j + 4, h => exact absurd h (by omega)
theorem st_64 (hts : ∀ w ∈ lw_tbl, w.before #[Value.ref b] s = true) (hgv : (Jvm.Cond.and given_1 narrow_1).before #[Value.ref b] s = true) (hA : ∀ a : Nat, a < s.heap.size → ¬ A a) : ∃ x : Nat × Nat, vk_R "JarCabinetModel" 205 "not" x.1 s ∧ va_O "java/lang/String" x.1 A s s.heap ∧ va_OF "java/lang/String" "coder" "B" (.int 0) x.1 A s s.heap ∧ va_OF "java/lang/String" "value" "[B" (.ref x.2) x.1 A s s.heap ∧ va_T .byte x.2 3 (fun j => .int (([110, 111, 116] : List Int32).getD j 0)) A s s.heap := by
  refine q_str1 (bytes := [110, 111, 116]) hA (hts _ (q_lk_mem in_8 58 rfl)) (q_pth_of [true, true, true, false, false, true, false, true, true, false, false] _ hgv) (q_pth_of [true, true, true, false, false, true, false, true, true, false, true] _ hgv) (q_pth_of [true, true, true, false, false, true, false, true, true, true, false] _ hgv) (q_pth_of [true, true, true, false, false, true, false, true, true, true, true] _ hgv) (by decide) (fun j hj => ?_)
  match j, hj with
    | 0, _ => exact (q_pth_of [true, true, true, false, false, true, true, false, false, false] _ hgv)
    | 1, _ => exact (q_pth_of [true, true, true, false, false, true, true, false, false, true, false] _ hgv)
    | 2, _ => exact (q_pth_of [true, true, true, false, false, true, true, false, false, true, true] _ hgv)
    | j + 3, h => exact absurd h (by omega)
theorem st_65 (hts : ∀ w ∈ lw_tbl, w.before #[Value.ref b] s = true) (hgv : (Jvm.Cond.and given_1 narrow_1).before #[Value.ref b] s = true) (hA : ∀ a : Nat, a < s.heap.size → ¬ A a) : ∃ x : Nat × Nat, vk_R "JarCabinetModel" 217 "and" x.1 s ∧ va_O "java/lang/String" x.1 A s s.heap ∧ va_OF "java/lang/String" "coder" "B" (.int 0) x.1 A s s.heap ∧ va_OF "java/lang/String" "value" "[B" (.ref x.2) x.1 A s s.heap ∧ va_T .byte x.2 3 (fun j => .int (([97, 110, 100] : List Int32).getD j 0)) A s s.heap := by
  refine q_str1 (bytes := [97, 110, 100]) hA (hts _ (q_lk_mem in_8 85 rfl)) (q_pth_of [true, true, true, true, false, true, false, false, false, true, false] _ hgv) (q_pth_of [true, true, true, true, false, true, false, false, false, true, true] _ hgv) (q_pth_of [true, true, true, true, false, true, false, false, true, false, false] _ hgv) (q_pth_of [true, true, true, true, false, true, false, false, true, false, true] _ hgv) (by decide) (fun j hj => ?_)
  match j, hj with
    | 0, _ => exact (q_pth_of [true, true, true, true, false, true, false, false, true, true, false] _ hgv)
    | 1, _ => exact (q_pth_of [true, true, true, true, false, true, false, false, true, true, true] _ hgv)
    | 2, _ => exact (q_pth_of [true, true, true, true, false, true, false, true, false, false, false] _ hgv)
    | j + 3, h => exact absurd h (by omega)
theorem st_66 (hts : ∀ w ∈ lw_tbl, w.before #[Value.ref b] s = true) (hgv : (Jvm.Cond.and given_1 narrow_1).before #[Value.ref b] s = true) (hA : ∀ a : Nat, a < s.heap.size → ¬ A a) : ∃ x : Nat × Nat, vk_R "JarCabinetModel" 222 "or" x.1 s ∧ va_O "java/lang/String" x.1 A s s.heap ∧ va_OF "java/lang/String" "coder" "B" (.int 0) x.1 A s s.heap ∧ va_OF "java/lang/String" "value" "[B" (.ref x.2) x.1 A s s.heap ∧ va_T .byte x.2 2 (fun j => .int (([111, 114] : List Int32).getD j 0)) A s s.heap := by
  refine q_str1 (bytes := [111, 114]) hA (hts _ (q_lk_mem in_8 86 rfl)) (q_pth_of [true, true, true, true, false, true, false, true, false, true, false] _ hgv) (q_pth_of [true, true, true, true, false, true, false, true, false, true, true] _ hgv) (q_pth_of [true, true, true, true, false, true, false, true, true, false, false] _ hgv) (q_pth_of [true, true, true, true, false, true, false, true, true, false, true] _ hgv) (by decide) (fun j hj => ?_)
  match j, hj with
    | 0, _ => exact (q_pth_of [true, true, true, true, false, true, false, true, true, true, false] _ hgv)
    | 1, _ => exact (q_pth_of [true, true, true, true, false, true, false, true, true, true, true] _ hgv)
    | j + 2, h => exact absurd h (by omega)
theorem st_67 (hts : ∀ w ∈ lw_tbl, w.before #[Value.ref b] s = true) (hgv : (Jvm.Cond.and given_1 narrow_1).before #[Value.ref b] s = true) (hA : ∀ a : Nat, a < s.heap.size → ¬ A a) : ∃ x : Nat × Nat, vk_R "JarCabinetModel" 224 "add" x.1 s ∧ va_O "java/lang/String" x.1 A s s.heap ∧ va_OF "java/lang/String" "coder" "B" (.int 0) x.1 A s s.heap ∧ va_OF "java/lang/String" "value" "[B" (.ref x.2) x.1 A s s.heap ∧ va_T .byte x.2 3 (fun j => .int (([97, 100, 100] : List Int32).getD j 0)) A s s.heap := by
  refine q_str1 (bytes := [97, 100, 100]) hA (hts _ (q_lk_mem in_8 27 rfl)) (q_pth_of [true, true, false, true, true, true, true, true, true, true, false] _ hgv) (q_pth_of [true, true, false, true, true, true, true, true, true, true, true] _ hgv) (q_pth_of [true, true, true, false, false, false, false, false, false, false] _ hgv) (q_pth_of [true, true, true, false, false, false, false, false, false, true, false] _ hgv) (by decide) (fun j hj => ?_)
  match j, hj with
    | 0, _ => exact (q_pth_of [true, true, true, false, false, false, false, false, false, true, true] _ hgv)
    | 1, _ => exact (q_pth_of [true, true, true, false, false, false, false, false, true, false, false] _ hgv)
    | 2, _ => exact (q_pth_of [true, true, true, false, false, false, false, false, true, false, true] _ hgv)
    | j + 3, h => exact absurd h (by omega)
theorem st_68 (hts : ∀ w ∈ lw_tbl, w.before #[Value.ref b] s = true) (hgv : (Jvm.Cond.and given_1 narrow_1).before #[Value.ref b] s = true) (hA : ∀ a : Nat, a < s.heap.size → ¬ A a) : ∃ x : Nat × Nat, vk_R "JarCabinetModel" 226 "less" x.1 s ∧ va_O "java/lang/String" x.1 A s s.heap ∧ va_OF "java/lang/String" "coder" "B" (.int 0) x.1 A s s.heap ∧ va_OF "java/lang/String" "value" "[B" (.ref x.2) x.1 A s s.heap ∧ va_T .byte x.2 4 (fun j => .int (([108, 101, 115, 115] : List Int32).getD j 0)) A s s.heap := by
  refine q_str1 (bytes := [108, 101, 115, 115]) hA (hts _ (q_lk_mem in_8 34 rfl)) (q_pth_of [true, true, true, false, false, false, false, false, true, true, true] _ hgv) (q_pth_of [true, true, true, false, false, false, false, true, false, false] _ hgv) (q_pth_of [true, true, true, false, false, false, false, true, false, true, false] _ hgv) (q_pth_of [true, true, true, false, false, false, false, true, false, true, true] _ hgv) (by decide) (fun j hj => ?_)
  match j, hj with
    | 0, _ => exact (q_pth_of [true, true, true, false, false, false, false, true, true, false, false] _ hgv)
    | 1, _ => exact (q_pth_of [true, true, true, false, false, false, false, true, true, false, true] _ hgv)
    | 2, _ => exact (q_pth_of [true, true, true, false, false, false, false, true, true, true, false] _ hgv)
    | 3, _ => exact (q_pth_of [true, true, true, false, false, false, false, true, true, true, true] _ hgv)
    | j + 4, h => exact absurd h (by omega)
theorem st_69 (hts : ∀ w ∈ lw_tbl, w.before #[Value.ref b] s = true) (hgv : (Jvm.Cond.and given_1 narrow_1).before #[Value.ref b] s = true) (hA : ∀ a : Nat, a < s.heap.size → ¬ A a) : ∃ x : Nat × Nat, vk_R "JarCabinetModel" 228 "pop" x.1 s ∧ va_O "java/lang/String" x.1 A s s.heap ∧ va_OF "java/lang/String" "coder" "B" (.int 0) x.1 A s s.heap ∧ va_OF "java/lang/String" "value" "[B" (.ref x.2) x.1 A s s.heap ∧ va_T .byte x.2 3 (fun j => .int (([112, 111, 112] : List Int32).getD j 0)) A s s.heap := by
  refine q_str1 (bytes := [112, 111, 112]) hA (hts _ (q_lk_mem in_8 36 rfl)) (q_pth_of [true, true, true, false, false, false, true, true, true, false, false] _ hgv) (q_pth_of [true, true, true, false, false, false, true, true, true, false, true] _ hgv) (q_pth_of [true, true, true, false, false, false, true, true, true, true, false] _ hgv) (q_pth_of [true, true, true, false, false, false, true, true, true, true, true] _ hgv) (by decide) (fun j hj => ?_)
  match j, hj with
    | 0, _ => exact (q_pth_of [true, true, true, false, false, true, false, false, false, false] _ hgv)
    | 1, _ => exact (q_pth_of [true, true, true, false, false, true, false, false, false, true, false] _ hgv)
    | 2, _ => exact (q_pth_of [true, true, true, false, false, true, false, false, false, true, true] _ hgv)
    | j + 3, h => exact absurd h (by omega)
theorem st_70 (hts : ∀ w ∈ lw_tbl, w.before #[Value.ref b] s = true) (hgv : (Jvm.Cond.and given_1 narrow_1).before #[Value.ref b] s = true) (hA : ∀ a : Nat, a < s.heap.size → ¬ A a) : ∃ x : Nat × Nat, vk_R "JarCabinetModel" 230 "if" x.1 s ∧ va_O "java/lang/String" x.1 A s s.heap ∧ va_OF "java/lang/String" "coder" "B" (.int 0) x.1 A s s.heap ∧ va_OF "java/lang/String" "value" "[B" (.ref x.2) x.1 A s s.heap ∧ va_T .byte x.2 2 (fun j => .int (([105, 102] : List Int32).getD j 0)) A s s.heap := by
  refine q_str1 (bytes := [105, 102]) hA (hts _ (q_lk_mem in_8 45 rfl)) (q_pth_of [true, true, true, false, false, true, false, false, true, false, true] _ hgv) (q_pth_of [true, true, true, false, false, true, false, false, true, true, false] _ hgv) (q_pth_of [true, true, true, false, false, true, false, false, true, true, true] _ hgv) (q_pth_of [true, true, true, false, false, true, false, true, false, false, false] _ hgv) (by decide) (fun j hj => ?_)
  match j, hj with
    | 0, _ => exact (q_pth_of [true, true, true, false, false, true, false, true, false, false, true] _ hgv)
    | 1, _ => exact (q_pth_of [true, true, true, false, false, true, false, true, false, true, false] _ hgv)
    | j + 2, h => exact absurd h (by omega)
theorem q_strs (hts : ∀ w ∈ lw_tbl, w.before #[Value.ref b] s = true) (hgv : (Jvm.Cond.and given_1 narrow_1).before #[Value.ref b] s = true) (hA : ∀ a : Nat, a < s.heap.size → ¬ A a) : ∀ i : Nat, ∃ x : Nat × Nat, ∀ (q : String × Nat × String) (bs : List Int32), q_sk[i]? = some q → q_sb[i]? = some bs → vk_R q.1 q.2.1 q.2.2 x.1 s ∧ va_O "java/lang/String" x.1 A s s.heap ∧ va_OF "java/lang/String" "coder" "B" (.int 0) x.1 A s s.heap ∧ va_OF "java/lang/String" "value" "[B" (.ref x.2) x.1 A s s.heap ∧ va_T .byte x.2 bs.length (fun j => .int (bs.getD j 0)) A s s.heap := by
  intro i
  match i with
  | 0 => obtain ⟨x, hx⟩ := st_0 hts hgv hA; exact ⟨x, fun q bs h1 h2 => by cases h1; cases h2; exact hx⟩
  | 1 => obtain ⟨x, hx⟩ := st_1 hts hgv hA; exact ⟨x, fun q bs h1 h2 => by cases h1; cases h2; exact hx⟩
  | 2 => obtain ⟨x, hx⟩ := st_2 hts hgv hA; exact ⟨x, fun q bs h1 h2 => by cases h1; cases h2; exact hx⟩
  | 3 => obtain ⟨x, hx⟩ := st_3 hts hgv hA; exact ⟨x, fun q bs h1 h2 => by cases h1; cases h2; exact hx⟩
  | 4 => obtain ⟨x, hx⟩ := st_4 hts hgv hA; exact ⟨x, fun q bs h1 h2 => by cases h1; cases h2; exact hx⟩
  | 5 => obtain ⟨x, hx⟩ := st_5 hts hgv hA; exact ⟨x, fun q bs h1 h2 => by cases h1; cases h2; exact hx⟩
  | 6 => obtain ⟨x, hx⟩ := st_6 hts hgv hA; exact ⟨x, fun q bs h1 h2 => by cases h1; cases h2; exact hx⟩
  | 7 => obtain ⟨x, hx⟩ := st_7 hts hgv hA; exact ⟨x, fun q bs h1 h2 => by cases h1; cases h2; exact hx⟩
  | 8 => obtain ⟨x, hx⟩ := st_8 hts hgv hA; exact ⟨x, fun q bs h1 h2 => by cases h1; cases h2; exact hx⟩
  | 9 => obtain ⟨x, hx⟩ := st_9 hts hgv hA; exact ⟨x, fun q bs h1 h2 => by cases h1; cases h2; exact hx⟩
  | 10 => obtain ⟨x, hx⟩ := st_10 hts hgv hA; exact ⟨x, fun q bs h1 h2 => by cases h1; cases h2; exact hx⟩
  | 11 => obtain ⟨x, hx⟩ := st_11 hts hgv hA; exact ⟨x, fun q bs h1 h2 => by cases h1; cases h2; exact hx⟩
  | 12 => obtain ⟨x, hx⟩ := st_12 hts hgv hA; exact ⟨x, fun q bs h1 h2 => by cases h1; cases h2; exact hx⟩
  | 13 => obtain ⟨x, hx⟩ := st_13 hts hgv hA; exact ⟨x, fun q bs h1 h2 => by cases h1; cases h2; exact hx⟩
  | 14 => obtain ⟨x, hx⟩ := st_14 hts hgv hA; exact ⟨x, fun q bs h1 h2 => by cases h1; cases h2; exact hx⟩
  | 15 => obtain ⟨x, hx⟩ := st_15 hts hgv hA; exact ⟨x, fun q bs h1 h2 => by cases h1; cases h2; exact hx⟩
  | 16 => obtain ⟨x, hx⟩ := st_16 hts hgv hA; exact ⟨x, fun q bs h1 h2 => by cases h1; cases h2; exact hx⟩
  | 17 => obtain ⟨x, hx⟩ := st_17 hts hgv hA; exact ⟨x, fun q bs h1 h2 => by cases h1; cases h2; exact hx⟩
  | 18 => obtain ⟨x, hx⟩ := st_18 hts hgv hA; exact ⟨x, fun q bs h1 h2 => by cases h1; cases h2; exact hx⟩
  | 19 => obtain ⟨x, hx⟩ := st_19 hts hgv hA; exact ⟨x, fun q bs h1 h2 => by cases h1; cases h2; exact hx⟩
  | 20 => obtain ⟨x, hx⟩ := st_20 hts hgv hA; exact ⟨x, fun q bs h1 h2 => by cases h1; cases h2; exact hx⟩
  | 21 => obtain ⟨x, hx⟩ := st_21 hts hgv hA; exact ⟨x, fun q bs h1 h2 => by cases h1; cases h2; exact hx⟩
  | 22 => obtain ⟨x, hx⟩ := st_22 hts hgv hA; exact ⟨x, fun q bs h1 h2 => by cases h1; cases h2; exact hx⟩
  | 23 => obtain ⟨x, hx⟩ := st_23 hts hgv hA; exact ⟨x, fun q bs h1 h2 => by cases h1; cases h2; exact hx⟩
  | 24 => obtain ⟨x, hx⟩ := st_24 hts hgv hA; exact ⟨x, fun q bs h1 h2 => by cases h1; cases h2; exact hx⟩
  | 25 => obtain ⟨x, hx⟩ := st_25 hts hgv hA; exact ⟨x, fun q bs h1 h2 => by cases h1; cases h2; exact hx⟩
  | 26 => obtain ⟨x, hx⟩ := st_26 hts hgv hA; exact ⟨x, fun q bs h1 h2 => by cases h1; cases h2; exact hx⟩
  | 27 => obtain ⟨x, hx⟩ := st_27 hts hgv hA; exact ⟨x, fun q bs h1 h2 => by cases h1; cases h2; exact hx⟩
  | 28 => obtain ⟨x, hx⟩ := st_28 hts hgv hA; exact ⟨x, fun q bs h1 h2 => by cases h1; cases h2; exact hx⟩
  | 29 => obtain ⟨x, hx⟩ := st_29 hts hgv hA; exact ⟨x, fun q bs h1 h2 => by cases h1; cases h2; exact hx⟩
  | 30 => obtain ⟨x, hx⟩ := st_30 hts hgv hA; exact ⟨x, fun q bs h1 h2 => by cases h1; cases h2; exact hx⟩
  | 31 => obtain ⟨x, hx⟩ := st_31 hts hgv hA; exact ⟨x, fun q bs h1 h2 => by cases h1; cases h2; exact hx⟩
  | 32 => obtain ⟨x, hx⟩ := st_32 hts hgv hA; exact ⟨x, fun q bs h1 h2 => by cases h1; cases h2; exact hx⟩
  | 33 => obtain ⟨x, hx⟩ := st_33 hts hgv hA; exact ⟨x, fun q bs h1 h2 => by cases h1; cases h2; exact hx⟩
  | 34 => obtain ⟨x, hx⟩ := st_34 hts hgv hA; exact ⟨x, fun q bs h1 h2 => by cases h1; cases h2; exact hx⟩
  | 35 => obtain ⟨x, hx⟩ := st_35 hts hgv hA; exact ⟨x, fun q bs h1 h2 => by cases h1; cases h2; exact hx⟩
  | 36 => obtain ⟨x, hx⟩ := st_36 hts hgv hA; exact ⟨x, fun q bs h1 h2 => by cases h1; cases h2; exact hx⟩
  | 37 => obtain ⟨x, hx⟩ := st_37 hts hgv hA; exact ⟨x, fun q bs h1 h2 => by cases h1; cases h2; exact hx⟩
  | 38 => obtain ⟨x, hx⟩ := st_38 hts hgv hA; exact ⟨x, fun q bs h1 h2 => by cases h1; cases h2; exact hx⟩
  | 39 => obtain ⟨x, hx⟩ := st_39 hts hgv hA; exact ⟨x, fun q bs h1 h2 => by cases h1; cases h2; exact hx⟩
  | 40 => obtain ⟨x, hx⟩ := st_40 hts hgv hA; exact ⟨x, fun q bs h1 h2 => by cases h1; cases h2; exact hx⟩
  | 41 => obtain ⟨x, hx⟩ := st_41 hts hgv hA; exact ⟨x, fun q bs h1 h2 => by cases h1; cases h2; exact hx⟩
  | 42 => obtain ⟨x, hx⟩ := st_42 hts hgv hA; exact ⟨x, fun q bs h1 h2 => by cases h1; cases h2; exact hx⟩
  | 43 => obtain ⟨x, hx⟩ := st_43 hts hgv hA; exact ⟨x, fun q bs h1 h2 => by cases h1; cases h2; exact hx⟩
  | 44 => obtain ⟨x, hx⟩ := st_44 hts hgv hA; exact ⟨x, fun q bs h1 h2 => by cases h1; cases h2; exact hx⟩
  | 45 => obtain ⟨x, hx⟩ := st_45 hts hgv hA; exact ⟨x, fun q bs h1 h2 => by cases h1; cases h2; exact hx⟩
  | 46 => obtain ⟨x, hx⟩ := st_46 hts hgv hA; exact ⟨x, fun q bs h1 h2 => by cases h1; cases h2; exact hx⟩
  | 47 => obtain ⟨x, hx⟩ := st_47 hts hgv hA; exact ⟨x, fun q bs h1 h2 => by cases h1; cases h2; exact hx⟩
  | 48 => obtain ⟨x, hx⟩ := st_48 hts hgv hA; exact ⟨x, fun q bs h1 h2 => by cases h1; cases h2; exact hx⟩
  | 49 => obtain ⟨x, hx⟩ := st_49 hts hgv hA; exact ⟨x, fun q bs h1 h2 => by cases h1; cases h2; exact hx⟩
  | 50 => obtain ⟨x, hx⟩ := st_50 hts hgv hA; exact ⟨x, fun q bs h1 h2 => by cases h1; cases h2; exact hx⟩
  | 51 => obtain ⟨x, hx⟩ := st_51 hts hgv hA; exact ⟨x, fun q bs h1 h2 => by cases h1; cases h2; exact hx⟩
  | 52 => obtain ⟨x, hx⟩ := st_52 hts hgv hA; exact ⟨x, fun q bs h1 h2 => by cases h1; cases h2; exact hx⟩
  | 53 => obtain ⟨x, hx⟩ := st_53 hts hgv hA; exact ⟨x, fun q bs h1 h2 => by cases h1; cases h2; exact hx⟩
  | 54 => obtain ⟨x, hx⟩ := st_54 hts hgv hA; exact ⟨x, fun q bs h1 h2 => by cases h1; cases h2; exact hx⟩
  | 55 => obtain ⟨x, hx⟩ := st_55 hts hgv hA; exact ⟨x, fun q bs h1 h2 => by cases h1; cases h2; exact hx⟩
  | 56 => obtain ⟨x, hx⟩ := st_56 hts hgv hA; exact ⟨x, fun q bs h1 h2 => by cases h1; cases h2; exact hx⟩
  | 57 => obtain ⟨x, hx⟩ := st_57 hts hgv hA; exact ⟨x, fun q bs h1 h2 => by cases h1; cases h2; exact hx⟩
  | 58 => obtain ⟨x, hx⟩ := st_58 hts hgv hA; exact ⟨x, fun q bs h1 h2 => by cases h1; cases h2; exact hx⟩
  | 59 => obtain ⟨x, hx⟩ := st_59 hts hgv hA; exact ⟨x, fun q bs h1 h2 => by cases h1; cases h2; exact hx⟩
  | 60 => obtain ⟨x, hx⟩ := st_60 hts hgv hA; exact ⟨x, fun q bs h1 h2 => by cases h1; cases h2; exact hx⟩
  | 61 => obtain ⟨x, hx⟩ := st_61 hts hgv hA; exact ⟨x, fun q bs h1 h2 => by cases h1; cases h2; exact hx⟩
  | 62 => obtain ⟨x, hx⟩ := st_62 hts hgv hA; exact ⟨x, fun q bs h1 h2 => by cases h1; cases h2; exact hx⟩
  | 63 => obtain ⟨x, hx⟩ := st_63 hts hgv hA; exact ⟨x, fun q bs h1 h2 => by cases h1; cases h2; exact hx⟩
  | 64 => obtain ⟨x, hx⟩ := st_64 hts hgv hA; exact ⟨x, fun q bs h1 h2 => by cases h1; cases h2; exact hx⟩
  | 65 => obtain ⟨x, hx⟩ := st_65 hts hgv hA; exact ⟨x, fun q bs h1 h2 => by cases h1; cases h2; exact hx⟩
  | 66 => obtain ⟨x, hx⟩ := st_66 hts hgv hA; exact ⟨x, fun q bs h1 h2 => by cases h1; cases h2; exact hx⟩
  | 67 => obtain ⟨x, hx⟩ := st_67 hts hgv hA; exact ⟨x, fun q bs h1 h2 => by cases h1; cases h2; exact hx⟩
  | 68 => obtain ⟨x, hx⟩ := st_68 hts hgv hA; exact ⟨x, fun q bs h1 h2 => by cases h1; cases h2; exact hx⟩
  | 69 => obtain ⟨x, hx⟩ := st_69 hts hgv hA; exact ⟨x, fun q bs h1 h2 => by cases h1; cases h2; exact hx⟩
  | 70 => obtain ⟨x, hx⟩ := st_70 hts hgv hA; exact ⟨x, fun q bs h1 h2 => by cases h1; cases h2; exact hx⟩
  | i + 71 => exact ⟨(0, 0), fun q bs h1 _ => absurd (List.getElem?_eq_some_iff.mp h1).1 (by show ¬ i + 71 < 71; omega)⟩
theorem q_classes (hts : ∀ w ∈ lw_tbl, w.before #[Value.ref b] s = true) : ∃ (dC : Nat → ClassId) (dI : Nat → Nat → Nat), ∀ (k : Nat) (q : vw_C), vwCl[k]? = some q → u_Kn s q.1 q.2.1 q.2.2 (dC k) (dI k) := by
  have h : ∀ k : Nat, ∃ x : ClassId × (Nat → Nat), ∀ q : vw_C, vwCl[k]? = some q → u_Kn s q.1 q.2.1 q.2.2 x.1 x.2 := by
    intro k
    match k with
    | 0 => obtain ⟨cC, iS, hK⟩ := u_known (C := RX0) (T := TX0) (N := 3) (n := 3) hts (fun w hw => (q_cf0.1 w hw).1) (hts _ (q_lk_mem in_2 47 rfl)); exact ⟨(cC, iS), fun q hq => by cases hq; exact hK⟩
    | 1 => obtain ⟨cC, iS, hK⟩ := u_known (C := RX1) (T := TX1) (N := 6) (n := 6) hts (fun w hw => (q_cf1.1 w hw).1) (hts _ (q_lk_mem in_2 76 rfl)); exact ⟨(cC, iS), fun q hq => by cases hq; exact hK⟩
    | 2 => obtain ⟨cC, iS, hK⟩ := u_known (C := RX2) (T := TX2) (N := 8) (n := 8) hts (fun w hw => (q_cf2.1 w hw).1) (hts _ (q_lk_mem in_2 120 rfl)); exact ⟨(cC, iS), fun q hq => by cases hq; exact hK⟩
    | 3 => obtain ⟨cC, iS, hK⟩ := u_known (C := RX3) (T := TX3) (N := 3) (n := 3) hts (fun w hw => (q_cf3.1 w hw).1) (hts _ (q_lk_mem in_2 27 rfl)); exact ⟨(cC, iS), fun q hq => by cases hq; exact hK⟩
    | 4 => obtain ⟨cC, iS, hK⟩ := u_known (C := RX4) (T := TX4) (N := 9) (n := 9) hts (fun w hw => (q_cf4.1 w hw).1) (hts _ (q_lk_mem in_1 222 rfl)); exact ⟨(cC, iS), fun q hq => by cases hq; exact hK⟩
    | 5 => obtain ⟨cC, iS, hK⟩ := u_known (C := RX5) (T := TX5) (N := 2) (n := 2) hts (fun w hw => (q_cf5.1 w hw).1) (hts _ (q_lk_mem in_2 63 rfl)); exact ⟨(cC, iS), fun q hq => by cases hq; exact hK⟩
    | 6 => obtain ⟨cC, iS, hK⟩ := u_known (C := RX6) (T := TX6) (N := 1) (n := 1) hts (fun w hw => (q_cf6.1 w hw).1) (hts _ (q_lk_mem in_2 17 rfl)); exact ⟨(cC, iS), fun q hq => by cases hq; exact hK⟩
    | 7 => obtain ⟨cC, iS, hK⟩ := u_known (C := RX7) (T := TX7) (N := 10) (n := 10) hts (fun w hw => (q_cf7.1 w hw).1) (hts _ (q_lk_mem in_1 156 rfl)); exact ⟨(cC, iS), fun q hq => by cases hq; exact hK⟩
    | 8 => obtain ⟨cC, iS, hK⟩ := u_known (C := RX8) (T := TX8) (N := 4) (n := 4) hts (fun w hw => (q_cf8.1 w hw).1) (hts _ (q_lk_mem in_2 101 rfl)); exact ⟨(cC, iS), fun q hq => by cases hq; exact hK⟩
    | 9 => obtain ⟨cC, iS, hK⟩ := u_known (C := RX9) (T := TX9) (N := 13) (n := 13) hts (fun w hw => (q_cf9.1 w hw).1) (hts _ (q_lk_mem in_1 73 rfl)); exact ⟨(cC, iS), fun q hq => by cases hq; exact hK⟩
    | 10 => obtain ⟨cC, iS, hK⟩ := u_known (C := RX10) (T := TX10) (N := 7) (n := 7) hts (fun w hw => (q_cf10.1 w hw).1) (hts _ (q_lk_mem in_1 38 rfl)); exact ⟨(cC, iS), fun q hq => by cases hq; exact hK⟩
    | 11 => obtain ⟨cC, iS, hK⟩ := u_known (C := RX11) (T := TX11) (N := 20) (n := 20) hts (fun w hw => (q_cf11.1 w hw).1) (hts _ (q_lk_mem in_1 30 rfl)); exact ⟨(cC, iS), fun q hq => by cases hq; exact hK⟩
    | 12 => obtain ⟨cC, iS, hK⟩ := u_known (C := RX12) (T := TX12) (N := 25) (n := 25) hts (fun w hw => (q_cf12.1 w hw).1) (hts _ (q_lk_mem in_7 138 rfl)); exact ⟨(cC, iS), fun q hq => by cases hq; exact hK⟩
    | k + 13 => exact ⟨(0, fun _ => 0), fun q hq => absurd (q_lt13 hq) (by omega)⟩
  exact ⟨fun k => (Classical.choose (h k)).1, fun k => (Classical.choose (h k)).2, fun k q hq => Classical.choose_spec (h k) q hq⟩
theorem q_arrs (hts : ∀ w ∈ lw_tbl, w.before #[Value.ref b] s = true) : ∃ cs : Nat → ClassId, ∀ (k : Nat) (q : ClassId × FieldType), (q_tys cs)[k]? = some q → ArrOfT s q.1 q.2 ∧ va_RA s q.1 q.2 := by
  obtain ⟨c1, k1, p1, f1, g1, e1⟩ := Cond.arrayClass_spec (hts _ (q_lk_mem in_1 154 rfl))
  obtain ⟨c2, k2, p2, f2, g2, e2⟩ := Cond.arrayClass_spec (hts _ (q_lk_mem in_1 71 rfl))
  obtain ⟨c3, k3, p3, f3, g3, e3⟩ := Cond.arrayClass_spec (hts _ (q_lk_mem in_9 237 rfl))
  obtain ⟨p4, c4, k4, f4, -, g4, e4, i4⟩ := Cond.arrayOver_spec (hts _ (q_lk_mem in_2 33 rfl))
  refine ⟨fun n => if n = 100 then c1 else if n = 101 then c2 else if n = 102 then c3 else c4, fun k q hq => ?_⟩
  match k, hq with
  | 0, hq => cases hq; exact ⟨fun n z => ⟨(fun k h => by cases h), k1, g1, p1, e1⟩, f1⟩
  | 1, hq => cases hq; exact ⟨fun n z => ⟨(fun k h => by cases h), k2, g2, p2, e2⟩, f2⟩
  | 2, hq => cases hq; exact ⟨fun n z => ⟨(fun k h => by cases h), k3, g3, p3, e3⟩, f3⟩
  | 3, hq => cases hq; exact ⟨fun n z => ⟨(fun k h => by cases h), k4, g4, p4, e4⟩, k4, p4, g4, e4, f4, i4⟩
  | k + 4, hq => exact absurd (List.getElem?_eq_some_iff.mp hq).1 (by show ¬ k + 4 < 4; omega)
end Start
theorem q_okbs : q_okb q_sb := by
  have h : ∀ i, i < q_sb.length → ((q_sb.getD i []).length < 1000 ∧ ∀ j, j < (q_sb.getD i []).length → narrow .char (.int (((q_sb.getD i []).getD j 0 &&& 255).toUInt32 % 65536).toInt32) = .int ((q_sb.getD i []).getD j 0) ∧ (((q_sb.getD i []).getD j 0 &&& 255).toUInt32 % 65536).toInt32 = (q_sb.getD i []).getD j 0) := by decide +kernel
  exact h
/-- the fixed things, and all that is asked of them -/
theorem q_start (l : Launch) (hl : l.stackTraces = false) {s : State} {b L : Nat} {xs : Nat → Int32} (hts : ∀ w ∈ lw_tbl, w.before #[Value.ref b] s = true) (hX : va_X b L xs s s.heap) (hbl : b < s.heap.size) (hgv : (Jvm.Cond.and given_1 narrow_1).before #[Value.ref b] s = true) :
    ∃ F : Fx, F.l = l ∧ F.s0 = s ∧ F.b = b ∧ q_E F (L, xs) q_sk ∧ q_NC F ∧ ∃ av, q_ES F q_sb av := by
  obtain ⟨dC, dI, hK⟩ := q_classes hts
  obtain ⟨cs, hT⟩ := q_arrs hts
  have hA : ∀ a : Nat, a < s.heap.size → ¬ (fun q : Nat => s.heap.size ≤ q) a := fun a h e => Nat.not_le.mpr h e
  have hst := q_strs hts hgv hA
  have hsa : ∀ i : Nat, i < 1000000 → (if i = 1000000 then b else (Classical.choose (hst i)).1) = (Classical.choose (hst i)).1 := fun i h => if_neg (by omega)
  refine ⟨(l, s, b, (dC, dI), cs, fun i => if i = 1000000 then b else (Classical.choose (hst i)).1), rfl, rfl, rfl, ⟨hl, hts, ⟨hK, hT⟩, hX, hbl, (show (if (1000000 : Nat) = 1000000 then b else (Classical.choose (hst 1000000)).1) = b from if_pos rfl), fun i q hq => ?_, ?_, ?_⟩, ?_, fun i => (Classical.choose (hst i)).2, ⟨fun i hi => ?_, ?_, ?_⟩⟩
  · have hi : i < 71 := (List.getElem?_eq_some_iff.mp hq).1
    obtain ⟨bs, hbs⟩ : ∃ bs, q_sb[i]? = some bs := ⟨_, List.getElem?_eq_getElem (show i < q_sb.length from hi)⟩
    have h9 := (Classical.choose_spec (hst i) q bs hq hbs).1
    show vk_R q.1 q.2.1 q.2.2 (if i = 1000000 then b else (Classical.choose (hst i)).1) s
    rw [hsa i (by omega)]
    exact h9
  · exact vx_Zqof (hts _ (q_lk_mem in_5 3 rfl)) (hts _ (q_lk_mem in_1 19 rfl)) (q_pth_of [true, false, false, false, false, false, false, true, false, false] _ hgv) hA
  · exact vx_Zqof (hts _ (q_lk_mem in_5 5 rfl)) (hts _ (q_lk_mem in_1 19 rfl)) (q_pth_of [true, false, false, false, false, false, false, true, false, true, false] _ hgv) hA
  · exact List.forall_mem_cons.mpr ⟨va_Nc.of (q_pth_of [true, false, false, false, false, true, true, true, true, false, true] _ hgv), List.forall_mem_cons.mpr ⟨va_Nc.of (q_pth_of [true, false, false, false, false, true, true, true, true, true, true] _ hgv), List.forall_mem_cons.mpr ⟨va_Nc.of (q_pth_of [true, false, false, false, false, false, true, true, false, false, true] _ hgv), List.forall_mem_cons.mpr ⟨va_Nc.of (q_pth_of [true, false, false, false, true, false, false, false, false, false] _ hgv), List.forall_mem_cons.mpr ⟨va_Nc.of (q_pth_of [true, false, false, false, false, false, true, true, true, false, false] _ hgv), List.forall_mem_cons.mpr ⟨va_Nc.of (q_pth_of [true, false, false, false, false, false, true, true, false, true, true] _ hgv), fun _ h => absurd h List.not_mem_nil⟩⟩⟩⟩⟩⟩
  · have hi2 : i < 71 := hi
    obtain ⟨q, hq⟩ : ∃ q, q_sk[i]? = some q := ⟨_, List.getElem?_eq_getElem (show i < q_sk.length from hi2)⟩
    have hbs : q_sb[i]? = some (q_sb.getD i []) := by rw [List.getD_eq_getElem?_getD, List.getElem?_eq_getElem hi]; rfl
    have h9 := (Classical.choose_spec (hst i) q _ hq hbs).2
    have e9 : Fx.sa (l, s, b, (dC, dI), cs, fun i => if i = 1000000 then b else (Classical.choose (hst i)).1) i = (Classical.choose (hst i)).1 := hsa i (by omega)
    rw [e9]
    exact h9
  · exact va_Zof (hts _ (q_lk_mem in_4 76 rfl)) (hts _ (q_lk_mem in_1 15 rfl)) (va_eqi (q_pth_of [true, false, false, false, false, false, false, false, false, true, true] _ hgv)) hA
  · exact va_Zqof (hts _ (q_lk_mem in_4 92 rfl)) (hts _ (q_lk_mem in_1 17 rfl)) (q_pth_of [true, false, false, false, false, false, false, false, true, false, false] _ hgv) hA
