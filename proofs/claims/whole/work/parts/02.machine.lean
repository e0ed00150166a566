/-! ===== THE SMALL MACHINE: bytecode, resolved, over a store of numbered cells ===== -/
/-- a cell's still part: its tag (a class below 100; 100 int[], 101 byte[], 102 long[], 103 Moment[]), its length, its references -/
abbrev Zc : Type := Nat × Nat × List (Option Nat)
/-- the store: still parts, ints, longs, cells made, slots made -/
abbrev Hp : Type := List Zc × (Nat → Nat → Int32) × (Nat → Nat → Int64) × Nat × Nat
/-- an end: an answer, or an exception's number -/
abbrev Ou : Type := Option Value ⊕ Nat
abbrev Lc : Type := List (Option Value)
abbrev Rs : Type := Option (Ou × Hp)
/-- an instruction: operation, its numbers, its constant; pc, bytes, length -/
abbrev En : Type := Nat × List Nat × Int32 × Nat × Instr × Nat
/-- the script: its length, its ints -/
abbrev Sx : Type := Nat × (Nat → Int32)
def q_ar (n : Nat) (x y : Int32) : Int32 := match n with
  | 0 => x + y
  | 1 => x - y
  | 2 => x * y
  | 3 => x &&& y
  | 4 => x ||| y
  | 5 => x ^^^ y
  | 6 => x <<< (y &&& 31)
  | 7 => x >>> (y &&& 31)
  | _ => (x.toUInt32 >>> (y.toUInt32 &&& Int32.toUInt32 31)).toInt32
/-- a reference of a still part set -/
def q_zs (Z : List Zc) (a k : Nat) (v : Option Nat) : List Zc := match Z[a]? with
  | some c => Z.set a (c.1, c.2.1, c.2.2.set k v)
  | none => Z
def q_tag (Z : List Zc) (a : Nat) : Nat := match Z[a]? with
  | some c => c.1
  | none => 999
def q_len (Z : List Zc) (a : Nat) : Nat := match Z[a]? with
  | some c => c.2.1
  | none => 0
def q_rl (Z : List Zc) (a : Nat) : Nat := match Z[a]? with
  | some c => c.2.2.length
  | none => 0
def q_ref (Z : List Zc) (a k : Nat) : Option (Option Nat) := match Z[a]? with
  | some c => c.2.2[k]?
  | none => none
def q_ui (h : Hp) (a k : Nat) (v : Int32) : Hp := (h.1, va_up h.2.1 a (va_up (h.2.1 a) k v), h.2.2)
def q_ul (h : Hp) (a k : Nat) (v : Int64) : Hp := (h.1, h.2.1, va_up h.2.2.1 a (va_up (h.2.2.1 a) k v), h.2.2.2)
def q_uz (h : Hp) (a k : Nat) (v : Option Nat) : Hp := (q_zs h.1 a k v, h.2)
/-- a cell more -/
def q_mk (h : Hp) (c : Zc) : Hp := (h.1 ++ [c], va_up h.2.1 h.1.length (fun _ => 0), va_up h.2.2.1 h.1.length (fun _ => 0), h.2.2.2.1 + 1, h.2.2.2.2 + c.2.1)
def q_cp (h : Hp) (a sp b dp n : Nat) : Hp := (h.1, va_up h.2.1 b (va_cpy (h.2.1 a) (h.2.1 b) sp dp n), h.2.2)
/-- an exception made: a cell of six slots that is never looked at -/
def q_th (h : Hp) : Hp := (h.1, h.2.1, h.2.2.1, h.2.2.2.1 + 1, h.2.2.2.2 + 6)
abbrev q_out (j : Int32) (n : Nat) : Prop := j < 0 ∨ n ≤ j.toNatClampNeg
def q_wd (st : List Value) : Nat := (st.map (fun v => v.category)).sum
/-- what is called is an object of that class -/
def q_rc (Z : List Zc) (st : List Value) (n ci : Nat) : Bool := match st[n - 1]? with
  | some (.ref a) => q_tag Z a == ci
  | _ => false
/-- what is made is an object -/
def q_sp (args : List Value) : Bool := match args with
  | .ref _ :: _ => true
  | _ => false
/-- one instruction; 'sb': the texts' bytes; 'call': what a callee does; 'k': what follows -/
def q_st (X : Sx) (sb : List (List Int32)) (cd : List En) (call : Nat → List Value → Hp → Rs) (k : Nat → Lc → List Value → Hp → Rs) (i : Nat) (ls : Lc) (st : List Value) (h : Hp) : Rs :=
  match cd[i]? with
  | none => none
  | some e =>
    match e.1 with
    | 0 => k (i + 1) ls (.int e.2.2.1 :: st) h
    | 1 => match ls[e.2.1.getD 0 0]? with
      | some (some (.int x)) => k (i + 1) ls (.int x :: st) h
      | _ => none
    | 49 => match ls[e.2.1.getD 0 0]? with
      | some (some (.ref a)) => k (i + 1) ls (.ref a :: st) h
      | some (some (.float u)) => k (i + 1) ls (.float u :: st) h
      | _ => none
    | 2 => match st with
      | .int x :: r => bif Nat.blt (e.2.1.getD 0 0) ls.length then k (i + 1) (ls.set (e.2.1.getD 0 0) (some (.int x))) r h else none
      | _ => none
    | 50 => match st with
      | .ref a :: r => bif Nat.blt (e.2.1.getD 0 0) ls.length then k (i + 1) (ls.set (e.2.1.getD 0 0) (some (.ref a))) r h else none
      | _ => none
    | 3 => match ls[e.2.1.getD 0 0]? with
      | some (some (.int x)) => k (i + 1) (ls.set (e.2.1.getD 0 0) (some (.int (x + e.2.2.1)))) st h
      | _ => none
    | 4 => match st with
      | .int y :: .int x :: r => k (i + 1) ls (.int (q_ar (e.2.1.getD 0 0) x y) :: r) h
      | _ => none
    | 5 => match st with
      | .int y :: .int x :: r => if y = 0 then none else k (i + 1) ls (.int (x / y) :: r) h
      | _ => none
    | 6 => match st with
      | .int y :: .int x :: r => if y = 0 then none else k (i + 1) ls (.int (x - x / y * y) :: r) h
      | _ => none
    | 7 => match st with
      | .int x :: r => k (i + 1) ls (.int (-x) :: r) h
      | _ => none
    | 8 => match st with
      | .int x :: r => k (i + 1) ls (.int x.toInt8.toInt32 :: r) h
      | _ => none
    | 9 => match st with
      | .int x :: r => k (i + 1) ls (.long x.toInt64 :: r) h
      | _ => none
    | 10 => match st with
      | .int x :: r => k (i + 1) ls (.int x :: .int x :: r) h
      | .ref a :: r => k (i + 1) ls (.ref a :: .ref a :: r) h
      | _ => none
    | 11 => match st with
      | .int x :: .ref a :: r => k (i + 1) ls (.int x :: .ref a :: .int x :: .ref a :: r) h
      | _ => none
    | 12 => match st with
      | .int y :: .int x :: r => (match e.2.1.getD 0 0 with
        | 0 => if x = y then k (e.2.1.getD 1 0) ls r h else k (i + 1) ls r h
        | 1 => if x = y then k (i + 1) ls r h else k (e.2.1.getD 1 0) ls r h
        | 2 => if x < y then k (e.2.1.getD 1 0) ls r h else k (i + 1) ls r h
        | 3 => if x < y then k (i + 1) ls r h else k (e.2.1.getD 1 0) ls r h
        | 4 => if y < x then k (e.2.1.getD 1 0) ls r h else k (i + 1) ls r h
        | _ => if y < x then k (i + 1) ls r h else k (e.2.1.getD 1 0) ls r h)
      | _ => none
    | 13 => match st with
      | .int x :: r => (match e.2.1.getD 0 0 with
        | 0 => if x = 0 then k (e.2.1.getD 1 0) ls r h else k (i + 1) ls r h
        | 1 => if x = 0 then k (i + 1) ls r h else k (e.2.1.getD 1 0) ls r h
        | 2 => if x < 0 then k (e.2.1.getD 1 0) ls r h else k (i + 1) ls r h
        | 3 => if x < 0 then k (i + 1) ls r h else k (e.2.1.getD 1 0) ls r h
        | 4 => if 0 < x then k (e.2.1.getD 1 0) ls r h else k (i + 1) ls r h
        | _ => if 0 < x then k (i + 1) ls r h else k (e.2.1.getD 1 0) ls r h)
      | _ => none
    | 14 => k (e.2.1.getD 0 0) ls st h
    | 15 => match st with
      | .ref a :: r => bif q_tag h.1 a == e.2.1.getD 0 0 && Nat.blt (e.2.1.getD 1 0) (q_len h.1 a) then k (i + 1) ls (.int (h.2.1 a (e.2.1.getD 1 0)) :: r) h else none
      | _ => none
    | 16 => match st with
      | .ref a :: r => bif q_tag h.1 a == e.2.1.getD 0 0 && Nat.blt (e.2.1.getD 1 0) (q_len h.1 a) then (match q_ref h.1 a (e.2.1.getD 1 0) with
        | some (some b) => k (i + 1) ls (.ref b :: r) h
        | _ => none) else none
      | _ => none
    | 17 => match st with
      | .int x :: .ref a :: r => bif q_tag h.1 a == e.2.1.getD 0 0 && Nat.blt (e.2.1.getD 1 0) (q_len h.1 a) then k (i + 1) ls r (q_ui h a (e.2.1.getD 1 0) x) else none
      | _ => none
    | 18 => match st with
      | .int x :: .ref a :: r => bif q_tag h.1 a == e.2.1.getD 0 0 && Nat.blt (e.2.1.getD 1 0) (q_len h.1 a) then (if x = 0 ∨ x = 1 then k (i + 1) ls r (q_ui h a (e.2.1.getD 1 0) x) else none) else none
      | _ => none
    | 19 => match st with
      | .ref b :: .ref a :: r => bif q_tag h.1 a == e.2.1.getD 0 0 && Nat.blt (e.2.1.getD 1 0) (q_len h.1 a) && Nat.blt (e.2.1.getD 1 0) (q_rl h.1 a) then k (i + 1) ls r (q_uz h a (e.2.1.getD 1 0) (some b)) else none
      | _ => none
    | 20 => match st with
      | .int j :: .ref a :: r => bif q_tag h.1 a == e.2.1.getD 0 0 then (if q_out j (q_len h.1 a) then none else k (i + 1) ls (.int (h.2.1 a j.toNatClampNeg) :: r) h) else none
      | _ => none
    | 21 => match st with
      | .int x :: .int j :: .ref a :: r => bif q_tag h.1 a == 100 then (if q_out j (q_len h.1 a) then none else k (i + 1) ls r (q_ui h a j.toNatClampNeg x)) else none
      | _ => none
    | 22 => match st with
      | .int x :: .int j :: .ref a :: r => bif q_tag h.1 a == 101 then (if q_out j (q_len h.1 a) then none else k (i + 1) ls r (q_ui h a j.toNatClampNeg x.toInt8.toInt32)) else none
      | _ => none
    | 23 => match st with
      | .int j :: .ref a :: r => bif q_tag h.1 a == 102 then (if q_out j (q_len h.1 a) then none else k (i + 1) ls (.long (h.2.2.1 a j.toNatClampNeg) :: r) h) else none
      | _ => none
    | 24 => match st with
      | .long x :: .int j :: .ref a :: r => bif q_tag h.1 a == 102 then (if q_out j (q_len h.1 a) then none else k (i + 1) ls r (q_ul h a j.toNatClampNeg x)) else none
      | _ => none
    | 25 => match st with
      | .int j :: .ref a :: r => bif q_tag h.1 a == 103 then (if q_out j (q_len h.1 a) then none else (match q_ref h.1 a j.toNatClampNeg with
        | some (some b) => k (i + 1) ls (.ref b :: r) h
        | _ => none)) else none
      | _ => none
    | 26 => match st with
      | .ref b :: .int j :: .ref a :: r => bif q_tag h.1 a == 103 && q_tag h.1 b == 7 && Nat.ble (q_len h.1 a) (q_rl h.1 a) then (if q_out j (q_len h.1 a) then none else k (i + 1) ls r (q_uz h a j.toNatClampNeg (some b))) else none
      | _ => none
    | 27 => match st with
      | .int j :: .float u :: r => bif u == 1000000 then (if q_out j X.1 then none else k (i + 1) ls (.int (X.2 j.toNatClampNeg) :: r) h) else none
      | _ => none
    | 28 => match st with
      | .float u :: r => bif u == 1000000 then k (i + 1) ls (.int (Int32.ofNat X.1) :: r) h else none
      | _ => none
    | 29 => bif h.2.2.2.1 == h.1.length then k (i + 1) ls (.ref h.1.length :: st) (q_mk h (e.2.1.getD 0 0, e.2.1.getD 1 0, List.replicate (e.2.1.getD 1 0) none)) else none
    | 30 => match st with
      | .int n :: r => if n < 0 then none else bif h.2.2.2.1 == h.1.length && Nat.ble n.toNatClampNeg 1000000 then k (i + 1) ls (.ref h.1.length :: r) (q_mk h (e.2.1.getD 0 0, n.toNatClampNeg, [])) else none
      | _ => none
    | 31 => match st with
      | .int n :: r => if n < 0 then none else bif h.2.2.2.1 == h.1.length && Nat.ble n.toNatClampNeg 1000000 then k (i + 1) ls (.ref h.1.length :: r) (q_mk h (103, n.toNatClampNeg, List.replicate n.toNatClampNeg none)) else none
      | _ => none
    | 32 => bif Nat.blt (e.2.1.getD 0 0) sb.length then k (i + 1) ls (.float (UInt32.ofNat (e.2.1.getD 0 0)) :: st) h else none
    | 33 => bif Nat.ble (e.2.1.getD 1 0) st.length && Nat.ble (q_wd (st.drop (e.2.1.getD 1 0))) 8 && Nat.beq (q_wd (st.take (e.2.1.getD 1 0))) (e.2.1.getD 1 0) then (match call (e.2.1.getD 0 0) (st.take (e.2.1.getD 1 0)).reverse h with
        | none => none
        | some (.inl v, h') => k (i + 1) ls (v.toList ++ st.drop (e.2.1.getD 1 0)) h'
        | some (.inr E, h') => some (.inr E, h')) else none
    | 51 => bif Nat.ble (e.2.1.getD 1 0) st.length && Nat.ble (q_wd (st.drop (e.2.1.getD 1 0))) 8 && Nat.beq (q_wd (st.take (e.2.1.getD 1 0))) (e.2.1.getD 1 0) && q_rc h.1 st (e.2.1.getD 1 0) (e.2.1.getD 3 0) then (match call (e.2.1.getD 0 0) (st.take (e.2.1.getD 1 0)).reverse h with
        | none => none
        | some (.inl v, h') => k (i + 1) ls (v.toList ++ st.drop (e.2.1.getD 1 0)) h'
        | some (.inr E, h') => some (.inr E, h')) else none
    | 52 => bif Nat.ble (e.2.1.getD 1 0) st.length && Nat.ble (q_wd (st.drop (e.2.1.getD 1 0))) 8 && Nat.beq (q_wd (st.take (e.2.1.getD 1 0))) (e.2.1.getD 1 0) && q_sp (st.take (e.2.1.getD 1 0)).reverse then (match call (e.2.1.getD 0 0) (st.take (e.2.1.getD 1 0)).reverse h with
        | none => none
        | some (.inl v, h') => k (i + 1) ls (v.toList ++ st.drop (e.2.1.getD 1 0)) h'
        | some (.inr E, h') => none) else none
    | 53 => bif Nat.ble (e.2.1.getD 1 0) st.length && Nat.ble (q_wd (st.drop (e.2.1.getD 1 0))) 8 && Nat.beq (q_wd (st.take (e.2.1.getD 1 0))) (e.2.1.getD 1 0) then (match call (e.2.1.getD 0 0) (st.take (e.2.1.getD 1 0)).reverse h with
        | none => none
        | some (.inl v, h') => k (i + 1) ls (v.toList ++ st.drop (e.2.1.getD 1 0)) h'
        | some (.inr E, h') => none) else none
    | 34 => match st with
      | .ref _ :: r => bif Nat.ble (q_wd r) 8 then k (i + 1) ls r h else none
      | _ => none
    | 35 => bif Nat.ble (q_wd st) 8 then some (.inr (e.2.1.getD 0 0), q_th h) else none
    | 36 => match st with
      | .int y :: .int x :: r => bif Nat.ble (q_wd r) 8 then k (i + 1) ls (.int (if x < y then y else x) :: r) h else none
      | _ => none
    | 37 => match st with
      | .int y :: .int x :: r => bif Nat.ble (q_wd r) 8 then k (i + 1) ls (.int (if y < x then y else x) :: r) h else none
      | _ => none
    | 38 => match st with
      | .int x :: r => bif Nat.ble (q_wd r) 8 then k (i + 1) ls (.int (if 0 ≤ x then x else 0 - x) :: r) h else none
      | _ => none
    | 39 => match st with
      | .float u :: r => bif Nat.blt u.toNat sb.length && Nat.ble (q_wd r) 8 then k (i + 1) ls (.int (Int32.ofNat (sb.getD u.toNat []).length) :: r) h else none
      | _ => none
    | 40 => match st with
      | .int j :: .float u :: r => bif Nat.blt u.toNat sb.length && Nat.ble (q_wd r) 8 then (if q_out j (sb.getD u.toNat []).length then none else k (i + 1) ls (.int ((sb.getD u.toNat []).getD j.toNatClampNeg 0) :: r) h) else none
      | _ => none
    | 41 => match st with
      | .int n :: .int dp :: .ref b :: .int sp :: .ref a :: r => bif q_tag h.1 a == 100 && q_tag h.1 b == 100 && Nat.ble (q_wd r) 8 then
          (if sp < 0 ∨ dp < 0 ∨ n < 0 then none else bif Nat.ble (sp.toNatClampNeg + n.toNatClampNeg) (q_len h.1 a) && Nat.ble (dp.toNatClampNeg + n.toNatClampNeg) (q_len h.1 b) then k (i + 1) ls r (q_cp h a sp.toNatClampNeg b dp.toNatClampNeg n.toNatClampNeg) else none) else none
      | _ => none
    | 42 => match st with
      | .int v :: [] => some (.inl (some (.int v)), h)
      | _ => none
    | 43 => match st with
      | .int v :: [] => if v = 0 ∨ v = 1 then some (.inl (some (.int v)), h) else none
      | _ => none
    | 44 => match st with
      | [] => some (.inl none, h)
      | _ => none
    | 45 => match st with
      | .int x :: r => if q_out x (e.2.1.length - 1) then k (e.2.1.getD 0 0) ls r h else k (e.2.1.getD (x.toNatClampNeg + 1) 0) ls r h
      | _ => none
    | 46 => match st with
      | .long y :: .long x :: r => k (i + 1) ls (.int (lg_cmp x y) :: r) h
      | _ => none
    | 47 => k (i + 1) ls (.long (Int64.ofNat (e.2.1.getD 0 0)) :: st) h
    | 48 => bif Nat.ble (e.2.1.getD 1 0) st.length && Nat.ble (q_wd (st.drop (e.2.1.getD 1 0))) 8 && Nat.beq (q_wd (st.take (e.2.1.getD 1 0))) (e.2.1.getD 1 0) && q_rc h.1 st (e.2.1.getD 1 0) (e.2.1.getD 3 0) then (match call (e.2.1.getD 0 0) (st.take (e.2.1.getD 1 0)).reverse h with
        | none => none
        | some (.inl v, h') => k (i + 1) ls (v.toList ++ st.drop (e.2.1.getD 1 0)) h'
        | some (.inr E, h') => bif e.2.1.getD (E + 6) 0 == 0 then none else some (.inl (some (.int (Int32.ofNat (e.2.1.getD (E + 6) 0)))), h')) else none
    | _ => none
/-- with so much fuel -/
def q_ex (X : Sx) (sb : List (List Int32)) (cd : List En) (call : Nat → List Value → Hp → Rs) : Nat → Nat → Lc → List Value → Hp → Rs
  | 0 => fun _ _ _ _ => none
  | n + 1 => q_st X sb cd call (q_ex X sb cd call n)
/-- what gets a value at last -/
noncomputable def q_lim (f : Nat → Rs) : Rs := @dite _ (∃ n, (f n).isSome = true) (Classical.propDecidable _) (fun h => f (Classical.choose h)) (fun _ => none)
theorem q_lim_of {f : Nat → Rs} (hm : ∀ n r, f n = some r → f (n + 1) = some r) {n : Nat} {r : Ou × Hp} (h : f n = some r) : q_lim f = some r := by
  have up : ∀ k a x, f a = some x → f (a + k) = some x := by
    intro k
    induction k with
    | zero => exact fun a x h => h
    | succ k ih => exact fun a x h => hm _ _ (ih a x h)
  have he : ∃ n, (f n).isSome = true := ⟨n, by rw [h]; rfl⟩
  unfold q_lim
  rw [dif_pos he]
  have h2 := Classical.choose_spec he
  obtain ⟨y, hy⟩ := Option.isSome_iff_exists.mp h2
  have h3 := up n _ _ hy
  have h4 := up (Classical.choose he) _ _ h
  rw [Nat.add_comm] at h4
  rw [h3] at h4
  rw [hy, ← Option.some.inj h4]
theorem q_lim_ex {f : Nat → Rs} {r : Ou × Hp} (h : q_lim f = some r) : ∃ n, f n = some r := by
  unfold q_lim at h
  by_cases he : ∃ n, (f n).isSome = true
  · rw [dif_pos he] at h
    exact ⟨_, h⟩
  · rw [dif_neg he] at h
    cases h
/-- a step either is done with 'k' or goes on by it, once -/
theorem q_st_k (X : Sx) (sb : List (List Int32)) (cd : List En) (call : Nat → List Value → Hp → Rs) (i : Nat) (ls : Lc) (st : List Value) (h : Hp) :
    (∃ r, ∀ k, q_st X sb cd call k i ls st h = r) ∨ ∃ i' ls' st' h', ∀ k, q_st X sb cd call k i ls st h = k i' ls' st' h' := by
  unfold q_st
  cases cd[i]? with
  | none => exact Or.inl ⟨_, fun _ => rfl⟩
  | some e =>
    dsimp only
    repeat' split
    all_goals first
      | exact Or.inl ⟨_, fun _ => rfl⟩
      | exact Or.inr ⟨_, _, _, _, fun _ => rfl⟩
      | (simp only [cond_eq_if]; repeat' split)
    all_goals first
      | exact Or.inl ⟨_, fun _ => rfl⟩
      | exact Or.inr ⟨_, _, _, _, fun _ => rfl⟩
theorem q_ex_up (X : Sx) (sb : List (List Int32)) (cd : List En) (call : Nat → List Value → Hp → Rs) : ∀ (n i : Nat) (ls : Lc) (st : List Value) (h : Hp) (r : Ou × Hp), q_ex X sb cd call n i ls st h = some r → q_ex X sb cd call (n + 1) i ls st h = some r := by
  intro n
  induction n with
  | zero => intro i ls st h r e; cases e
  | succ n ih =>
    intro i ls st h r e
    rcases q_st_k X sb cd call i ls st h with ⟨r0, h0⟩ | ⟨i', ls', st', h', h0⟩
    · have e1 : q_ex X sb cd call (n + 1) i ls st h = r0 := h0 _
      have e2 : q_ex X sb cd call (n + 1 + 1) i ls st h = r0 := h0 _
      rw [e2, ← e1]; exact e
    · have e1 : q_ex X sb cd call (n + 1) i ls st h = q_ex X sb cd call n i' ls' st' h' := h0 _
      have e2 : q_ex X sb cd call (n + 1 + 1) i ls st h = q_ex X sb cd call (n + 1) i' ls' st' h' := h0 _
      rw [e2]
      rw [e1] at e
      exact ih _ _ _ _ _ e
/-- locals at the entry -/
def q_en (n : Nat) (args : List Value) : Lc := args.map some ++ List.replicate (n - args.length) none
/-- a call, at most so many deep; 'pc': the codes, 'nl': how many locals -/
noncomputable def q_call (X : Sx) (sb : List (List Int32)) (pg : List (Nat × List En)) : Nat → Nat → List Value → Hp → Rs
  | 0 => fun _ _ _ => none
  | d + 1 => fun mi args h => match pg[mi]? with
    | none => none
    | some m => q_lim (fun n => q_ex X sb m.2 (q_call X sb pg d) n 0 (q_en m.1 args) [] h)
noncomputable def q_res (X : Sx) (sb : List (List Int32)) (pg : List (Nat × List En)) (d : Nat) (cd : List En) (i : Nat) (ls : Lc) (st : List Value) (h : Hp) : Rs :=
  q_lim (fun n => q_ex X sb cd (q_call X sb pg d) n i ls st h)
theorem q_call_s {X : Sx} {sb : List (List Int32)} {pg : List (Nat × List En)} {mi : Nat} {m : Nat × List En} (hm : pg[mi]? = some m) (d : Nat) (args : List Value) (h : Hp) : q_call X sb pg (d + 1) mi args h = q_res X sb pg d m.2 0 (q_en m.1 args) [] h := by
  show (match pg[mi]? with | none => none | some m => _) = _
  rw [hm]
  rfl
theorem q_res_eq (X : Sx) (sb : List (List Int32)) (pg : List (Nat × List En)) (d : Nat) (cd : List En) (i : Nat) (ls : Lc) (st : List Value) (h : Hp) :
    q_res X sb pg d cd i ls st h = q_st X sb cd (q_call X sb pg d) (q_res X sb pg d cd) i ls st h := by
  have up : ∀ i ls st h, ∀ n r, q_ex X sb cd (q_call X sb pg d) n i ls st h = some r → q_ex X sb cd (q_call X sb pg d) (n + 1) i ls st h = some r := fun i ls st h n r => q_ex_up X sb cd (q_call X sb pg d) n i ls st h r
  rcases q_st_k X sb cd (q_call X sb pg d) i ls st h with ⟨r0, h0⟩ | ⟨i', ls', st', h', h0⟩
  · rw [h0]
    cases r0 with
    | none =>
      cases hr : q_res X sb pg d cd i ls st h with
      | none => rfl
      | some r =>
        obtain ⟨n, hn⟩ := q_lim_ex hr
        cases n with
        | zero => cases hn
        | succ n => rw [show q_ex X sb cd (q_call X sb pg d) (n + 1) i ls st h = none from h0 _] at hn; cases hn
    | some r => exact q_lim_of (up _ _ _ _) (n := 1) (h0 _)
  · rw [h0]
    cases hr : q_res X sb pg d cd i' ls' st' h' with
    | none =>
      cases hr2 : q_res X sb pg d cd i ls st h with
      | none => rfl
      | some r =>
        obtain ⟨n, hn⟩ := q_lim_ex hr2
        cases n with
        | zero => cases hn
        | succ n =>
          have h1 : q_ex X sb cd (q_call X sb pg d) n i' ls' st' h' = some r := by rw [← hn]; exact (h0 _).symm
          have h2 : q_res X sb pg d cd i' ls' st' h' = some r := q_lim_of (up _ _ _ _) h1
          rw [hr] at h2; cases h2
    | some r =>
      obtain ⟨n, hn⟩ := q_lim_ex hr
      exact q_lim_of (up _ _ _ _) (n := n + 1) ((h0 _).trans hn)
/-- steps on to the next cut -/
def q_wk (X : Sx) (sb : List (List Int32)) (cd : List En) (call : Nat → List Value → Hp → Rs) (k : Nat → Lc → List Value → Hp → Rs) (cuts : List Nat) : Nat → Nat → Lc → List Value → Hp → Rs
  | 0 => k
  | n + 1 => fun i ls st h => bif cuts.contains i then k i ls st h else q_st X sb cd call (q_wk X sb cd call k cuts n) i ls st h
theorem q_wk_eq (X : Sx) (sb : List (List Int32)) (pg : List (Nat × List En)) (d : Nat) (cd : List En) (cuts : List Nat) : ∀ (n i : Nat) (ls : Lc) (st : List Value) (h : Hp),
    q_wk X sb cd (q_call X sb pg d) (q_res X sb pg d cd) cuts n i ls st h = q_res X sb pg d cd i ls st h := by
  intro n
  induction n with
  | zero => intros; rfl
  | succ n ih =>
    intro i ls st h
    show (bif cuts.contains i then _ else _) = _
    cases cuts.contains i with
    | true => rfl
    | false =>
      show q_st X sb cd (q_call X sb pg d) (q_wk X sb cd (q_call X sb pg d) (q_res X sb pg d cd) cuts n) i ls st h = _
      rw [q_res_eq]
      congr 1
      funext i' ls' st' h'
      exact ih _ _ _ _
/-- a block: from here by steps to the cuts -/
theorem q_blk (X : Sx) (sb : List (List Int32)) (pg : List (Nat × List En)) (d : Nat) (cd : List En) (cuts : List Nat) (n i : Nat) (ls : Lc) (st : List Value) (h : Hp) :
    q_res X sb pg d cd i ls st h = q_st X sb cd (q_call X sb pg d) (q_wk X sb cd (q_call X sb pg d) (q_res X sb pg d cd) cuts n) i ls st h := by
  rw [q_res_eq]
  congr 1
  funext i' ls' st' h'
  exact (q_wk_eq X sb pg d cd cuts n i' ls' st' h').symm
