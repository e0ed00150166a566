/-! ===== THE LAW'S TEXT, read by itself: where it goes on, its steps, its value by the facts ===== -/
abbrev Fc : Type := (Nat → Int32) × Int32 × Int32
abbrev Pv : Type := Nat × List Int32 × (Fc → Int32)
/-- none: out of fuel; an error: the first wrong byte -/
abbrev Pr : Type := Option (Except Nat Pv)
def p_bd (r : Pr) (k : Pv → Pr) : Pr := match r with
  | none => none
  | some (.error e) => some (.error e)
  | some (.ok v) => k v
abbrev p_ok (q : Nat) (s : List Int32) (f : Fc → Int32) : Pr := some (.ok (q, s, f))
abbrev p_er (e : Nat) : Pr := some (.error e)
def t_w (i : Nat) : List Int32 := q_sb.getD i []
def z_and (a b : Int32) : Int32 := if a = 0 then 0 else if b = 0 then 0 else 1
def z_or (a b : Int32) : Int32 := if a = 0 then if b = 0 then 0 else 1 else 1
def z_not (a : Int32) : Int32 := if a = 0 then 1 else 0
def p_pw (B : Nat → Nat) (n p : Nat) : Nat := if t_isW (t_w 53) B n p = true then 0 else if t_isW (t_w 59) B n p = true then 1 else if t_isW (t_w 60) B n p = true then 2 else if t_isW (t_w 51) B n p = true then 3 else if t_isW (t_w 50) B n p = true then 4 else if t_isW (t_w 61) B n p = true then 5 else if t_isW (t_w 62) B n p = true then 6 else 7
def P_part (B : Nat → Nat) (n p : Nat) : Pr :=
  if p < n ∧ t_dig (B p) = true then
    if t_isN 0 999 3 B n p = true then p_ok (t_nx B n p) [nI (t_num B p (t_nf B n p))] (fun _ => nI (t_num B p (t_nf B n p))) else p_er p
  else if p_pw B n p = 7 then p_er p else p_ok (t_nx B n p) [nI (1000 + p_pw B n p)] (fun fc => fc.1 (p_pw B n p))
def P_sumT (B : Nat → Nat) (n : Nat) : Nat → Nat → Pr
  | 0, _ => none
  | f + 1, q => if t_isS 43 B n q = true then p_bd (P_part B n (t_nx B n q)) (fun a => p_bd (P_sumT B n f a.1) (fun b => p_ok b.1 (a.2.1 ++ b.2.1) (fun fc => a.2.2 fc + b.2.2 fc))) else p_ok q [] (fun _ => 0)
def P_sum (B : Nat → Nat) (n f p : Nat) : Pr := p_bd (P_part B n p) (fun a => p_bd (P_sumT B n f a.1) (fun b => p_ok b.1 (a.2.1 ++ b.2.1) (fun fc => a.2.2 fc + b.2.2 fc)))
def P_plain (B : Nat → Nat) (n f p : Nat) : Pr :=
  if t_isW (t_w 45) B n p = true then p_ok (t_nx B n p) [1100] (fun fc => z_b (fc.2.1 = 0))
  else if t_isW (t_w 46) B n p = true then p_ok (t_nx B n p) [1101] (fun fc => z_b (fc.2.1 = 1))
  else if t_isW (t_w 47) B n p = true then p_ok (t_nx B n p) [1102] (fun fc => z_b (fc.2.1 = 2))
  else if t_isW (t_w 63) B n p = true then p_ok (t_nx B n p) [1200] (fun fc => fc.2.2)
  else p_bd (P_sum B n f p) (fun a =>
    if t_isS 60 B n a.1 = true then p_bd (P_sum B n f (t_nx B n a.1)) (fun b => p_ok b.1 (a.2.1 ++ 1201 :: (b.2.1 ++ [1202])) (fun fc => z_b (a.2.2 fc < b.2.2 fc)))
    else if t_isS 62 B n a.1 = true then p_bd (P_sum B n f (t_nx B n a.1)) (fun b => p_ok b.1 (a.2.1 ++ 1201 :: (b.2.1 ++ [1203])) (fun fc => z_b (b.2.2 fc < a.2.2 fc)))
    else p_er a.1)
/-- modes: 0 an ATOM, 1 an ALL, 2 a C, 3 what is behind an ATOM of an ALL, 4 what is behind an ALL of a C -/
def P_e (B : Nat → Nat) (n : Nat) : Nat → Nat → Nat → Nat → Pr
  | 0, _, _, _ => none
  | f + 1, 0, dp, p =>
    if t_isW (t_w 64) B n p = true then (if dp = 6 then p_er p else p_bd (P_e B n f 0 (dp + 1) (t_nx B n p)) (fun a => p_ok a.1 (a.2.1 ++ [1204]) (fun fc => z_not (a.2.2 fc))))
    else if t_isS 40 B n p = true then (if dp = 6 then p_er p else p_bd (P_e B n f 2 (dp + 1) (t_nx B n p)) (fun a => if t_isS 41 B n a.1 = true then p_ok (t_nx B n a.1) a.2.1 a.2.2 else p_er a.1))
    else P_plain B n f p
  | f + 1, 1, dp, p => p_bd (P_e B n f 0 dp p) (fun a => p_bd (P_e B n f 3 dp a.1) (fun b => p_ok b.1 (a.2.1 ++ b.2.1) (fun fc => z_and (a.2.2 fc) (b.2.2 fc))))
  | f + 1, 2, dp, p => p_bd (P_e B n f 1 dp p) (fun a => p_bd (P_e B n f 4 dp a.1) (fun b => p_ok b.1 (a.2.1 ++ b.2.1) (fun fc => z_or (a.2.2 fc) (b.2.2 fc))))
  | f + 1, 3, dp, q => if t_isW (t_w 65) B n q = true then p_bd (P_e B n f 0 dp (t_nx B n q)) (fun a => p_bd (P_e B n f 3 dp a.1) (fun b => p_ok b.1 (a.2.1 ++ 1205 :: b.2.1) (fun fc => z_and (a.2.2 fc) (b.2.2 fc)))) else p_ok q [] (fun _ => 1)
  | f + 1, _ + 4, dp, q => if t_isW (t_w 66) B n q = true then p_bd (P_e B n f 1 dp (t_nx B n q)) (fun a => p_bd (P_e B n f 4 dp a.1) (fun b => p_ok b.1 (a.2.1 ++ 1206 :: b.2.1) (fun fc => z_or (a.2.2 fc) (b.2.2 fc)))) else p_ok q [] (fun _ => 0)
/-- a LINE: kind, amount, steps, value -/
abbrev Ln : Type := Nat × Nat × List Int32 × (Fc → Int32)
def p_kind (B : Nat → Nat) (n p : Nat) : Nat := if t_isW (t_w 67) B n p = true then 0 else if t_isW (t_w 68) B n p = true then 1 else if t_isW (t_w 51) B n p = true then 2 else if t_isW (t_w 69) B n p = true then 3 else 4
def P_if (B : Nat → Nat) (n f k m q : Nat) : Option (Except Nat (Nat × Ln)) :=
  if t_isW (t_w 70) B n q = true then (match P_e B n f 2 0 (t_nx B n q) with
    | none => none
    | some (.error e) => some (.error e)
    | some (.ok a) => some (.ok (a.1, k, m, a.2.1, a.2.2)))
  else some (.ok (q, k, m, [], fun _ => 1))
def P_line (B : Nat → Nat) (n f p : Nat) : Option (Except Nat (Nat × Ln)) :=
  if p_kind B n p = 4 then some (.error p)
  else if p_kind B n p = 3 then P_if B n f 3 0 (t_nx B n p)
  else if t_isN 0 99 3 B n (t_nx B n p) = true then P_if B n f (p_kind B n p) (t_num B (t_nx B n p) (t_nf B n (t_nx B n p))) (t_nx B n (t_nx B n p))
  else some (.error (t_nx B n p))
/-- LINES, so many may come -/
def P_ls (B : Nat → Nat) (n f : Nat) : Nat → Nat → Option (Except Nat (List Ln))
  | 0, p => some (.error p)
  | g + 1, p => match P_line B n f p with
    | none => none
    | some (.error e) => some (.error e)
    | some (.ok (q, L)) => if q = n then some (.ok [L]) else if t_isS 59 B n q = true then (match P_ls B n f g (t_nx B n q) with
      | none => none
      | some (.error e) => some (.error e)
      | some (.ok Ls) => some (.ok (L :: Ls))) else some (.error q)
def p_fuel (n : Nat) : Nat := 4 * n + 8
def P_law (B : Nat → Nat) (n : Nat) : Option (Except Nat (List Ln)) := if t_sk B n 0 = n then some (.ok []) else P_ls B n (p_fuel n) 12 (t_sk B n 0)
/-- what holds of all that is read -/
def p_all (Q : Pv → Prop) (r : Pr) : Prop := ∀ v, r = some (.ok v) → Q v
theorem p_bd_ok {r : Pr} {k : Pv → Pr} {v : Pv} (h : p_bd r k = some (.ok v)) : ∃ a, r = some (.ok a) ∧ k a = some (.ok v) := by
  unfold p_bd at h
  split at h
  · cases h
  · cases h
  · exact ⟨_, rfl, h⟩
theorem p_bd_none {r : Pr} {k : Pv → Pr} (h : p_bd r k = none) : r = none ∨ ∃ a, r = some (.ok a) ∧ k a = none := by
  unfold p_bd at h
  split at h
  · exact .inl rfl
  · cases h
  · exact .inr ⟨_, rfl, h⟩
