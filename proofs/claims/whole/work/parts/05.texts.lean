/-! ===== TEXTS: String.length and String.charAt on constants ===== -/
/-- what holds of the texts at the law's start -/
def q_ES (F : Fx) (sb : List (List Int32)) (av : Nat → Nat) : Prop :=
  (∀ i : Nat, i < sb.length → va_O "java/lang/String" (F.sa i) (q_A F) F.s0 F.s0.heap ∧ va_OF "java/lang/String" "coder" "B" (.int 0) (F.sa i) (q_A F) F.s0 F.s0.heap ∧ va_OF "java/lang/String" "value" "[B" (.ref (av i)) (F.sa i) (q_A F) F.s0 F.s0.heap ∧ va_T .byte (av i) (sb.getD i []).length (fun j => .int ((sb.getD i []).getD j 0)) (q_A F) F.s0 F.s0.heap) ∧
  va_Z "java/lang/String" "COMPACT_STRINGS" "Z" (.int 1) (q_A F) F.s0 F.s0.heap ∧ va_Zq "jdk/internal/util/Preconditions" "SIOOBE_FORMATTER" "Ljava/util/function/BiFunction;" (q_A F) F.s0 F.s0.heap
def q_GU (F : Fx) (U : State) : Prop := F.s0.WarmedH U.vm ∧ F.base ≤ U.heap.size ∧ ∀ q, q < F.base → U.heap[q]? = F.s0.heap[q]?
def q_rs (d : Nat) : Room := { frames := d, cells := 0, slots := 0, locals := 22 * d }
/-- a contract of a method that changes nothing -/
def q_CP (F : Fx) (d : Nat) (r : Mr) (vals : List Value) (w : Option Value) : Prop := Met F.l r.1 (Cond.code r.1 r.2.1 r.2.2.1 r.2.2.2.1 :: q_good) (q_rs d) (fun v U => v = vals.toArray ∧ q_GU F U) (fun _ s oc t => oc = .returned w ∧ t.heap = s.heap) 0 0 (q_A F)
section Texts
variable {F : Fx} {B : Bd} {cc : ByteArray} {nL : Nat} {ret : Option FieldType} {ini : Bool} {X : Sx} {sk : List (String × Nat × String)} {sb : List (List Int32)} {av : Nat → Nat} {own : String}
theorem q_callBs (E : q_E F X sk) (C : q_B F B own cc nL ret ini) {r9 : Mr} (hmo : q_mo r9) (hk4 : r9.2.2.2.2.1 ≠ 4) {d : Nat} (hf : d + 1 ≤ B.R.frames) (hl : 8 + (r9.2.2.1 + 11) + 22 * d ≤ B.R.locals) {n : Nat} (hlk : q_lk (.methodLink own n r9.1)) :
    CallB B.R B.s B.args own n r9.1 r9.2.1 r9.2.2.1 r9.2.2.2.1 (Cond.code r9.1 r9.2.1 r9.2.2.1 r9.2.2.2.1 :: q_good) (q_rs d) 0 0 r9.2.2.2.2.2.2 := by
  obtain ⟨h1, h2, h3, h4, h5, h6, h7, h8, h9⟩ := id hmo
  rw [if_neg hk4] at h6
  exact ⟨rfl, rfl, hf, hl, q_pay E C h6, List.mem_cons_self, q_word E C h6, q_word E C h5, h2, q_plen hmo, q_word E C hlk⟩
theorem q_GUof {H : Heap} {locs : List Loc} (C : q_B F B own cc nL ret ini) (hS : va_S (q_A F) B.s.heap H locs) {U : State} (hU : U.heap = H) (hW : B.s.WarmedH U.vm) : q_GU F U := by
  obtain ⟨-, -, -, -, -, -, -, hwm, h1, h2⟩ := C
  refine ⟨State.WarmedH.trans hwm hW, by rw [hU]; exact Nat.le_trans h1 hS.1, fun q hq => ?_⟩
  rw [hU, hS.2.1 q (Nat.lt_of_lt_of_le hq h1) (fun e => Nat.not_le.mpr hq e)]
  exact h2 q hq
theorem q_callP {H : Heap} {locs : List Loc} {cells slots pc : Nat} {rls : Array Slot} {st0 rest : List Value} {w : Option Value} {Q : State → Prop} (hr : va_Run B.p F.l B.e B.R B.s B.m B.args B.below B.meth B.c H locs cells slots 0 0 (F0 B.m pc rls st0) rest (fun s oc t => oc = .returned w ∧ t.heap = s.heap) (q_A F)) (hS : va_S (q_A F) B.s.heap H locs)
    (k : ∀ locs1, va_S (q_A F) B.s.heap H locs1 → q_W F B H locs1 cells slots Q (pc + 3) rls (w.toList ++ rest)) : q_W F B H locs cells slots Q pc rls st0 := by
  intro T hT X9
  obtain ⟨v, st₀, t, T', L, e0, X', hL, e1, e2, ⟨hv, hh⟩, st⟩ := hr T hT X9
  cases hv
  have eH : T'.heap = H := by rw [e1, hh, e0]
  obtain ⟨t2, a1, b1⟩ := k (locs ++ L) ⟨hS.1, hS.2.1, fun q hq => by
    rcases List.mem_append.mp hq with h | h
    · exact hS.2.2 q h
    · exact hL q h⟩ T' eH X'
  exact ⟨t2, st t2 a1, b1⟩
/-- a body of such a method -/
theorem q_ofP {r9 : Mr} (hmo : q_mo r9) (hk4 : r9.2.2.2.2.1 ≠ 4) (hk2 : r9.2.2.2.2.1 ≠ 2) {d : Nat} {vals : List Value} {w : Option Value} (hv : (lg_sl vals).length ≤ r9.2.2.1)
    (body : ∀ (B : Bd), B.R = q_rs d → q_B F B r9.1.cls r9.2.1 r9.2.2.1 r9.2.2.2.1 false → ∀ rls, lv_has rls r9.2.2.1 (lv_args 0 vals) → q_W F B B.s.heap [] 0 0 (MQ B.below (fun _ s oc t => oc = .returned w ∧ t.heap = s.heap) B.args B.s 0 0 (q_A F)) 0 rls []) : q_CP F d r9 vals w := by
  refine q_toMet (XC := fun _ _ _ => False) ?_ (fun _ _ _ h => h)
  refine q_ofW hmo.1 rfl ?_
  intro p e s m av below meth c s₁ B hml htab hPc
  obtain ⟨hav, g1, g2, g3⟩ := hPc
  subst hav
  rw [lg_entry_eq]
  exact vx_ret (body (p, e, q_rs d, s, m, _, below, meth, c) rfl ⟨B.exec, B.bytes, hml, B.returns, findClass_of_methodNamed B.named, B.notSynchronized, (fun h => by cases h), g1, g2, g3⟩ _ (lv_entry vals hv))
theorem dt_J0_coder_7d493_0 : decode cJ0_coder_7d493 0 = .ok (.getstatic 38, 3) := by decide +kernel
theorem dt_J0_coder_7d493_3 : decode cJ0_coder_7d493 3 = .ok (.ifCond .eq 10, 3) := by decide +kernel
theorem dt_J0_coder_7d493_6 : decode cJ0_coder_7d493 6 = .ok (.aload_n 0, 1) := by decide +kernel
theorem dt_J0_coder_7d493_7 : decode cJ0_coder_7d493 7 = .ok (.getfield 15, 3) := by decide +kernel
theorem dt_J0_coder_7d493_10 : decode cJ0_coder_7d493 10 = .ok (.goto 4, 3) := by decide +kernel
theorem dt_J0_coder_7d493_14 : decode cJ0_coder_7d493 14 = .ok (.ireturn, 1) := by decide +kernel
abbrev rt_coder : Mr := (yJ0_coder_7d493, cJ0_coder_7d493, 1, (some .byte), 0, [], 0)
theorem mo_t_coder : q_mo rt_coder := ⟨by decide +kernel, ⟨by decide +kernel, by decide +kernel⟩, by decide +kernel, by decide, (q_lk_in in_1 15 rfl rfl), (show q_lk _ from (q_lk_in in_4 74 rfl rfl)), fun _ => ⟨(q_lk_in in_4 72 rfl rfl), (q_lk_in in_4 73 rfl rfl)⟩, fun e => absurd e (by decide), fun e => absurd e (by decide)⟩
theorem dt_J0_isLatin1_aae02_0 : decode cJ0_isLatin1_aae02 0 = .ok (.getstatic 38, 3) := by decide +kernel
theorem dt_J0_isLatin1_aae02_3 : decode cJ0_isLatin1_aae02 3 = .ok (.ifCond .eq 14, 3) := by decide +kernel
theorem dt_J0_isLatin1_aae02_6 : decode cJ0_isLatin1_aae02 6 = .ok (.aload_n 0, 1) := by decide +kernel
theorem dt_J0_isLatin1_aae02_7 : decode cJ0_isLatin1_aae02 7 = .ok (.getfield 15, 3) := by decide +kernel
theorem dt_J0_isLatin1_aae02_10 : decode cJ0_isLatin1_aae02 10 = .ok (.ifCond .ne 7, 3) := by decide +kernel
theorem dt_J0_isLatin1_aae02_13 : decode cJ0_isLatin1_aae02 13 = .ok (.iconst 1, 1) := by decide +kernel
theorem dt_J0_isLatin1_aae02_14 : decode cJ0_isLatin1_aae02 14 = .ok (.goto 4, 3) := by decide +kernel
theorem dt_J0_isLatin1_aae02_18 : decode cJ0_isLatin1_aae02 18 = .ok (.ireturn, 1) := by decide +kernel
abbrev rt_isl : Mr := (yJ0_isLatin1_aae02, cJ0_isLatin1_aae02, 1, (some .boolean), 0, [], 0)
theorem mo_t_isl : q_mo rt_isl := ⟨by decide +kernel, ⟨by decide +kernel, by decide +kernel⟩, by decide +kernel, by decide, (q_lk_in in_1 15 rfl rfl), (show q_lk _ from (q_lk_in in_4 84 rfl rfl)), fun _ => ⟨(q_lk_in in_4 82 rfl rfl), (q_lk_in in_4 83 rfl rfl)⟩, fun e => absurd e (by decide), fun e => absurd e (by decide)⟩
theorem dt_J0_length_8abf5_0 : decode cJ0_length_8abf5 0 = .ok (.aload_n 0, 1) := by decide +kernel
theorem dt_J0_length_8abf5_1 : decode cJ0_length_8abf5 1 = .ok (.getfield 9, 3) := by decide +kernel
theorem dt_J0_length_8abf5_4 : decode cJ0_length_8abf5 4 = .ok (.arraylength, 1) := by decide +kernel
theorem dt_J0_length_8abf5_5 : decode cJ0_length_8abf5 5 = .ok (.aload_n 0, 1) := by decide +kernel
theorem dt_J0_length_8abf5_6 : decode cJ0_length_8abf5 6 = .ok (.invokevirtual 335, 3) := by decide +kernel
theorem dt_J0_length_8abf5_9 : decode cJ0_length_8abf5 9 = .ok (.ishr, 1) := by decide +kernel
theorem dt_J0_length_8abf5_10 : decode cJ0_length_8abf5 10 = .ok (.ireturn, 1) := by decide +kernel
abbrev rt_len : Mr := (yJ0_length_8abf5, cJ0_length_8abf5, 1, (some .int), 0, [], 0)
theorem mo_t_len : q_mo rt_len := ⟨by decide +kernel, ⟨by decide +kernel, by decide +kernel⟩, by decide +kernel, by decide, (q_lk_in in_1 15 rfl rfl), (show q_lk _ from (q_lk_in in_4 70 rfl rfl)), fun _ => ⟨(q_lk_in in_4 68 rfl rfl), (q_lk_in in_4 69 rfl rfl)⟩, fun e => absurd e (by decide), fun e => absurd e (by decide)⟩
theorem dt_J0_charAt_5068e_0 : decode cJ0_charAt_5068e 0 = .ok (.aload_n 0, 1) := by decide +kernel
theorem dt_J0_charAt_5068e_1 : decode cJ0_charAt_5068e 1 = .ok (.invokevirtual 492, 3) := by decide +kernel
theorem dt_J0_charAt_5068e_4 : decode cJ0_charAt_5068e 4 = .ok (.ifCond .eq 12, 3) := by decide +kernel
theorem dt_J0_charAt_5068e_7 : decode cJ0_charAt_5068e 7 = .ok (.aload_n 0, 1) := by decide +kernel
theorem dt_J0_charAt_5068e_8 : decode cJ0_charAt_5068e 8 = .ok (.getfield 9, 3) := by decide +kernel
theorem dt_J0_charAt_5068e_11 : decode cJ0_charAt_5068e 11 = .ok (.iload_n 1, 1) := by decide +kernel
theorem dt_J0_charAt_5068e_12 : decode cJ0_charAt_5068e 12 = .ok (.invokestatic 495, 3) := by decide +kernel
theorem dt_J0_charAt_5068e_15 : decode cJ0_charAt_5068e 15 = .ok (.ireturn, 1) := by decide +kernel
abbrev rt_cat : Mr := (yJ0_charAt_5068e, cJ0_charAt_5068e, 2, (some .char), 0, [], 1)
theorem mo_t_cat : q_mo rt_cat := ⟨by decide +kernel, ⟨by decide +kernel, by decide +kernel⟩, by decide +kernel, by decide, (q_lk_in in_1 15 rfl rfl), (show q_lk _ from (q_lk_in in_4 80 rfl rfl)), fun _ => ⟨(q_lk_in in_4 78 rfl rfl), (q_lk_in in_4 79 rfl rfl)⟩, fun e => absurd e (by decide), fun e => absurd e (by decide)⟩
theorem dt_J0_checkIndex_df160_0 : decode cJ0_checkIndex_df160 0 = .ok (.iload_n 0, 1) := by decide +kernel
theorem dt_J0_checkIndex_df160_1 : decode cJ0_checkIndex_df160 1 = .ok (.iload_n 1, 1) := by decide +kernel
theorem dt_J0_checkIndex_df160_2 : decode cJ0_checkIndex_df160 2 = .ok (.getstatic 1053, 3) := by decide +kernel
theorem dt_J0_checkIndex_df160_5 : decode cJ0_checkIndex_df160 5 = .ok (.invokestatic 1059, 3) := by decide +kernel
theorem dt_J0_checkIndex_df160_8 : decode cJ0_checkIndex_df160 8 = .ok (.pop, 1) := by decide +kernel
theorem dt_J0_checkIndex_df160_9 : decode cJ0_checkIndex_df160 9 = .ok (.return_, 1) := by decide +kernel
abbrev rt_chk : Mr := (yJ0_checkIndex_df160, cJ0_checkIndex_df160, 2, none, 1, [], 2)
theorem mo_t_chk : q_mo rt_chk := ⟨by decide +kernel, ⟨by decide +kernel, by decide +kernel⟩, by decide +kernel, by decide, (q_lk_in in_1 15 rfl rfl), (show q_lk _ from (q_lk_in in_4 90 rfl rfl)), fun e => absurd e (by decide), fun _ => (q_lk_in in_4 89 rfl rfl), fun e => absurd e (by decide)⟩
theorem dt_J1_charAt_3b067_0 : decode cJ1_charAt_3b067 0 = .ok (.iload_n 1, 1) := by decide +kernel
theorem dt_J1_charAt_3b067_1 : decode cJ1_charAt_3b067 1 = .ok (.aload_n 0, 1) := by decide +kernel
theorem dt_J1_charAt_3b067_2 : decode cJ1_charAt_3b067 2 = .ok (.arraylength, 1) := by decide +kernel
theorem dt_J1_charAt_3b067_3 : decode cJ1_charAt_3b067 3 = .ok (.invokestatic 9, 3) := by decide +kernel
theorem dt_J1_charAt_3b067_6 : decode cJ1_charAt_3b067 6 = .ok (.aload_n 0, 1) := by decide +kernel
theorem dt_J1_charAt_3b067_7 : decode cJ1_charAt_3b067 7 = .ok (.iload_n 1, 1) := by decide +kernel
theorem dt_J1_charAt_3b067_8 : decode cJ1_charAt_3b067 8 = .ok (.baload, 1) := by decide +kernel
theorem dt_J1_charAt_3b067_9 : decode cJ1_charAt_3b067 9 = .ok (.sipush 255, 3) := by decide +kernel
theorem dt_J1_charAt_3b067_12 : decode cJ1_charAt_3b067 12 = .ok (.iand, 1) := by decide +kernel
theorem dt_J1_charAt_3b067_13 : decode cJ1_charAt_3b067 13 = .ok (.i2c, 1) := by decide +kernel
theorem dt_J1_charAt_3b067_14 : decode cJ1_charAt_3b067 14 = .ok (.ireturn, 1) := by decide +kernel
abbrev rt_l1 : Mr := (yJ1_charAt_3b067, cJ1_charAt_3b067, 2, (some .char), 1, [], 2)
theorem mo_t_l1 : q_mo rt_l1 := ⟨by decide +kernel, ⟨by decide +kernel, by decide +kernel⟩, by decide +kernel, by decide, (q_lk_in in_1 16 rfl rfl), (show q_lk _ from (q_lk_in in_4 87 rfl rfl)), fun e => absurd e (by decide), fun _ => (q_lk_in in_4 86 rfl rfl), fun e => absurd e (by decide)⟩
theorem dt_J3_checkIndex_8e157_0 : decode cJ3_checkIndex_8e157 0 = .ok (.iload_n 0, 1) := by decide +kernel
theorem dt_J3_checkIndex_8e157_1 : decode cJ3_checkIndex_8e157 1 = .ok (.ifCond .lt 8, 3) := by decide +kernel
theorem dt_J3_checkIndex_8e157_4 : decode cJ3_checkIndex_8e157 4 = .ok (.iload_n 0, 1) := by decide +kernel
theorem dt_J3_checkIndex_8e157_5 : decode cJ3_checkIndex_8e157 5 = .ok (.iload_n 1, 1) := by decide +kernel
theorem dt_J3_checkIndex_8e157_6 : decode cJ3_checkIndex_8e157 6 = .ok (.if_icmp .lt 10, 3) := by decide +kernel
theorem dt_J3_checkIndex_8e157_16 : decode cJ3_checkIndex_8e157 16 = .ok (.iload_n 0, 1) := by decide +kernel
theorem dt_J3_checkIndex_8e157_17 : decode cJ3_checkIndex_8e157 17 = .ok (.ireturn, 1) := by decide +kernel
abbrev rt_pre : Mr := (yJ3_checkIndex_8e157, cJ3_checkIndex_8e157, 3, (some .int), 1, [], 3)
theorem mo_t_pre : q_mo rt_pre := ⟨by decide +kernel, ⟨by decide +kernel, by decide +kernel⟩, by decide +kernel, by decide, (q_lk_in in_1 17 rfl rfl), (show q_lk _ from (q_lk_in in_4 95 rfl rfl)), fun e => absurd e (by decide), fun _ => (q_lk_in in_4 94 rfl rfl), fun e => absurd e (by decide)⟩
theorem ct_coder (E : q_E F X sk) (ES : q_ES F sb av) {i : Nat} (hi : i < sb.length) : q_CP F 0 rt_coder [.ref (F.sa i)] (some (.int 0)) := by
  refine q_ofP mo_t_coder (by decide) (by decide) (Nat.le_of_ble_eq_true rfl) (fun B hR C rls hl => ?_)
  obtain ⟨hx, hb, hml, hr, hown, hlocks, hini, hwm, hGb, hGk⟩ := id C
  have hS : va_S (q_A F) B.s.heap B.s.heap [] := va_S.rf
  obtain ⟨hO, hOc, hOv, hT⟩ := ES.1 i hi
  have hO := (hO.moved hwm.alike).kept (fun a ha _ => hGk a ha)
  have hOc := (hOc.moved hwm.alike).kept (fun a ha _ => hGk a ha)
  have hOv := (hOv.moved hwm.alike).kept (fun a ha _ => hGk a ha)
  have hT := (hT.moved hwm.alike).kept (fun a ha _ => hGk a ha)
  have hCS := (ES.2.1.moved hwm.alike).kept (fun a ha _ => hGk a ha)
  refine va_gets hx hb hCS hS hown (q_word E C (q_lk_in in_4 75 rfl rfl)) (fun _ h => h) dt_J0_coder_7d493_0 ?_
  refine lv_if_eq (tgt := 13) hx hb dt_J0_coder_7d493_3 (by decide) (fun h => absurd h (by decide)) (fun _ => ?_)
  refine lv_aload_n hx hb dt_J0_coder_7d493_6 rfl (lv_at hl 0 rfl) ?_
  refine vk_getf hx hb hOc hS hown (q_word E C (q_lk_in in_10 20 rfl rfl)) (fun _ h => h) dt_J0_coder_7d493_7 ?_
  refine lv_goto (tgt := 14) hx hb dt_J0_coder_7d493_10 (by decide) ?_
  exact W.zret hx hb hr rfl (fun t ht _ => ⟨rfl, ht⟩) hS.2.2 dt_J0_coder_7d493_14 hlocks
theorem ct_isl (E : q_E F X sk) (ES : q_ES F sb av) {i : Nat} (hi : i < sb.length) : q_CP F 0 rt_isl [.ref (F.sa i)] (some (.int 1)) := by
  refine q_ofP mo_t_isl (by decide) (by decide) (Nat.le_of_ble_eq_true rfl) (fun B hR C rls hl => ?_)
  obtain ⟨hx, hb, hml, hr, hown, hlocks, hini, hwm, hGb, hGk⟩ := id C
  have hS : va_S (q_A F) B.s.heap B.s.heap [] := va_S.rf
  obtain ⟨hO, hOc, hOv, hT⟩ := ES.1 i hi
  have hO := (hO.moved hwm.alike).kept (fun a ha _ => hGk a ha)
  have hOc := (hOc.moved hwm.alike).kept (fun a ha _ => hGk a ha)
  have hOv := (hOv.moved hwm.alike).kept (fun a ha _ => hGk a ha)
  have hT := (hT.moved hwm.alike).kept (fun a ha _ => hGk a ha)
  have hCS := (ES.2.1.moved hwm.alike).kept (fun a ha _ => hGk a ha)
  refine va_gets hx hb hCS hS hown (q_word E C (q_lk_in in_4 75 rfl rfl)) (fun _ h => h) dt_J0_isLatin1_aae02_0 ?_
  refine lv_if_eq (tgt := 17) hx hb dt_J0_isLatin1_aae02_3 (by decide) (fun h => absurd h (by decide)) (fun _ => ?_)
  refine lv_aload_n hx hb dt_J0_isLatin1_aae02_6 rfl (lv_at hl 0 rfl) ?_
  refine vk_getf hx hb hOc hS hown (q_word E C (q_lk_in in_10 20 rfl rfl)) (fun _ h => h) dt_J0_isLatin1_aae02_7 ?_
  refine lv_if_ne (tgt := 17) hx hb dt_J0_isLatin1_aae02_10 (by decide) (fun h => absurd rfl h) (fun _ => ?_)
  refine lv_iconst (v := 1) hx hb dt_J0_isLatin1_aae02_13 (by decide) ?_
  refine lv_goto (tgt := 18) hx hb dt_J0_isLatin1_aae02_14 (by decide) ?_
  exact W.zret hx hb hr rfl (fun t ht _ => ⟨rfl, ht⟩) hS.2.2 dt_J0_isLatin1_aae02_18 hlocks
theorem ct_len (E : q_E F X sk) (ES : q_ES F sb av) {i : Nat} (hi : i < sb.length) : q_CP F 1 rt_len [.ref (F.sa i)] (some (.int (Int32.ofNat (sb.getD i []).length))) := by
  refine q_ofP mo_t_len (by decide) (by decide) (Nat.le_of_ble_eq_true rfl) (fun B hR C rls hl => ?_)
  obtain ⟨hx, hb, hml, hr, hown, hlocks, hini, hwm, hGb, hGk⟩ := id C
  have hS : va_S (q_A F) B.s.heap B.s.heap [] := va_S.rf
  obtain ⟨hO, hOc, hOv, hT⟩ := ES.1 i hi
  have hO := (hO.moved hwm.alike).kept (fun a ha _ => hGk a ha)
  have hOc := (hOc.moved hwm.alike).kept (fun a ha _ => hGk a ha)
  have hOv := (hOv.moved hwm.alike).kept (fun a ha _ => hGk a ha)
  have hT := (hT.moved hwm.alike).kept (fun a ha _ => hGk a ha)
  have hCS := (ES.2.1.moved hwm.alike).kept (fun a ha _ => hGk a ha)
  refine lv_aload_n hx hb dt_J0_length_8abf5_0 rfl (lv_at hl 0 rfl) ?_
  refine vk_getf hx hb hOv hS hown (q_word E C (q_lk_in in_10 19 rfl rfl)) (fun _ h => h) dt_J0_length_8abf5_1 ?_
  refine va_tlen hx hb hT hS rfl dt_J0_length_8abf5_4 ?_
  refine lv_aload_n hx hb dt_J0_length_8abf5_5 rfl (lv_at hl 0 rfl) ?_
  obtain ⟨cellO, o1, o2, o3, -⟩ := hO
  refine q_callP (w := some (.int 0)) (va_runV (C := "java/lang/String") ⟨hx, hb, hml, hown, q_words E C⟩ (ct_coder E ES hi) ⟨q_callBs E C mo_t_coder (by decide) (by rw [hR]; decide) (by rw [hR]; decide) (q_lk_in in_4 71 rfl rfl), q_word E C (mo_t_coder.2.2.2.2.2.2.1 rfl).1, q_word E C (mo_t_coder.2.2.2.2.2.2.1 rfl).2⟩ ⟨fun _ _ _ _ q => q, ⟨cellO, o1, o2, o3⟩, fun U hU hW => ⟨rfl, q_GUof C hS hU hW⟩⟩ (As := []) rfl rfl hl.1 rfl (lv_room (Nat.le_of_ble_eq_true rfl)) dt_J0_length_8abf5_6 ⟨Nat.zero_le _, Nat.zero_le _⟩) hS (fun locs1 hS => ?_)
  refine lv_ishr hx hb dt_J0_length_8abf5_9 ?_
  have e9 : Int32.ofNat (sb.getD i []).length >>> ((0 : Int32) &&& 31) = Int32.ofNat (sb.getD i []).length := by
    rw [show ((0 : Int32) &&& 31) = 0 from by decide]
    exact Int32.shiftRight_zero
  rw [e9]
  exact W.iret hx hb hr (fun t ht _ => ⟨rfl, ht⟩) hS.2.2 dt_J0_length_8abf5_10 hlocks
theorem ct_pre (E : q_E F X sk) {j n : Int32} {fv : Value} (h0 : ¬ j < 0) (h1 : j < n) (hf : fv = .null ∨ ∃ a, fv = .ref a) : q_CP F 0 rt_pre [.int j, .int n, fv] (some (.int j)) := by
  refine q_ofP mo_t_pre (by decide) (by decide) (by rcases hf with rfl | ⟨a, rfl⟩ <;> exact Nat.le_refl 3) (fun B hR C rls hl => ?_)
  obtain ⟨hx, hb, hml, hr, hown, hlocks, hini, hwm, hGb, hGk⟩ := id C
  have hS : va_S (q_A F) B.s.heap B.s.heap [] := va_S.rf
  refine lv_iload_n hx hb dt_J3_checkIndex_8e157_0 rfl (lv_at hl 0 rfl) ?_
  refine lv_if_lt (tgt := 9) hx hb dt_J3_checkIndex_8e157_1 (by decide) (fun h => absurd h h0) (fun _ => ?_)
  refine lv_iload_n hx hb dt_J3_checkIndex_8e157_4 rfl (lv_at hl 0 rfl) ?_
  refine lv_iload_n hx hb dt_J3_checkIndex_8e157_5 rfl (lv_at hl 1 rfl) ?_
  refine lv_icmp_lt (tgt := 16) hx hb dt_J3_checkIndex_8e157_6 (by decide) (fun _ => ?_) (fun h => absurd h1 h)
  refine lv_iload_n hx hb dt_J3_checkIndex_8e157_16 rfl (lv_at hl 0 rfl) ?_
  exact W.iret hx hb hr (fun t ht _ => ⟨rfl, ht⟩) hS.2.2 dt_J3_checkIndex_8e157_17 hlocks
theorem ct_chk (E : q_E F X sk) (ES : q_ES F sb av) {j n : Int32} (h0 : ¬ j < 0) (h1 : j < n) : q_CP F 1 rt_chk [.int j, .int n] none := by
  refine q_ofP mo_t_chk (by decide) (by decide) (Nat.le_of_ble_eq_true rfl) (fun B hR C rls hl => ?_)
  obtain ⟨hx, hb, hml, hr, hown, hlocks, hini, hwm, hGb, hGk⟩ := id C
  have hS : va_S (q_A F) B.s.heap B.s.heap [] := va_S.rf
  have hzq := (ES.2.2.moved hwm.alike).kept (fun a ha _ => hGk a ha)
  refine lv_iload_n hx hb dt_J0_checkIndex_df160_0 rfl (lv_at hl 0 rfl) ?_
  refine lv_iload_n hx hb dt_J0_checkIndex_df160_1 rfl (lv_at hl 1 rfl) ?_
  have fin : ∀ fv : Value, (fv = .null ∨ ∃ a, fv = .ref a) → va_Z "jdk/internal/util/Preconditions" "SIOOBE_FORMATTER" "Ljava/util/function/BiFunction;" fv (q_A F) B.s B.s.heap → q_W F B B.s.heap [] 0 0 (MQ B.below (fun _ s oc t => oc = .returned none ∧ t.heap = s.heap) B.args B.s 0 0 (q_A F)) 2 rls [.int n, .int j] := by
    intro fv hf hz
    refine va_gets hx hb hz hS hown (q_word E C (q_lk_in in_4 91 rfl rfl)) (fun _ h => h) dt_J0_checkIndex_df160_2 ?_
    refine q_callP (w := some (.int j)) (rest := []) (va_runS ⟨hx, hb, hml, hown, q_words E C⟩ (ct_pre E h0 h1 hf) ⟨q_callBs E C mo_t_pre (by decide) (by rw [hR]; decide) (by rw [hR]; decide) (q_lk_in in_4 93 rfl rfl), q_word E C (mo_t_pre.2.2.2.2.2.2.2.1 (Or.inl rfl))⟩ ⟨fun _ _ _ _ q => q, fun U hU hW => ⟨rfl, q_GUof C hS hU hW⟩⟩ (As := [.int j, .int n, fv]) rfl rfl hl.1 rfl (lv_room (by decide)) dt_J0_checkIndex_df160_5 ⟨Nat.zero_le _, Nat.zero_le _⟩) hS (fun locs1 hS => ?_)
    refine lv_pop hx hb dt_J0_checkIndex_df160_8 rfl ?_
    exact W.vret hx hb hr (fun t ht _ => ⟨rfl, ht⟩) hS.2.2 dt_J0_checkIndex_df160_9 hlocks
  rcases hzq with hz | ⟨a, hz⟩
  · exact fin _ (Or.inl rfl) hz
  · exact fin _ (Or.inr ⟨a, rfl⟩) hz
/-- a text's sign as a number -/
def q_okb (sb : List (List Int32)) : Prop := ∀ i : Nat, i < sb.length → (sb.getD i []).length < 1000 ∧ ∀ j : Nat, j < (sb.getD i []).length → narrow .char (.int (((sb.getD i []).getD j 0 &&& 255).toUInt32 % 65536).toInt32) = .int ((sb.getD i []).getD j 0) ∧ (((sb.getD i []).getD j 0 &&& 255).toUInt32 % 65536).toInt32 = (sb.getD i []).getD j 0
theorem ct_l1 (E : q_E F X sk) (ES : q_ES F sb av) (hok : q_okb sb) {i : Nat} (hi : i < sb.length) {j : Int32} (hj : ¬ q_out j (sb.getD i []).length) : q_CP F 2 rt_l1 [.ref (av i), .int j] (some (.int ((sb.getD i []).getD j.toNatClampNeg 0))) := by
  refine q_ofP mo_t_l1 (by decide) (by decide) (Nat.le_of_ble_eq_true rfl) (fun B hR C rls hl => ?_)
  obtain ⟨hx, hb, hml, hr, hown, hlocks, hini, hwm, hGb, hGk⟩ := id C
  have hS : va_S (q_A F) B.s.heap B.s.heap [] := va_S.rf
  obtain ⟨hO, hOc, hOv, hT⟩ := ES.1 i hi
  have hO := (hO.moved hwm.alike).kept (fun a ha _ => hGk a ha)
  have hOc := (hOc.moved hwm.alike).kept (fun a ha _ => hGk a ha)
  have hOv := (hOv.moved hwm.alike).kept (fun a ha _ => hGk a ha)
  have hT := (hT.moved hwm.alike).kept (fun a ha _ => hGk a ha)
  have hCS := (ES.2.1.moved hwm.alike).kept (fun a ha _ => hGk a ha)
  have h0 : ¬ j < 0 := fun e => hj (Or.inl e)
  have hlt : j.toNatClampNeg < (sb.getD i []).length := Nat.not_le.mp (fun e => hj (Or.inr e))
  have h1 : j < Int32.ofNat (sb.getD i []).length := by
    obtain ⟨j', hj1, rfl⟩ := nI_of h0
    rw [nI_clamp hj1] at hlt
    exact nI_lt hlt (by have := (hok i hi).1; omega)
  refine lv_iload_n hx hb dt_J1_charAt_3b067_0 rfl (lv_at hl 1 rfl) ?_
  refine lv_aload_n hx hb dt_J1_charAt_3b067_1 rfl (lv_at hl 0 rfl) ?_
  refine va_tlen hx hb hT hS rfl dt_J1_charAt_3b067_2 ?_
  refine q_callP (w := none) (rest := []) (va_runS ⟨hx, hb, hml, hown, q_words E C⟩ (ct_chk E ES h0 h1) ⟨q_callBs E C mo_t_chk (by decide) (by rw [hR]; decide) (by rw [hR]; decide) (q_lk_in in_4 88 rfl rfl), q_word E C (mo_t_chk.2.2.2.2.2.2.2.1 (Or.inl rfl))⟩ ⟨fun _ _ _ _ q => q, fun U hU hW => ⟨rfl, q_GUof C hS hU hW⟩⟩ (As := [.int j, .int (Int32.ofNat (sb.getD i []).length)]) rfl rfl hl.1 rfl (lv_room (by decide)) dt_J1_charAt_3b067_3 ⟨Nat.zero_le _, Nat.zero_le _⟩) hS (fun locs1 hS => ?_)
  refine lv_aload_n hx hb dt_J1_charAt_3b067_6 rfl (lv_at hl 0 rfl) ?_
  refine lv_iload_n hx hb dt_J1_charAt_3b067_7 rfl (lv_at hl 1 rfl) ?_
  refine va_tb hx hb hT hS hj rfl dt_J1_charAt_3b067_8 ?_
  refine lv_sipush (v := 255) hx hb dt_J1_charAt_3b067_9 (by decide) ?_
  refine lv_iand hx hb dt_J1_charAt_3b067_12 ?_
  obtain ⟨c1, c2⟩ := (hok i hi).2 _ hlt
  refine lv_i2c hx hb dt_J1_charAt_3b067_13 c2 ?_
  rw [c2] at c1
  exact W.zret hx hb hr c1 (fun t ht _ => ⟨rfl, ht⟩) hS.2.2 dt_J1_charAt_3b067_14 hlocks
theorem ct_cat (E : q_E F X sk) (ES : q_ES F sb av) (hok : q_okb sb) {i : Nat} (hi : i < sb.length) {j : Int32} (hj : ¬ q_out j (sb.getD i []).length) : q_CP F 3 rt_cat [.ref (F.sa i), .int j] (some (.int ((sb.getD i []).getD j.toNatClampNeg 0))) := by
  refine q_ofP mo_t_cat (by decide) (by decide) (Nat.le_of_ble_eq_true rfl) (fun B hR C rls hl => ?_)
  obtain ⟨hx, hb, hml, hr, hown, hlocks, hini, hwm, hGb, hGk⟩ := id C
  have hS : va_S (q_A F) B.s.heap B.s.heap [] := va_S.rf
  obtain ⟨hO, hOc, hOv, hT⟩ := ES.1 i hi
  have hO := (hO.moved hwm.alike).kept (fun a ha _ => hGk a ha)
  have hOc := (hOc.moved hwm.alike).kept (fun a ha _ => hGk a ha)
  have hOv := (hOv.moved hwm.alike).kept (fun a ha _ => hGk a ha)
  have hT := (hT.moved hwm.alike).kept (fun a ha _ => hGk a ha)
  have hCS := (ES.2.1.moved hwm.alike).kept (fun a ha _ => hGk a ha)
  have hlt : j.toNatClampNeg < (sb.getD i []).length := Nat.not_le.mp (fun e => hj (Or.inr e))
  obtain ⟨cellO, o1, o2, o3, -⟩ := hO
  refine lv_aload_n hx hb dt_J0_charAt_5068e_0 rfl (lv_at hl 0 rfl) ?_
  refine q_callP (w := some (.int 1)) (rest := []) (va_runV (C := "java/lang/String") ⟨hx, hb, hml, hown, q_words E C⟩ (ct_isl E ES hi) ⟨q_callBs E C mo_t_isl (by decide) (by rw [hR]; decide) (by rw [hR]; decide) (q_lk_in in_4 81 rfl rfl), q_word E C (mo_t_isl.2.2.2.2.2.2.1 rfl).1, q_word E C (mo_t_isl.2.2.2.2.2.2.1 rfl).2⟩ ⟨fun _ _ _ _ q => q, ⟨cellO, o1, o2, o3⟩, fun U hU hW => ⟨rfl, q_GUof C hS hU hW⟩⟩ (As := []) rfl rfl hl.1 rfl (lv_room (by decide)) dt_J0_charAt_5068e_1 ⟨Nat.zero_le _, Nat.zero_le _⟩) hS (fun locs1 hS => ?_)
  refine lv_if_eq (tgt := 16) hx hb dt_J0_charAt_5068e_4 (by decide) (fun h => absurd h (by decide)) (fun _ => ?_)
  refine lv_aload_n hx hb dt_J0_charAt_5068e_7 rfl (lv_at hl 0 rfl) ?_
  refine vk_getf hx hb hOv hS hown (q_word E C (q_lk_in in_10 19 rfl rfl)) (fun _ h => h) dt_J0_charAt_5068e_8 ?_
  refine lv_iload_n hx hb dt_J0_charAt_5068e_11 rfl (lv_at hl 1 rfl) ?_
  refine q_callP (w := some (.int ((sb.getD i []).getD j.toNatClampNeg 0))) (rest := []) (va_runS ⟨hx, hb, hml, hown, q_words E C⟩ (ct_l1 E ES hok hi hj) ⟨q_callBs E C mo_t_l1 (by decide) (by rw [hR]; decide) (by rw [hR]; decide) (q_lk_in in_4 85 rfl rfl), q_word E C (mo_t_l1.2.2.2.2.2.2.2.1 (Or.inl rfl))⟩ ⟨fun _ _ _ _ q => q, fun U hU hW => ⟨rfl, q_GUof C hS hU hW⟩⟩ (As := [.ref (av i), .int j]) rfl rfl hl.1 rfl (lv_room (by decide)) dt_J0_charAt_5068e_12 ⟨Nat.zero_le _, Nat.zero_le _⟩) hS (fun locs1 hS => ?_)
  obtain ⟨c1, c2⟩ := (hok i hi).2 _ hlt
  rw [c2] at c1
  exact W.zret hx hb hr c1 (fun t ht _ => ⟨rfl, ht⟩) hS.2.2 dt_J0_charAt_5068e_15 hlocks
/-- the rows on texts -/
theorem q_SA_of {T : Tb} {mt : List Mr} (E : q_E F X sk) (HT : q_T T mt sk) (ES : q_ES F sb av) (hok : q_okb sb) : q_SA F sb T := by
  intro B own cc nL ret ini C hf hl
  obtain ⟨hx, hb, hml, hr, hown, hlocks, hini, hwm, hGb, hGk⟩ := id C
  refine ⟨?_, ?_⟩
  · intro oi n pc cc2 u H locs cells slots Q rls rest hb2 hown2 hsz hd hmem hu hw hce hsl hS k
    have C2 : q_B F B (q_cn oi) cc2 nL ret ini := ⟨hx, hb2, hml, hr, hown2, hlocks, hini, hwm, hGb, hGk⟩
    obtain ⟨hO, -, -, -⟩ := ES.1 _ hu
    obtain ⟨cellO, o1, o2, o3, -⟩ := (hO.moved hwm.alike).kept (fun a ha _ => hGk a ha)
    have o4 : H[F.sa u.toNat]? = some cellO := by
      have hlt : F.sa u.toNat < B.s.heap.size := (Array.getElem?_eq_some_iff.mp o1).1
      have hna : ¬ q_A F (F.sa u.toNat) := by obtain ⟨_, _, _, _, h9⟩ := hO; exact h9
      rw [hS.2.1 _ hlt hna]; exact o1
    refine q_callP (w := some (.int (Int32.ofNat (sb.getD u.toNat []).length))) (rest := rest) (va_runV (C := "java/lang/String") ⟨hx, hb2, hml, hown2, q_words E C2⟩ (ct_len E ES hu) ⟨q_callBs E C2 mo_t_len (by decide) (by omega) (by show 8 + (1 + 11) + 22 * 1 ≤ _; omega) (HT.2.2.2.2.1 _ hmem), q_word E C2 (mo_t_len.2.2.2.2.2.2.1 rfl).1, q_word E C2 (mo_t_len.2.2.2.2.2.2.1 rfl).2⟩ ⟨fun _ _ _ _ q => q, ⟨cellO, o4, o2, o3⟩, fun U hU hW => ⟨rfl, q_GUof C2 hS hU hW⟩⟩ (As := []) rfl rfl hsz rfl (by show 2 * 0 + _ ≤ 8; omega) hd ⟨hce, hsl⟩) hS k
  · intro oi n pc cc2 u j H locs cells slots Q rls rest hb2 hown2 hsz hd hmem hu hj hw hce hsl hS k
    have C2 : q_B F B (q_cn oi) cc2 nL ret ini := ⟨hx, hb2, hml, hr, hown2, hlocks, hini, hwm, hGb, hGk⟩
    obtain ⟨hO, -, -, -⟩ := ES.1 _ hu
    obtain ⟨cellO, o1, o2, o3, -⟩ := (hO.moved hwm.alike).kept (fun a ha _ => hGk a ha)
    have o4 : H[F.sa u.toNat]? = some cellO := by
      have hlt : F.sa u.toNat < B.s.heap.size := (Array.getElem?_eq_some_iff.mp o1).1
      have hna : ¬ q_A F (F.sa u.toNat) := by obtain ⟨_, _, _, _, h9⟩ := hO; exact h9
      rw [hS.2.1 _ hlt hna]; exact o1
    refine q_callP (w := some (.int ((sb.getD u.toNat []).getD j.toNatClampNeg 0))) (rest := rest) (va_runV (C := "java/lang/String") ⟨hx, hb2, hml, hown2, q_words E C2⟩ (ct_cat E ES hok hu hj) ⟨q_callBs E C2 mo_t_cat (by decide) (by omega) (by show 8 + (2 + 11) + 22 * 3 ≤ _; omega) (HT.2.2.2.2.1 _ hmem), q_word E C2 (mo_t_cat.2.2.2.2.2.2.1 rfl).1, q_word E C2 (mo_t_cat.2.2.2.2.2.2.1 rfl).2⟩ ⟨fun _ _ _ _ q => q, ⟨cellO, o4, o2, o3⟩, fun U hU hW => ⟨rfl, q_GUof C2 hS hU hW⟩⟩ (As := [.int j]) rfl rfl hsz rfl (by show 2 * 0 + _ ≤ 8; omega) hd ⟨hce, hsl⟩) hS k
end Texts
