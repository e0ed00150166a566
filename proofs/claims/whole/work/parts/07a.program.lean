/-- pairs of exceptions of which one is no case of the other -/
def q_NC (F : Fx) : Prop := ∀ p ∈ ([(0, 2), (3, 2), (1, 0), (4, 2), (4, 0), (3, 0)] : List (Nat × Nat)), va_Nc (q_exn p.1) (q_exn p.2) F.s0
theorem hk_L_cabinet {F : Fx} {X : Sx} {sk : List (String × Nat × String)} (E : q_E F X sk) (NC : q_NC F) : ∀ (B : Bd), q_B F B (q_cn 13) cL_cabinet 3 (some .int) false → B.c.exceptionTable.toList = tableOf [(0, 8, 11, 13), (0, 8, 14, 15)] → ∀ (i : Nat) (info : List Nat) (c0 : Int32) (pc0 : Nat) (ins : Instr) (len : Nat), cd_L_cabinet[i]? = some (48, info, c0, pc0, ins, len) → q_HK B (q_cn 13) cL_cabinet 3 info pc0 := by
  intro B C htab i info c0 pc0 ins len hcd
  have hf : cd_L_cabinet.filter (fun e => e.1 == 48) = [(48, [146, 1, 0, 11, 0, 0, 1, 2, 0, 0, 0], 0, 3, .invokevirtual 7, 3)] := by decide +kernel
  have hm : ((48, info, c0, pc0, ins, len) : En) ∈ cd_L_cabinet.filter (fun e => e.1 == 48) := List.mem_filter.mpr ⟨List.mem_of_getElem? hcd, rfl⟩
  rw [hf] at hm
  cases List.mem_singleton.mp hm
  intro n hn
  match n, hn with
  | 0, _ => exact ⟨[], ⟨0, 8, 11, 13⟩, [⟨0, 8, 14, 15⟩], 2, 1, htab, fun z hz => absurd hz List.not_mem_nil, by decide, by decide, q_word E C (q_lk_in in_4 36 rfl rfl), q_word2 E C (q_lk_mem in_4 219 rfl) rfl, by decide, Or.inr ⟨⟨2, rfl, by decide +kernel⟩, rfl⟩, by decide +kernel, by decide +kernel⟩
  | 1, _ => exact ⟨[⟨0, 8, 11, 13⟩], ⟨0, 8, 14, 15⟩, [], 2, 1, htab, List.forall_mem_cons.mpr ⟨Or.inr ⟨by decide, q_exn 0, q_word E C (q_lk_in in_4 36 rfl rfl), va_Nc.moved C.2.2.2.2.2.2.2.1.alike (NC (1, 0) (by decide))⟩, fun z hz => absurd hz List.not_mem_nil⟩, by decide, by decide, q_word E C (q_lk_in in_4 37 rfl rfl), q_word2 E C (q_lk_mem in_5 48 rfl) rfl, by decide, Or.inr ⟨⟨2, rfl, by decide +kernel⟩, rfl⟩, by decide +kernel, by decide +kernel⟩
  | 2, hn => exact absurd rfl hn
  | 3, hn => exact absurd rfl hn
  | 4, hn => exact absurd rfl hn
  | n + 5, hn => exact absurd rfl hn
theorem hk_L_law {F : Fx} {X : Sx} {sk : List (String × Nat × String)} (E : q_E F X sk) (NC : q_NC F) : ∀ (B : Bd), q_B F B (q_cn 13) cL_law 3 (some .int) false → B.c.exceptionTable.toList = tableOf [(0, 8, 11, 13)] → ∀ (i : Nat) (info : List Nat) (c0 : Int32) (pc0 : Nat) (ins : Instr) (len : Nat), cd_L_law[i]? = some (48, info, c0, pc0, ins, len) → q_HK B (q_cn 13) cL_law 3 info pc0 := by
  intro B C htab i info c0 pc0 ins len hcd
  have hf : cd_L_law.filter (fun e => e.1 == 48) = [(48, [147, 1, 0, 11, 0, 0, 1, 0, 0, 0, 0], 0, 3, .invokevirtual 17, 3)] := by decide +kernel
  have hm : ((48, info, c0, pc0, ins, len) : En) ∈ cd_L_law.filter (fun e => e.1 == 48) := List.mem_filter.mpr ⟨List.mem_of_getElem? hcd, rfl⟩
  rw [hf] at hm
  cases List.mem_singleton.mp hm
  intro n hn
  match n, hn with
  | 0, _ => exact ⟨[], ⟨0, 8, 11, 13⟩, [], 2, 1, htab, fun z hz => absurd hz List.not_mem_nil, by decide, by decide, q_word E C (q_lk_in in_4 36 rfl rfl), q_word2 E C (q_lk_mem in_4 219 rfl) rfl, by decide, Or.inr ⟨⟨2, rfl, by decide +kernel⟩, rfl⟩, by decide +kernel, by decide +kernel⟩
  | 1, hn => exact absurd rfl hn
  | 2, hn => exact absurd rfl hn
  | 3, hn => exact absurd rfl hn
  | 4, hn => exact absurd rfl hn
  | n + 5, hn => exact absurd rfl hn
theorem hk_L_jar {F : Fx} {X : Sx} {sk : List (String × Nat × String)} (E : q_E F X sk) (NC : q_NC F) : ∀ (B : Bd), q_B F B (q_cn 13) cL_jar 5 (some .int) false → B.c.exceptionTable.toList = tableOf [(0, 10, 13, 24), (0, 10, 17, 26)] → ∀ (i : Nat) (info : List Nat) (c0 : Int32) (pc0 : Nat) (ins : Instr) (len : Nat), cd_L_jar[i]? = some (48, info, c0, pc0, ins, len) → q_HK B (q_cn 13) cL_jar 5 info pc0 := by
  intro B C htab i info c0 pc0 ins len hcd
  have hf : cd_L_jar.filter (fun e => e.1 == 48) = [(48, [149, 3, 0, 11, 0, 0, 0, 0, 1, 2, 0], 0, 5, .invokevirtual 20, 3)] := by decide +kernel
  have hm : ((48, info, c0, pc0, ins, len) : En) ∈ cd_L_jar.filter (fun e => e.1 == 48) := List.mem_filter.mpr ⟨List.mem_of_getElem? hcd, rfl⟩
  rw [hf] at hm
  cases List.mem_singleton.mp hm
  intro n hn
  match n, hn with
  | 0, hn => exact absurd rfl hn
  | 1, hn => exact absurd rfl hn
  | 2, _ => exact ⟨[], ⟨0, 10, 13, 24⟩, [⟨0, 10, 17, 26⟩], 4, 2, htab, fun z hz => absurd hz List.not_mem_nil, by decide, by decide, q_word E C (q_lk_in in_5 141 rfl rfl), q_word2 E C (q_lk_mem in_5 157 rfl) rfl, by decide, Or.inl ⟨by decide +kernel, rfl⟩, by decide +kernel, by decide +kernel⟩
  | 3, _ => exact ⟨[⟨0, 10, 13, 24⟩], ⟨0, 10, 17, 26⟩, [], 4, 2, htab, List.forall_mem_cons.mpr ⟨Or.inr ⟨by decide, q_exn 2, q_word E C (q_lk_in in_5 141 rfl rfl), va_Nc.moved C.2.2.2.2.2.2.2.1.alike (NC (3, 2) (by decide))⟩, fun z hz => absurd hz List.not_mem_nil⟩, by decide, by decide, q_word E C (q_lk_in in_5 142 rfl rfl), q_word2 E C (q_lk_mem in_5 187 rfl) rfl, by decide, Or.inl ⟨by decide +kernel, rfl⟩, by decide +kernel, by decide +kernel⟩
  | 4, hn => exact absurd rfl hn
  | n + 5, hn => exact absurd rfl hn
theorem hk_L_advice {F : Fx} {X : Sx} {sk : List (String × Nat × String)} (E : q_E F X sk) (NC : q_NC F) : ∀ (B : Bd), q_B F B (q_cn 13) cL_advice 6 (some .int) false → B.c.exceptionTable.toList = tableOf [(0, 12, 15, 24)] → ∀ (i : Nat) (info : List Nat) (c0 : Int32) (pc0 : Nat) (ins : Instr) (len : Nat), cd_L_advice[i]? = some (48, info, c0, pc0, ins, len) → q_HK B (q_cn 13) cL_advice 6 info pc0 := by
  intro B C htab i info c0 pc0 ins len hcd
  have hf : cd_L_advice.filter (fun e => e.1 == 48) = [(48, [150, 4, 0, 11, 0, 0, 0, 0, 1, 0, 0], 0, 7, .invokevirtual 28, 3)] := by decide +kernel
  have hm : ((48, info, c0, pc0, ins, len) : En) ∈ cd_L_advice.filter (fun e => e.1 == 48) := List.mem_filter.mpr ⟨List.mem_of_getElem? hcd, rfl⟩
  rw [hf] at hm
  cases List.mem_singleton.mp hm
  intro n hn
  match n, hn with
  | 0, hn => exact absurd rfl hn
  | 1, hn => exact absurd rfl hn
  | 2, _ => exact ⟨[], ⟨0, 12, 15, 24⟩, [], 5, 2, htab, fun z hz => absurd hz List.not_mem_nil, by decide, by decide, q_word E C (q_lk_in in_5 141 rfl rfl), q_word2 E C (q_lk_mem in_5 157 rfl) rfl, by decide, Or.inl ⟨by decide +kernel, rfl⟩, by decide +kernel, by decide +kernel⟩
  | 3, hn => exact absurd rfl hn
  | 4, hn => exact absurd rfl hn
  | n + 5, hn => exact absurd rfl hn
theorem hk_L_light {F : Fx} {X : Sx} {sk : List (String × Nat × String)} (E : q_E F X sk) (NC : q_NC F) : ∀ (B : Bd), q_B F B (q_cn 13) cL_light 4 (some .int) false → B.c.exceptionTable.toList = tableOf [(0, 9, 12, 24)] → ∀ (i : Nat) (info : List Nat) (c0 : Int32) (pc0 : Nat) (ins : Instr) (len : Nat), cd_L_light[i]? = some (48, info, c0, pc0, ins, len) → q_HK B (q_cn 13) cL_light 4 info pc0 := by
  intro B C htab i info c0 pc0 ins len hcd
  have hf : cd_L_light.filter (fun e => e.1 == 48) = [(48, [151, 2, 0, 11, 0, 0, 0, 0, 1, 0, 0], 0, 4, .invokevirtual 32, 3)] := by decide +kernel
  have hm : ((48, info, c0, pc0, ins, len) : En) ∈ cd_L_light.filter (fun e => e.1 == 48) := List.mem_filter.mpr ⟨List.mem_of_getElem? hcd, rfl⟩
  rw [hf] at hm
  cases List.mem_singleton.mp hm
  intro n hn
  match n, hn with
  | 0, hn => exact absurd rfl hn
  | 1, hn => exact absurd rfl hn
  | 2, _ => exact ⟨[], ⟨0, 9, 12, 24⟩, [], 3, 1, htab, fun z hz => absurd hz List.not_mem_nil, by decide, by decide, q_word E C (q_lk_in in_5 141 rfl rfl), q_word2 E C (q_lk_mem in_5 157 rfl) rfl, by decide, Or.inr ⟨⟨3, rfl, by decide +kernel⟩, rfl⟩, by decide +kernel, by decide +kernel⟩
  | 3, hn => exact absurd rfl hn
  | 4, hn => exact absurd rfl hn
  | n + 5, hn => exact absurd rfl hn
theorem hk_L_need {F : Fx} {X : Sx} {sk : List (String × Nat × String)} (E : q_E F X sk) (NC : q_NC F) : ∀ (B : Bd), q_B F B (q_cn 13) cL_need 5 (some .int) false → B.c.exceptionTable.toList = tableOf [(0, 10, 13, 24), (0, 10, 17, 26)] → ∀ (i : Nat) (info : List Nat) (c0 : Int32) (pc0 : Nat) (ins : Instr) (len : Nat), cd_L_need[i]? = some (48, info, c0, pc0, ins, len) → q_HK B (q_cn 13) cL_need 5 info pc0 := by
  intro B C htab i info c0 pc0 ins len hcd
  have hf : cd_L_need.filter (fun e => e.1 == 48) = [(48, [152, 3, 0, 11, 0, 0, 0, 0, 1, 2, 0], 0, 5, .invokevirtual 36, 3)] := by decide +kernel
  have hm : ((48, info, c0, pc0, ins, len) : En) ∈ cd_L_need.filter (fun e => e.1 == 48) := List.mem_filter.mpr ⟨List.mem_of_getElem? hcd, rfl⟩
  rw [hf] at hm
  cases List.mem_singleton.mp hm
  intro n hn
  match n, hn with
  | 0, hn => exact absurd rfl hn
  | 1, hn => exact absurd rfl hn
  | 2, _ => exact ⟨[], ⟨0, 10, 13, 24⟩, [⟨0, 10, 17, 26⟩], 4, 2, htab, fun z hz => absurd hz List.not_mem_nil, by decide, by decide, q_word E C (q_lk_in in_5 141 rfl rfl), q_word2 E C (q_lk_mem in_5 157 rfl) rfl, by decide, Or.inl ⟨by decide +kernel, rfl⟩, by decide +kernel, by decide +kernel⟩
  | 3, _ => exact ⟨[⟨0, 10, 13, 24⟩], ⟨0, 10, 17, 26⟩, [], 4, 2, htab, List.forall_mem_cons.mpr ⟨Or.inr ⟨by decide, q_exn 2, q_word E C (q_lk_in in_5 141 rfl rfl), va_Nc.moved C.2.2.2.2.2.2.2.1.alike (NC (3, 2) (by decide))⟩, fun z hz => absurd hz List.not_mem_nil⟩, by decide, by decide, q_word E C (q_lk_in in_5 142 rfl rfl), q_word2 E C (q_lk_mem in_5 187 rfl) rfl, by decide, Or.inl ⟨by decide +kernel, rfl⟩, by decide +kernel, by decide +kernel⟩
  | 4, hn => exact absurd rfl hn
  | n + 5, hn => exact absurd rfl hn
theorem hk_L_ask {F : Fx} {X : Sx} {sk : List (String × Nat × String)} (E : q_E F X sk) (NC : q_NC F) : ∀ (B : Bd), q_B F B (q_cn 13) cL_ask 5 (some .int) false → B.c.exceptionTable.toList = tableOf [(0, 10, 13, 24), (0, 10, 17, 42)] → ∀ (i : Nat) (info : List Nat) (c0 : Int32) (pc0 : Nat) (ins : Instr) (len : Nat), cd_L_ask[i]? = some (48, info, c0, pc0, ins, len) → q_HK B (q_cn 13) cL_ask 5 info pc0 := by
  intro B C htab i info c0 pc0 ins len hcd
  have hf : cd_L_ask.filter (fun e => e.1 == 48) = [(48, [153, 3, 0, 11, 0, 0, 0, 0, 1, 0, 2], 0, 5, .invokevirtual 39, 3)] := by decide +kernel
  have hm : ((48, info, c0, pc0, ins, len) : En) ∈ cd_L_ask.filter (fun e => e.1 == 48) := List.mem_filter.mpr ⟨List.mem_of_getElem? hcd, rfl⟩
  rw [hf] at hm
  cases List.mem_singleton.mp hm
  intro n hn
  match n, hn with
  | 0, hn => exact absurd rfl hn
  | 1, hn => exact absurd rfl hn
  | 2, _ => exact ⟨[], ⟨0, 10, 13, 24⟩, [⟨0, 10, 17, 42⟩], 4, 2, htab, fun z hz => absurd hz List.not_mem_nil, by decide, by decide, q_word E C (q_lk_in in_5 141 rfl rfl), q_word2 E C (q_lk_mem in_5 157 rfl) rfl, by decide, Or.inl ⟨by decide +kernel, rfl⟩, by decide +kernel, by decide +kernel⟩
  | 3, hn => exact absurd rfl hn
  | 4, _ => exact ⟨[⟨0, 10, 13, 24⟩], ⟨0, 10, 17, 42⟩, [], 4, 2, htab, List.forall_mem_cons.mpr ⟨Or.inr ⟨by decide, q_exn 2, q_word E C (q_lk_in in_5 141 rfl rfl), va_Nc.moved C.2.2.2.2.2.2.2.1.alike (NC (4, 2) (by decide))⟩, fun z hz => absurd hz List.not_mem_nil⟩, by decide, by decide, q_word E C (q_lk_in in_6 1 rfl rfl), q_word2 E C (q_lk_mem in_6 12 rfl) rfl, by decide, Or.inl ⟨by decide +kernel, rfl⟩, by decide +kernel, by decide +kernel⟩
  | n + 5, hn => exact absurd rfl hn
theorem hk_L_mix {F : Fx} {X : Sx} {sk : List (String × Nat × String)} (E : q_E F X sk) (NC : q_NC F) : ∀ (B : Bd), q_B F B (q_cn 13) cL_mix 6 (some .int) false → B.c.exceptionTable.toList = tableOf [(0, 12, 15, 24), (0, 12, 19, 13), (0, 12, 23, 42)] → ∀ (i : Nat) (info : List Nat) (c0 : Int32) (pc0 : Nat) (ins : Instr) (len : Nat), cd_L_mix[i]? = some (48, info, c0, pc0, ins, len) → q_HK B (q_cn 13) cL_mix 6 info pc0 := by
  intro B C htab i info c0 pc0 ins len hcd
  have hf : cd_L_mix.filter (fun e => e.1 == 48) = [(48, [154, 4, 0, 11, 0, 0, 2, 0, 1, 0, 3], 0, 7, .invokevirtual 44, 3)] := by decide +kernel
  have hm : ((48, info, c0, pc0, ins, len) : En) ∈ cd_L_mix.filter (fun e => e.1 == 48) := List.mem_filter.mpr ⟨List.mem_of_getElem? hcd, rfl⟩
  rw [hf] at hm
  cases List.mem_singleton.mp hm
  intro n hn
  match n, hn with
  | 0, _ => exact ⟨[⟨0, 12, 15, 24⟩], ⟨0, 12, 19, 13⟩, [⟨0, 12, 23, 42⟩], 5, 2, htab, List.forall_mem_cons.mpr ⟨Or.inr ⟨by decide, q_exn 2, q_word E C (q_lk_in in_5 141 rfl rfl), va_Nc.moved C.2.2.2.2.2.2.2.1.alike (NC (0, 2) (by decide))⟩, fun z hz => absurd hz List.not_mem_nil⟩, by decide, by decide, q_word E C (q_lk_in in_4 36 rfl rfl), q_word2 E C (q_lk_mem in_4 219 rfl) rfl, by decide, Or.inl ⟨by decide +kernel, rfl⟩, by decide +kernel, by decide +kernel⟩
  | 1, hn => exact absurd rfl hn
  | 2, _ => exact ⟨[], ⟨0, 12, 15, 24⟩, [⟨0, 12, 19, 13⟩, ⟨0, 12, 23, 42⟩], 5, 2, htab, fun z hz => absurd hz List.not_mem_nil, by decide, by decide, q_word E C (q_lk_in in_5 141 rfl rfl), q_word2 E C (q_lk_mem in_5 157 rfl) rfl, by decide, Or.inl ⟨by decide +kernel, rfl⟩, by decide +kernel, by decide +kernel⟩
  | 3, hn => exact absurd rfl hn
  | 4, _ => exact ⟨[⟨0, 12, 15, 24⟩, ⟨0, 12, 19, 13⟩], ⟨0, 12, 23, 42⟩, [], 5, 2, htab, List.forall_mem_cons.mpr ⟨Or.inr ⟨by decide, q_exn 2, q_word E C (q_lk_in in_5 141 rfl rfl), va_Nc.moved C.2.2.2.2.2.2.2.1.alike (NC (4, 2) (by decide))⟩, List.forall_mem_cons.mpr ⟨Or.inr ⟨by decide, q_exn 0, q_word E C (q_lk_in in_4 36 rfl rfl), va_Nc.moved C.2.2.2.2.2.2.2.1.alike (NC (4, 0) (by decide))⟩, fun z hz => absurd hz List.not_mem_nil⟩⟩, by decide, by decide, q_word E C (q_lk_in in_6 1 rfl rfl), q_word2 E C (q_lk_mem in_6 12 rfl) rfl, by decide, Or.inl ⟨by decide +kernel, rfl⟩, by decide +kernel, by decide +kernel⟩
  | n + 5, hn => exact absurd rfl hn
theorem hk_L_close {F : Fx} {X : Sx} {sk : List (String × Nat × String)} (E : q_E F X sk) (NC : q_NC F) : ∀ (B : Bd), q_B F B (q_cn 13) cL_close 4 (some .int) false → B.c.exceptionTable.toList = tableOf [(0, 16, 19, 24)] → ∀ (i : Nat) (info : List Nat) (c0 : Int32) (pc0 : Nat) (ins : Instr) (len : Nat), cd_L_close[i]? = some (48, info, c0, pc0, ins, len) → q_HK B (q_cn 13) cL_close 4 info pc0 := by
  intro B C htab i info c0 pc0 ins len hcd
  have hf : cd_L_close.filter (fun e => e.1 == 48) = [(48, [155, 2, 0, 11, 0, 0, 0, 0, 1, 0, 0], 0, 4, .invokevirtual 48, 3)] := by decide +kernel
  have hm : ((48, info, c0, pc0, ins, len) : En) ∈ cd_L_close.filter (fun e => e.1 == 48) := List.mem_filter.mpr ⟨List.mem_of_getElem? hcd, rfl⟩
  rw [hf] at hm
  cases List.mem_singleton.mp hm
  intro n hn
  match n, hn with
  | 0, hn => exact absurd rfl hn
  | 1, hn => exact absurd rfl hn
  | 2, _ => exact ⟨[], ⟨0, 16, 19, 24⟩, [], 3, 1, htab, fun z hz => absurd hz List.not_mem_nil, by decide, by decide, q_word E C (q_lk_in in_5 141 rfl rfl), q_word2 E C (q_lk_mem in_5 157 rfl) rfl, by decide, Or.inr ⟨⟨3, rfl, by decide +kernel⟩, rfl⟩, by decide +kernel, by decide +kernel⟩
  | 3, hn => exact absurd rfl hn
  | 4, hn => exact absurd rfl hn
  | n + 5, hn => exact absurd rfl hn
theorem hk_L_label {F : Fx} {X : Sx} {sk : List (String × Nat × String)} (E : q_E F X sk) (NC : q_NC F) : ∀ (B : Bd), q_B F B (q_cn 13) cL_label 5 (some .int) false → B.c.exceptionTable.toList = tableOf [(0, 10, 13, 24)] → ∀ (i : Nat) (info : List Nat) (c0 : Int32) (pc0 : Nat) (ins : Instr) (len : Nat), cd_L_label[i]? = some (48, info, c0, pc0, ins, len) → q_HK B (q_cn 13) cL_label 5 info pc0 := by
  intro B C htab i info c0 pc0 ins len hcd
  have hf : cd_L_label.filter (fun e => e.1 == 48) = [(48, [156, 3, 0, 11, 0, 0, 0, 0, 1, 0, 0], 0, 5, .invokevirtual 52, 3)] := by decide +kernel
  have hm : ((48, info, c0, pc0, ins, len) : En) ∈ cd_L_label.filter (fun e => e.1 == 48) := List.mem_filter.mpr ⟨List.mem_of_getElem? hcd, rfl⟩
  rw [hf] at hm
  cases List.mem_singleton.mp hm
  intro n hn
  match n, hn with
  | 0, hn => exact absurd rfl hn
  | 1, hn => exact absurd rfl hn
  | 2, _ => exact ⟨[], ⟨0, 10, 13, 24⟩, [], 4, 2, htab, fun z hz => absurd hz List.not_mem_nil, by decide, by decide, q_word E C (q_lk_in in_5 141 rfl rfl), q_word2 E C (q_lk_mem in_5 157 rfl) rfl, by decide, Or.inl ⟨by decide +kernel, rfl⟩, by decide +kernel, by decide +kernel⟩
  | 3, hn => exact absurd rfl hn
  | 4, hn => exact absurd rfl hn
  | n + 5, hn => exact absurd rfl hn
theorem hk_L_move {F : Fx} {X : Sx} {sk : List (String × Nat × String)} (E : q_E F X sk) (NC : q_NC F) : ∀ (B : Bd), q_B F B (q_cn 13) cL_move 5 (some .int) false → B.c.exceptionTable.toList = tableOf [(0, 10, 13, 24)] → ∀ (i : Nat) (info : List Nat) (c0 : Int32) (pc0 : Nat) (ins : Instr) (len : Nat), cd_L_move[i]? = some (48, info, c0, pc0, ins, len) → q_HK B (q_cn 13) cL_move 5 info pc0 := by
  intro B C htab i info c0 pc0 ins len hcd
  have hf : cd_L_move.filter (fun e => e.1 == 48) = [(48, [157, 3, 0, 11, 0, 0, 0, 0, 1, 0, 0], 0, 5, .invokevirtual 55, 3)] := by decide +kernel
  have hm : ((48, info, c0, pc0, ins, len) : En) ∈ cd_L_move.filter (fun e => e.1 == 48) := List.mem_filter.mpr ⟨List.mem_of_getElem? hcd, rfl⟩
  rw [hf] at hm
  cases List.mem_singleton.mp hm
  intro n hn
  match n, hn with
  | 0, hn => exact absurd rfl hn
  | 1, hn => exact absurd rfl hn
  | 2, _ => exact ⟨[], ⟨0, 10, 13, 24⟩, [], 4, 2, htab, fun z hz => absurd hz List.not_mem_nil, by decide, by decide, q_word E C (q_lk_in in_5 141 rfl rfl), q_word2 E C (q_lk_mem in_5 157 rfl) rfl, by decide, Or.inl ⟨by decide +kernel, rfl⟩, by decide +kernel, by decide +kernel⟩
  | 3, hn => exact absurd rfl hn
  | 4, hn => exact absurd rfl hn
  | n + 5, hn => exact absurd rfl hn
theorem hk_L_years {F : Fx} {X : Sx} {sk : List (String × Nat × String)} (E : q_E F X sk) (NC : q_NC F) : ∀ (B : Bd), q_B F B (q_cn 13) cL_years 4 (some .int) false → B.c.exceptionTable.toList = tableOf [(0, 9, 12, 13)] → ∀ (i : Nat) (info : List Nat) (c0 : Int32) (pc0 : Nat) (ins : Instr) (len : Nat), cd_L_years[i]? = some (48, info, c0, pc0, ins, len) → q_HK B (q_cn 13) cL_years 4 info pc0 := by
  intro B C htab i info c0 pc0 ins len hcd
  have hf : cd_L_years.filter (fun e => e.1 == 48) = [(48, [158, 2, 0, 11, 0, 0, 1, 0, 0, 0, 0], 0, 4, .invokevirtual 58, 3)] := by decide +kernel
  have hm : ((48, info, c0, pc0, ins, len) : En) ∈ cd_L_years.filter (fun e => e.1 == 48) := List.mem_filter.mpr ⟨List.mem_of_getElem? hcd, rfl⟩
  rw [hf] at hm
  cases List.mem_singleton.mp hm
  intro n hn
  match n, hn with
  | 0, _ => exact ⟨[], ⟨0, 9, 12, 13⟩, [], 3, 1, htab, fun z hz => absurd hz List.not_mem_nil, by decide, by decide, q_word E C (q_lk_in in_4 36 rfl rfl), q_word2 E C (q_lk_mem in_4 219 rfl) rfl, by decide, Or.inr ⟨⟨3, rfl, by decide +kernel⟩, rfl⟩, by decide +kernel, by decide +kernel⟩
  | 1, hn => exact absurd rfl hn
  | 2, hn => exact absurd rfl hn
  | 3, hn => exact absurd rfl hn
  | 4, hn => exact absurd rfl hn
  | n + 5, hn => exact absurd rfl hn
theorem hk_L_mixture {F : Fx} {X : Sx} {sk : List (String × Nat × String)} (E : q_E F X sk) (NC : q_NC F) : ∀ (B : Bd), q_B F B (q_cn 13) cL_mixture 6 (some .int) false → B.c.exceptionTable.toList = tableOf [(0, 12, 15, 24), (0, 12, 19, 13)] → ∀ (i : Nat) (info : List Nat) (c0 : Int32) (pc0 : Nat) (ins : Instr) (len : Nat), cd_L_mixture[i]? = some (48, info, c0, pc0, ins, len) → q_HK B (q_cn 13) cL_mixture 6 info pc0 := by
  intro B C htab i info c0 pc0 ins len hcd
  have hf : cd_L_mixture.filter (fun e => e.1 == 48) = [(48, [159, 4, 0, 11, 0, 0, 2, 0, 1, 0, 0], 0, 7, .invokevirtual 61, 3)] := by decide +kernel
  have hm : ((48, info, c0, pc0, ins, len) : En) ∈ cd_L_mixture.filter (fun e => e.1 == 48) := List.mem_filter.mpr ⟨List.mem_of_getElem? hcd, rfl⟩
  rw [hf] at hm
  cases List.mem_singleton.mp hm
  intro n hn
  match n, hn with
  | 0, _ => exact ⟨[⟨0, 12, 15, 24⟩], ⟨0, 12, 19, 13⟩, [], 5, 2, htab, List.forall_mem_cons.mpr ⟨Or.inr ⟨by decide, q_exn 2, q_word E C (q_lk_in in_5 141 rfl rfl), va_Nc.moved C.2.2.2.2.2.2.2.1.alike (NC (0, 2) (by decide))⟩, fun z hz => absurd hz List.not_mem_nil⟩, by decide, by decide, q_word E C (q_lk_in in_4 36 rfl rfl), q_word2 E C (q_lk_mem in_4 219 rfl) rfl, by decide, Or.inl ⟨by decide +kernel, rfl⟩, by decide +kernel, by decide +kernel⟩
  | 1, hn => exact absurd rfl hn
  | 2, _ => exact ⟨[], ⟨0, 12, 15, 24⟩, [⟨0, 12, 19, 13⟩], 5, 2, htab, fun z hz => absurd hz List.not_mem_nil, by decide, by decide, q_word E C (q_lk_in in_5 141 rfl rfl), q_word2 E C (q_lk_mem in_5 157 rfl) rfl, by decide, Or.inl ⟨by decide +kernel, rfl⟩, by decide +kernel, by decide +kernel⟩
  | 3, hn => exact absurd rfl hn
  | 4, hn => exact absurd rfl hn
  | n + 5, hn => exact absurd rfl hn
theorem hk_L_best {F : Fx} {X : Sx} {sk : List (String × Nat × String)} (E : q_E F X sk) (NC : q_NC F) : ∀ (B : Bd), q_B F B (q_cn 13) cL_best 5 (some .int) false → B.c.exceptionTable.toList = tableOf [(0, 10, 13, 24), (0, 10, 17, 13)] → ∀ (i : Nat) (info : List Nat) (c0 : Int32) (pc0 : Nat) (ins : Instr) (len : Nat), cd_L_best[i]? = some (48, info, c0, pc0, ins, len) → q_HK B (q_cn 13) cL_best 5 info pc0 := by
  intro B C htab i info c0 pc0 ins len hcd
  have hf : cd_L_best.filter (fun e => e.1 == 48) = [(48, [160, 3, 0, 11, 0, 0, 2, 0, 1, 0, 0], 0, 5, .invokevirtual 64, 3)] := by decide +kernel
  have hm : ((48, info, c0, pc0, ins, len) : En) ∈ cd_L_best.filter (fun e => e.1 == 48) := List.mem_filter.mpr ⟨List.mem_of_getElem? hcd, rfl⟩
  rw [hf] at hm
  cases List.mem_singleton.mp hm
  intro n hn
  match n, hn with
  | 0, _ => exact ⟨[⟨0, 10, 13, 24⟩], ⟨0, 10, 17, 13⟩, [], 4, 2, htab, List.forall_mem_cons.mpr ⟨Or.inr ⟨by decide, q_exn 2, q_word E C (q_lk_in in_5 141 rfl rfl), va_Nc.moved C.2.2.2.2.2.2.2.1.alike (NC (0, 2) (by decide))⟩, fun z hz => absurd hz List.not_mem_nil⟩, by decide, by decide, q_word E C (q_lk_in in_4 36 rfl rfl), q_word2 E C (q_lk_mem in_4 219 rfl) rfl, by decide, Or.inl ⟨by decide +kernel, rfl⟩, by decide +kernel, by decide +kernel⟩
  | 1, hn => exact absurd rfl hn
  | 2, _ => exact ⟨[], ⟨0, 10, 13, 24⟩, [⟨0, 10, 17, 13⟩], 4, 2, htab, fun z hz => absurd hz List.not_mem_nil, by decide, by decide, q_word E C (q_lk_in in_5 141 rfl rfl), q_word2 E C (q_lk_mem in_5 157 rfl) rfl, by decide, Or.inl ⟨by decide +kernel, rfl⟩, by decide +kernel, by decide +kernel⟩
  | 3, hn => exact absurd rfl hn
  | 4, hn => exact absurd rfl hn
  | n + 5, hn => exact absurd rfl hn
theorem hk_L_cover {F : Fx} {X : Sx} {sk : List (String × Nat × String)} (E : q_E F X sk) (NC : q_NC F) : ∀ (B : Bd), q_B F B (q_cn 13) cL_cover 4 (some .int) false → B.c.exceptionTable.toList = tableOf [(0, 9, 12, 13)] → ∀ (i : Nat) (info : List Nat) (c0 : Int32) (pc0 : Nat) (ins : Instr) (len : Nat), cd_L_cover[i]? = some (48, info, c0, pc0, ins, len) → q_HK B (q_cn 13) cL_cover 4 info pc0 := by
  intro B C htab i info c0 pc0 ins len hcd
  have hf : cd_L_cover.filter (fun e => e.1 == 48) = [(48, [163, 2, 0, 11, 0, 0, 1, 0, 0, 0, 0], 0, 4, .invokevirtual 67, 3)] := by decide +kernel
  have hm : ((48, info, c0, pc0, ins, len) : En) ∈ cd_L_cover.filter (fun e => e.1 == 48) := List.mem_filter.mpr ⟨List.mem_of_getElem? hcd, rfl⟩
  rw [hf] at hm
  cases List.mem_singleton.mp hm
  intro n hn
  match n, hn with
  | 0, _ => exact ⟨[], ⟨0, 9, 12, 13⟩, [], 3, 1, htab, fun z hz => absurd hz List.not_mem_nil, by decide, by decide, q_word E C (q_lk_in in_4 36 rfl rfl), q_word2 E C (q_lk_mem in_4 219 rfl) rfl, by decide, Or.inr ⟨⟨3, rfl, by decide +kernel⟩, rfl⟩, by decide +kernel, by decide +kernel⟩
  | 1, hn => exact absurd rfl hn
  | 2, hn => exact absurd rfl hn
  | 3, hn => exact absurd rfl hn
  | 4, hn => exact absurd rfl hn
  | n + 5, hn => exact absurd rfl hn
theorem hk_L_tastes {F : Fx} {X : Sx} {sk : List (String × Nat × String)} (E : q_E F X sk) (NC : q_NC F) : ∀ (B : Bd), q_B F B (q_cn 13) cL_tastes 4 (some .int) false → B.c.exceptionTable.toList = tableOf [(0, 9, 12, 13)] → ∀ (i : Nat) (info : List Nat) (c0 : Int32) (pc0 : Nat) (ins : Instr) (len : Nat), cd_L_tastes[i]? = some (48, info, c0, pc0, ins, len) → q_HK B (q_cn 13) cL_tastes 4 info pc0 := by
  intro B C htab i info c0 pc0 ins len hcd
  have hf : cd_L_tastes.filter (fun e => e.1 == 48) = [(48, [166, 2, 0, 11, 0, 0, 1, 0, 0, 0, 0], 0, 4, .invokevirtual 70, 3)] := by decide +kernel
  have hm : ((48, info, c0, pc0, ins, len) : En) ∈ cd_L_tastes.filter (fun e => e.1 == 48) := List.mem_filter.mpr ⟨List.mem_of_getElem? hcd, rfl⟩
  rw [hf] at hm
  cases List.mem_singleton.mp hm
  intro n hn
  match n, hn with
  | 0, _ => exact ⟨[], ⟨0, 9, 12, 13⟩, [], 3, 1, htab, fun z hz => absurd hz List.not_mem_nil, by decide, by decide, q_word E C (q_lk_in in_4 36 rfl rfl), q_word2 E C (q_lk_mem in_4 219 rfl) rfl, by decide, Or.inr ⟨⟨3, rfl, by decide +kernel⟩, rfl⟩, by decide +kernel, by decide +kernel⟩
  | 1, hn => exact absurd rfl hn
  | 2, hn => exact absurd rfl hn
  | 3, hn => exact absurd rfl hn
  | 4, hn => exact absurd rfl hn
  | n + 5, hn => exact absurd rfl hn
theorem hk_L_next {F : Fx} {X : Sx} {sk : List (String × Nat × String)} (E : q_E F X sk) (NC : q_NC F) : ∀ (B : Bd), q_B F B (q_cn 13) cL_next 3 (some .int) false → B.c.exceptionTable.toList = tableOf [(0, 8, 11, 13)] → ∀ (i : Nat) (info : List Nat) (c0 : Int32) (pc0 : Nat) (ins : Instr) (len : Nat), cd_L_next[i]? = some (48, info, c0, pc0, ins, len) → q_HK B (q_cn 13) cL_next 3 info pc0 := by
  intro B C htab i info c0 pc0 ins len hcd
  have hf : cd_L_next.filter (fun e => e.1 == 48) = [(48, [167, 1, 0, 11, 0, 0, 1, 0, 0, 0, 0], 0, 3, .invokevirtual 74, 3)] := by decide +kernel
  have hm : ((48, info, c0, pc0, ins, len) : En) ∈ cd_L_next.filter (fun e => e.1 == 48) := List.mem_filter.mpr ⟨List.mem_of_getElem? hcd, rfl⟩
  rw [hf] at hm
  cases List.mem_singleton.mp hm
  intro n hn
  match n, hn with
  | 0, _ => exact ⟨[], ⟨0, 8, 11, 13⟩, [], 2, 1, htab, fun z hz => absurd hz List.not_mem_nil, by decide, by decide, q_word E C (q_lk_in in_4 36 rfl rfl), q_word2 E C (q_lk_mem in_4 219 rfl) rfl, by decide, Or.inr ⟨⟨2, rfl, by decide +kernel⟩, rfl⟩, by decide +kernel, by decide +kernel⟩
  | 1, hn => exact absurd rfl hn
  | 2, hn => exact absurd rfl hn
  | 3, hn => exact absurd rfl hn
  | 4, hn => exact absurd rfl hn
  | n + 5, hn => exact absurd rfl hn
theorem hk_L_arranged {F : Fx} {X : Sx} {sk : List (String × Nat × String)} (E : q_E F X sk) (NC : q_NC F) : ∀ (B : Bd), q_B F B (q_cn 13) cL_arranged 4 (some .int) false → B.c.exceptionTable.toList = tableOf [(0, 9, 12, 24)] → ∀ (i : Nat) (info : List Nat) (c0 : Int32) (pc0 : Nat) (ins : Instr) (len : Nat), cd_L_arranged[i]? = some (48, info, c0, pc0, ins, len) → q_HK B (q_cn 13) cL_arranged 4 info pc0 := by
  intro B C htab i info c0 pc0 ins len hcd
  have hf : cd_L_arranged.filter (fun e => e.1 == 48) = [(48, [169, 2, 0, 11, 0, 0, 0, 0, 1, 0, 0], 0, 4, .invokevirtual 77, 3)] := by decide +kernel
  have hm : ((48, info, c0, pc0, ins, len) : En) ∈ cd_L_arranged.filter (fun e => e.1 == 48) := List.mem_filter.mpr ⟨List.mem_of_getElem? hcd, rfl⟩
  rw [hf] at hm
  cases List.mem_singleton.mp hm
  intro n hn
  match n, hn with
  | 0, hn => exact absurd rfl hn
  | 1, hn => exact absurd rfl hn
  | 2, _ => exact ⟨[], ⟨0, 9, 12, 24⟩, [], 3, 1, htab, fun z hz => absurd hz List.not_mem_nil, by decide, by decide, q_word E C (q_lk_in in_5 141 rfl rfl), q_word2 E C (q_lk_mem in_5 157 rfl) rfl, by decide, Or.inr ⟨⟨3, rfl, by decide +kernel⟩, rfl⟩, by decide +kernel, by decide +kernel⟩
  | 3, hn => exact absurd rfl hn
  | 4, hn => exact absurd rfl hn
  | n + 5, hn => exact absurd rfl hn
theorem hk_L_falls {F : Fx} {X : Sx} {sk : List (String × Nat × String)} (E : q_E F X sk) (NC : q_NC F) : ∀ (B : Bd), q_B F B (q_cn 13) cL_falls 4 (some .int) false → B.c.exceptionTable.toList = tableOf [(0, 9, 12, 24)] → ∀ (i : Nat) (info : List Nat) (c0 : Int32) (pc0 : Nat) (ins : Instr) (len : Nat), cd_L_falls[i]? = some (48, info, c0, pc0, ins, len) → q_HK B (q_cn 13) cL_falls 4 info pc0 := by
  intro B C htab i info c0 pc0 ins len hcd
  have hf : cd_L_falls.filter (fun e => e.1 == 48) = [(48, [170, 2, 0, 11, 0, 0, 0, 0, 1, 0, 0], 0, 4, .invokevirtual 80, 3)] := by decide +kernel
  have hm : ((48, info, c0, pc0, ins, len) : En) ∈ cd_L_falls.filter (fun e => e.1 == 48) := List.mem_filter.mpr ⟨List.mem_of_getElem? hcd, rfl⟩
  rw [hf] at hm
  cases List.mem_singleton.mp hm
  intro n hn
  match n, hn with
  | 0, hn => exact absurd rfl hn
  | 1, hn => exact absurd rfl hn
  | 2, _ => exact ⟨[], ⟨0, 9, 12, 24⟩, [], 3, 1, htab, fun z hz => absurd hz List.not_mem_nil, by decide, by decide, q_word E C (q_lk_in in_5 141 rfl rfl), q_word2 E C (q_lk_mem in_5 157 rfl) rfl, by decide, Or.inr ⟨⟨3, rfl, by decide +kernel⟩, rfl⟩, by decide +kernel, by decide +kernel⟩
  | 3, hn => exact absurd rfl hn
  | 4, hn => exact absurd rfl hn
  | n + 5, hn => exact absurd rfl hn
theorem hk_L_war {F : Fx} {X : Sx} {sk : List (String × Nat × String)} (E : q_E F X sk) (NC : q_NC F) : ∀ (B : Bd), q_B F B (q_cn 13) cL_war 6 (some .int) false → B.c.exceptionTable.toList = tableOf [(0, 12, 15, 24), (0, 12, 19, 13)] → ∀ (i : Nat) (info : List Nat) (c0 : Int32) (pc0 : Nat) (ins : Instr) (len : Nat), cd_L_war[i]? = some (48, info, c0, pc0, ins, len) → q_HK B (q_cn 13) cL_war 6 info pc0 := by
  intro B C htab i info c0 pc0 ins len hcd
  have hf : cd_L_war.filter (fun e => e.1 == 48) = [(48, [174, 4, 0, 11, 0, 0, 2, 0, 1, 0, 0], 0, 7, .invokevirtual 83, 3)] := by decide +kernel
  have hm : ((48, info, c0, pc0, ins, len) : En) ∈ cd_L_war.filter (fun e => e.1 == 48) := List.mem_filter.mpr ⟨List.mem_of_getElem? hcd, rfl⟩
  rw [hf] at hm
  cases List.mem_singleton.mp hm
  intro n hn
  match n, hn with
  | 0, _ => exact ⟨[⟨0, 12, 15, 24⟩], ⟨0, 12, 19, 13⟩, [], 5, 2, htab, List.forall_mem_cons.mpr ⟨Or.inr ⟨by decide, q_exn 2, q_word E C (q_lk_in in_5 141 rfl rfl), va_Nc.moved C.2.2.2.2.2.2.2.1.alike (NC (0, 2) (by decide))⟩, fun z hz => absurd hz List.not_mem_nil⟩, by decide, by decide, q_word E C (q_lk_in in_4 36 rfl rfl), q_word2 E C (q_lk_mem in_4 219 rfl) rfl, by decide, Or.inl ⟨by decide +kernel, rfl⟩, by decide +kernel, by decide +kernel⟩
  | 1, hn => exact absurd rfl hn
  | 2, _ => exact ⟨[], ⟨0, 12, 15, 24⟩, [⟨0, 12, 19, 13⟩], 5, 2, htab, fun z hz => absurd hz List.not_mem_nil, by decide, by decide, q_word E C (q_lk_in in_5 141 rfl rfl), q_word2 E C (q_lk_mem in_5 157 rfl) rfl, by decide, Or.inl ⟨by decide +kernel, rfl⟩, by decide +kernel, by decide +kernel⟩
  | 3, hn => exact absurd rfl hn
  | 4, hn => exact absurd rfl hn
  | n + 5, hn => exact absurd rfl hn
theorem hk_L_ahead {F : Fx} {X : Sx} {sk : List (String × Nat × String)} (E : q_E F X sk) (NC : q_NC F) : ∀ (B : Bd), q_B F B (q_cn 13) cL_ahead 6 (some .int) false → B.c.exceptionTable.toList = tableOf [(0, 12, 15, 24), (0, 12, 19, 13), (0, 12, 23, 26)] → ∀ (i : Nat) (info : List Nat) (c0 : Int32) (pc0 : Nat) (ins : Instr) (len : Nat), cd_L_ahead[i]? = some (48, info, c0, pc0, ins, len) → q_HK B (q_cn 13) cL_ahead 6 info pc0 := by
  intro B C htab i info c0 pc0 ins len hcd
  have hf : cd_L_ahead.filter (fun e => e.1 == 48) = [(48, [175, 4, 0, 11, 0, 0, 2, 0, 1, 3, 0], 0, 7, .invokevirtual 86, 3)] := by decide +kernel
  have hm : ((48, info, c0, pc0, ins, len) : En) ∈ cd_L_ahead.filter (fun e => e.1 == 48) := List.mem_filter.mpr ⟨List.mem_of_getElem? hcd, rfl⟩
  rw [hf] at hm
  cases List.mem_singleton.mp hm
  intro n hn
  match n, hn with
  | 0, _ => exact ⟨[⟨0, 12, 15, 24⟩], ⟨0, 12, 19, 13⟩, [⟨0, 12, 23, 26⟩], 5, 2, htab, List.forall_mem_cons.mpr ⟨Or.inr ⟨by decide, q_exn 2, q_word E C (q_lk_in in_5 141 rfl rfl), va_Nc.moved C.2.2.2.2.2.2.2.1.alike (NC (0, 2) (by decide))⟩, fun z hz => absurd hz List.not_mem_nil⟩, by decide, by decide, q_word E C (q_lk_in in_4 36 rfl rfl), q_word2 E C (q_lk_mem in_4 219 rfl) rfl, by decide, Or.inl ⟨by decide +kernel, rfl⟩, by decide +kernel, by decide +kernel⟩
  | 1, hn => exact absurd rfl hn
  | 2, _ => exact ⟨[], ⟨0, 12, 15, 24⟩, [⟨0, 12, 19, 13⟩, ⟨0, 12, 23, 26⟩], 5, 2, htab, fun z hz => absurd hz List.not_mem_nil, by decide, by decide, q_word E C (q_lk_in in_5 141 rfl rfl), q_word2 E C (q_lk_mem in_5 157 rfl) rfl, by decide, Or.inl ⟨by decide +kernel, rfl⟩, by decide +kernel, by decide +kernel⟩
  | 3, _ => exact ⟨[⟨0, 12, 15, 24⟩, ⟨0, 12, 19, 13⟩], ⟨0, 12, 23, 26⟩, [], 5, 2, htab, List.forall_mem_cons.mpr ⟨Or.inr ⟨by decide, q_exn 2, q_word E C (q_lk_in in_5 141 rfl rfl), va_Nc.moved C.2.2.2.2.2.2.2.1.alike (NC (3, 2) (by decide))⟩, List.forall_mem_cons.mpr ⟨Or.inr ⟨by decide, q_exn 0, q_word E C (q_lk_in in_4 36 rfl rfl), va_Nc.moved C.2.2.2.2.2.2.2.1.alike (NC (3, 0) (by decide))⟩, fun z hz => absurd hz List.not_mem_nil⟩⟩, by decide, by decide, q_word E C (q_lk_in in_5 142 rfl rfl), q_word2 E C (q_lk_mem in_5 187 rfl) rfl, by decide, Or.inl ⟨by decide +kernel, rfl⟩, by decide +kernel, by decide +kernel⟩
  | 4, hn => exact absurd rfl hn
  | n + 5, hn => exact absurd rfl hn
theorem hk_L_spoils {F : Fx} {X : Sx} {sk : List (String × Nat × String)} (E : q_E F X sk) (NC : q_NC F) : ∀ (B : Bd), q_B F B (q_cn 13) cL_spoils 6 (some .int) false → B.c.exceptionTable.toList = tableOf [(0, 12, 15, 24), (0, 12, 19, 13)] → ∀ (i : Nat) (info : List Nat) (c0 : Int32) (pc0 : Nat) (ins : Instr) (len : Nat), cd_L_spoils[i]? = some (48, info, c0, pc0, ins, len) → q_HK B (q_cn 13) cL_spoils 6 info pc0 := by
  intro B C htab i info c0 pc0 ins len hcd
  have hf : cd_L_spoils.filter (fun e => e.1 == 48) = [(48, [176, 4, 0, 11, 0, 0, 2, 0, 1, 0, 0], 0, 7, .invokevirtual 89, 3)] := by decide +kernel
  have hm : ((48, info, c0, pc0, ins, len) : En) ∈ cd_L_spoils.filter (fun e => e.1 == 48) := List.mem_filter.mpr ⟨List.mem_of_getElem? hcd, rfl⟩
  rw [hf] at hm
  cases List.mem_singleton.mp hm
  intro n hn
  match n, hn with
  | 0, _ => exact ⟨[⟨0, 12, 15, 24⟩], ⟨0, 12, 19, 13⟩, [], 5, 2, htab, List.forall_mem_cons.mpr ⟨Or.inr ⟨by decide, q_exn 2, q_word E C (q_lk_in in_5 141 rfl rfl), va_Nc.moved C.2.2.2.2.2.2.2.1.alike (NC (0, 2) (by decide))⟩, fun z hz => absurd hz List.not_mem_nil⟩, by decide, by decide, q_word E C (q_lk_in in_4 36 rfl rfl), q_word2 E C (q_lk_mem in_4 219 rfl) rfl, by decide, Or.inl ⟨by decide +kernel, rfl⟩, by decide +kernel, by decide +kernel⟩
  | 1, hn => exact absurd rfl hn
  | 2, _ => exact ⟨[], ⟨0, 12, 15, 24⟩, [⟨0, 12, 19, 13⟩], 5, 2, htab, fun z hz => absurd hz List.not_mem_nil, by decide, by decide, q_word E C (q_lk_in in_5 141 rfl rfl), q_word2 E C (q_lk_mem in_5 157 rfl) rfl, by decide, Or.inl ⟨by decide +kernel, rfl⟩, by decide +kernel, by decide +kernel⟩
  | 3, hn => exact absurd rfl hn
  | 4, hn => exact absurd rfl hn
  | n + 5, hn => exact absurd rfl hn
theorem hk_L_ripe {F : Fx} {X : Sx} {sk : List (String × Nat × String)} (E : q_E F X sk) (NC : q_NC F) : ∀ (B : Bd), q_B F B (q_cn 13) cL_ripe 6 (some .int) false → B.c.exceptionTable.toList = tableOf [(0, 12, 15, 24)] → ∀ (i : Nat) (info : List Nat) (c0 : Int32) (pc0 : Nat) (ins : Instr) (len : Nat), cd_L_ripe[i]? = some (48, info, c0, pc0, ins, len) → q_HK B (q_cn 13) cL_ripe 6 info pc0 := by
  intro B C htab i info c0 pc0 ins len hcd
  have hf : cd_L_ripe.filter (fun e => e.1 == 48) = [(48, [177, 4, 0, 11, 0, 0, 0, 0, 1, 0, 0], 0, 7, .invokevirtual 92, 3)] := by decide +kernel
  have hm : ((48, info, c0, pc0, ins, len) : En) ∈ cd_L_ripe.filter (fun e => e.1 == 48) := List.mem_filter.mpr ⟨List.mem_of_getElem? hcd, rfl⟩
  rw [hf] at hm
  cases List.mem_singleton.mp hm
  intro n hn
  match n, hn with
  | 0, hn => exact absurd rfl hn
  | 1, hn => exact absurd rfl hn
  | 2, _ => exact ⟨[], ⟨0, 12, 15, 24⟩, [], 5, 2, htab, fun z hz => absurd hz List.not_mem_nil, by decide, by decide, q_word E C (q_lk_in in_5 141 rfl rfl), q_word2 E C (q_lk_mem in_5 157 rfl) rfl, by decide, Or.inl ⟨by decide +kernel, rfl⟩, by decide +kernel, by decide +kernel⟩
  | 3, hn => exact absurd rfl hn
  | 4, hn => exact absurd rfl hn
  | n + 5, hn => exact absurd rfl hn
theorem hk_L_goes {F : Fx} {X : Sx} {sk : List (String × Nat × String)} (E : q_E F X sk) (NC : q_NC F) : ∀ (B : Bd), q_B F B (q_cn 13) cL_goes 4 (some .int) false → B.c.exceptionTable.toList = tableOf [(0, 9, 12, 24)] → ∀ (i : Nat) (info : List Nat) (c0 : Int32) (pc0 : Nat) (ins : Instr) (len : Nat), cd_L_goes[i]? = some (48, info, c0, pc0, ins, len) → q_HK B (q_cn 13) cL_goes 4 info pc0 := by
  intro B C htab i info c0 pc0 ins len hcd
  have hf : cd_L_goes.filter (fun e => e.1 == 48) = [(48, [178, 2, 0, 11, 0, 0, 0, 0, 1, 0, 0], 0, 4, .invokevirtual 95, 3)] := by decide +kernel
  have hm : ((48, info, c0, pc0, ins, len) : En) ∈ cd_L_goes.filter (fun e => e.1 == 48) := List.mem_filter.mpr ⟨List.mem_of_getElem? hcd, rfl⟩
  rw [hf] at hm
  cases List.mem_singleton.mp hm
  intro n hn
  match n, hn with
  | 0, hn => exact absurd rfl hn
  | 1, hn => exact absurd rfl hn
  | 2, _ => exact ⟨[], ⟨0, 9, 12, 24⟩, [], 3, 1, htab, fun z hz => absurd hz List.not_mem_nil, by decide, by decide, q_word E C (q_lk_in in_5 141 rfl rfl), q_word2 E C (q_lk_mem in_5 157 rfl) rfl, by decide, Or.inr ⟨⟨3, rfl, by decide +kernel⟩, rfl⟩, by decide +kernel, by decide +kernel⟩
  | 3, hn => exact absurd rfl hn
  | 4, hn => exact absurd rfl hn
  | n + 5, hn => exact absurd rfl hn
theorem hk_L_whose {F : Fx} {X : Sx} {sk : List (String × Nat × String)} (E : q_E F X sk) (NC : q_NC F) : ∀ (B : Bd), q_B F B (q_cn 13) cL_whose 4 (some .int) false → B.c.exceptionTable.toList = tableOf [(0, 9, 12, 24)] → ∀ (i : Nat) (info : List Nat) (c0 : Int32) (pc0 : Nat) (ins : Instr) (len : Nat), cd_L_whose[i]? = some (48, info, c0, pc0, ins, len) → q_HK B (q_cn 13) cL_whose 4 info pc0 := by
  intro B C htab i info c0 pc0 ins len hcd
  have hf : cd_L_whose.filter (fun e => e.1 == 48) = [(48, [180, 2, 0, 11, 0, 0, 0, 0, 1, 0, 0], 0, 4, .invokevirtual 98, 3)] := by decide +kernel
  have hm : ((48, info, c0, pc0, ins, len) : En) ∈ cd_L_whose.filter (fun e => e.1 == 48) := List.mem_filter.mpr ⟨List.mem_of_getElem? hcd, rfl⟩
  rw [hf] at hm
  cases List.mem_singleton.mp hm
  intro n hn
  match n, hn with
  | 0, hn => exact absurd rfl hn
  | 1, hn => exact absurd rfl hn
  | 2, _ => exact ⟨[], ⟨0, 9, 12, 24⟩, [], 3, 1, htab, fun z hz => absurd hz List.not_mem_nil, by decide, by decide, q_word E C (q_lk_in in_5 141 rfl rfl), q_word2 E C (q_lk_mem in_5 157 rfl) rfl, by decide, Or.inr ⟨⟨3, rfl, by decide +kernel⟩, rfl⟩, by decide +kernel, by decide +kernel⟩
  | 3, hn => exact absurd rfl hn
  | 4, hn => exact absurd rfl hn
  | n + 5, hn => exact absurd rfl hn
theorem hk_L_ring {F : Fx} {X : Sx} {sk : List (String × Nat × String)} (E : q_E F X sk) (NC : q_NC F) : ∀ (B : Bd), q_B F B (q_cn 13) cL_ring 4 (some .int) false → B.c.exceptionTable.toList = tableOf [(0, 9, 12, 24)] → ∀ (i : Nat) (info : List Nat) (c0 : Int32) (pc0 : Nat) (ins : Instr) (len : Nat), cd_L_ring[i]? = some (48, info, c0, pc0, ins, len) → q_HK B (q_cn 13) cL_ring 4 info pc0 := by
  intro B C htab i info c0 pc0 ins len hcd
  have hf : cd_L_ring.filter (fun e => e.1 == 48) = [(48, [181, 2, 0, 11, 0, 0, 0, 0, 1, 0, 0], 0, 4, .invokevirtual 101, 3)] := by decide +kernel
  have hm : ((48, info, c0, pc0, ins, len) : En) ∈ cd_L_ring.filter (fun e => e.1 == 48) := List.mem_filter.mpr ⟨List.mem_of_getElem? hcd, rfl⟩
  rw [hf] at hm
  cases List.mem_singleton.mp hm
  intro n hn
  match n, hn with
  | 0, hn => exact absurd rfl hn
  | 1, hn => exact absurd rfl hn
  | 2, _ => exact ⟨[], ⟨0, 9, 12, 24⟩, [], 3, 1, htab, fun z hz => absurd hz List.not_mem_nil, by decide, by decide, q_word E C (q_lk_in in_5 141 rfl rfl), q_word2 E C (q_lk_mem in_5 157 rfl) rfl, by decide, Or.inr ⟨⟨3, rfl, by decide +kernel⟩, rfl⟩, by decide +kernel, by decide +kernel⟩
  | 3, hn => exact absurd rfl hn
  | 4, hn => exact absurd rfl hn
  | n + 5, hn => exact absurd rfl hn
theorem hk_L_asked {F : Fx} {X : Sx} {sk : List (String × Nat × String)} (E : q_E F X sk) (NC : q_NC F) : ∀ (B : Bd), q_B F B (q_cn 13) cL_asked 4 (some .int) false → B.c.exceptionTable.toList = tableOf [(0, 9, 12, 24)] → ∀ (i : Nat) (info : List Nat) (c0 : Int32) (pc0 : Nat) (ins : Instr) (len : Nat), cd_L_asked[i]? = some (48, info, c0, pc0, ins, len) → q_HK B (q_cn 13) cL_asked 4 info pc0 := by
  intro B C htab i info c0 pc0 ins len hcd
  have hf : cd_L_asked.filter (fun e => e.1 == 48) = [(48, [182, 2, 0, 11, 0, 0, 0, 0, 1, 0, 0], 0, 4, .invokevirtual 104, 3)] := by decide +kernel
  have hm : ((48, info, c0, pc0, ins, len) : En) ∈ cd_L_asked.filter (fun e => e.1 == 48) := List.mem_filter.mpr ⟨List.mem_of_getElem? hcd, rfl⟩
  rw [hf] at hm
  cases List.mem_singleton.mp hm
  intro n hn
  match n, hn with
  | 0, hn => exact absurd rfl hn
  | 1, hn => exact absurd rfl hn
  | 2, _ => exact ⟨[], ⟨0, 9, 12, 24⟩, [], 3, 1, htab, fun z hz => absurd hz List.not_mem_nil, by decide, by decide, q_word E C (q_lk_in in_5 141 rfl rfl), q_word2 E C (q_lk_mem in_5 157 rfl) rfl, by decide, Or.inr ⟨⟨3, rfl, by decide +kernel⟩, rfl⟩, by decide +kernel, by decide +kernel⟩
  | 3, hn => exact absurd rfl hn
  | 4, hn => exact absurd rfl hn
  | n + 5, hn => exact absurd rfl hn
theorem hk_L_led {F : Fx} {X : Sx} {sk : List (String × Nat × String)} (E : q_E F X sk) (NC : q_NC F) : ∀ (B : Bd), q_B F B (q_cn 13) cL_led 4 (some .int) false → B.c.exceptionTable.toList = tableOf [(0, 9, 12, 24)] → ∀ (i : Nat) (info : List Nat) (c0 : Int32) (pc0 : Nat) (ins : Instr) (len : Nat), cd_L_led[i]? = some (48, info, c0, pc0, ins, len) → q_HK B (q_cn 13) cL_led 4 info pc0 := by
  intro B C htab i info c0 pc0 ins len hcd
  have hf : cd_L_led.filter (fun e => e.1 == 48) = [(48, [183, 2, 0, 11, 0, 0, 0, 0, 1, 0, 0], 0, 4, .invokevirtual 107, 3)] := by decide +kernel
  have hm : ((48, info, c0, pc0, ins, len) : En) ∈ cd_L_led.filter (fun e => e.1 == 48) := List.mem_filter.mpr ⟨List.mem_of_getElem? hcd, rfl⟩
  rw [hf] at hm
  cases List.mem_singleton.mp hm
  intro n hn
  match n, hn with
  | 0, hn => exact absurd rfl hn
  | 1, hn => exact absurd rfl hn
  | 2, _ => exact ⟨[], ⟨0, 9, 12, 24⟩, [], 3, 1, htab, fun z hz => absurd hz List.not_mem_nil, by decide, by decide, q_word E C (q_lk_in in_5 141 rfl rfl), q_word2 E C (q_lk_mem in_5 157 rfl) rfl, by decide, Or.inr ⟨⟨3, rfl, by decide +kernel⟩, rfl⟩, by decide +kernel, by decide +kernel⟩
  | 3, hn => exact absurd rfl hn
  | 4, hn => exact absurd rfl hn
  | n + 5, hn => exact absurd rfl hn
theorem hk_L_trial {F : Fx} {X : Sx} {sk : List (String × Nat × String)} (E : q_E F X sk) (NC : q_NC F) : ∀ (B : Bd), q_B F B (q_cn 13) cL_trial 5 (some .int) false → B.c.exceptionTable.toList = tableOf [(0, 10, 13, 13)] → ∀ (i : Nat) (info : List Nat) (c0 : Int32) (pc0 : Nat) (ins : Instr) (len : Nat), cd_L_trial[i]? = some (48, info, c0, pc0, ins, len) → q_HK B (q_cn 13) cL_trial 5 info pc0 := by
  intro B C htab i info c0 pc0 ins len hcd
  have hf : cd_L_trial.filter (fun e => e.1 == 48) = [(48, [184, 3, 0, 11, 0, 0, 1, 0, 0, 0, 0], 0, 5, .invokevirtual 110, 3)] := by decide +kernel
  have hm : ((48, info, c0, pc0, ins, len) : En) ∈ cd_L_trial.filter (fun e => e.1 == 48) := List.mem_filter.mpr ⟨List.mem_of_getElem? hcd, rfl⟩
  rw [hf] at hm
  cases List.mem_singleton.mp hm
  intro n hn
  match n, hn with
  | 0, _ => exact ⟨[], ⟨0, 10, 13, 13⟩, [], 4, 2, htab, fun z hz => absurd hz List.not_mem_nil, by decide, by decide, q_word E C (q_lk_in in_4 36 rfl rfl), q_word2 E C (q_lk_mem in_4 219 rfl) rfl, by decide, Or.inl ⟨by decide +kernel, rfl⟩, by decide +kernel, by decide +kernel⟩
  | 1, hn => exact absurd rfl hn
  | 2, hn => exact absurd rfl hn
  | 3, hn => exact absurd rfl hn
  | 4, hn => exact absurd rfl hn
  | n + 5, hn => exact absurd rfl hn
theorem hk_L_span {F : Fx} {X : Sx} {sk : List (String × Nat × String)} (E : q_E F X sk) (NC : q_NC F) : ∀ (B : Bd), q_B F B (q_cn 13) cL_span 5 (some .int) false → B.c.exceptionTable.toList = tableOf [(0, 10, 13, 13)] → ∀ (i : Nat) (info : List Nat) (c0 : Int32) (pc0 : Nat) (ins : Instr) (len : Nat), cd_L_span[i]? = some (48, info, c0, pc0, ins, len) → q_HK B (q_cn 13) cL_span 5 info pc0 := by
  intro B C htab i info c0 pc0 ins len hcd
  have hf : cd_L_span.filter (fun e => e.1 == 48) = [(48, [185, 3, 0, 11, 0, 0, 1, 0, 0, 0, 0], 0, 5, .invokevirtual 114, 3)] := by decide +kernel
  have hm : ((48, info, c0, pc0, ins, len) : En) ∈ cd_L_span.filter (fun e => e.1 == 48) := List.mem_filter.mpr ⟨List.mem_of_getElem? hcd, rfl⟩
  rw [hf] at hm
  cases List.mem_singleton.mp hm
  intro n hn
  match n, hn with
  | 0, _ => exact ⟨[], ⟨0, 10, 13, 13⟩, [], 4, 2, htab, fun z hz => absurd hz List.not_mem_nil, by decide, by decide, q_word E C (q_lk_in in_4 36 rfl rfl), q_word2 E C (q_lk_mem in_4 219 rfl) rfl, by decide, Or.inl ⟨by decide +kernel, rfl⟩, by decide +kernel, by decide +kernel⟩
  | 1, hn => exact absurd rfl hn
  | 2, hn => exact absurd rfl hn
  | 3, hn => exact absurd rfl hn
  | 4, hn => exact absurd rfl hn
  | n + 5, hn => exact absurd rfl hn
theorem hk_L_log {F : Fx} {X : Sx} {sk : List (String × Nat × String)} (E : q_E F X sk) (NC : q_NC F) : ∀ (B : Bd), q_B F B (q_cn 13) cL_log 5 (some .int) false → B.c.exceptionTable.toList = tableOf [(0, 10, 13, 26)] → ∀ (i : Nat) (info : List Nat) (c0 : Int32) (pc0 : Nat) (ins : Instr) (len : Nat), cd_L_log[i]? = some (48, info, c0, pc0, ins, len) → q_HK B (q_cn 13) cL_log 5 info pc0 := by
  intro B C htab i info c0 pc0 ins len hcd
  have hf : cd_L_log.filter (fun e => e.1 == 48) = [(48, [186, 3, 0, 11, 0, 0, 0, 0, 0, 1, 0], 0, 5, .invokevirtual 117, 3)] := by decide +kernel
  have hm : ((48, info, c0, pc0, ins, len) : En) ∈ cd_L_log.filter (fun e => e.1 == 48) := List.mem_filter.mpr ⟨List.mem_of_getElem? hcd, rfl⟩
  rw [hf] at hm
  cases List.mem_singleton.mp hm
  intro n hn
  match n, hn with
  | 0, hn => exact absurd rfl hn
  | 1, hn => exact absurd rfl hn
  | 2, hn => exact absurd rfl hn
  | 3, _ => exact ⟨[], ⟨0, 10, 13, 26⟩, [], 4, 2, htab, fun z hz => absurd hz List.not_mem_nil, by decide, by decide, q_word E C (q_lk_in in_5 142 rfl rfl), q_word2 E C (q_lk_mem in_5 187 rfl) rfl, by decide, Or.inl ⟨by decide +kernel, rfl⟩, by decide +kernel, by decide +kernel⟩
  | 4, hn => exact absurd rfl hn
  | n + 5, hn => exact absurd rfl hn
/-- a method and its code -/
def q_pf1 (F : Fx) (r9 : Mr) (m : Nat × List En) : Prop := m.1 = r9.2.2.1 ∧ ∃ oi : Nat, q_cn oi = r9.1.cls ∧ r9.2.2.2.2.2.2 + (if r9.2.2.2.2.1 = 1 ∨ r9.2.2.2.2.1 = 4 then 0 else 1) ≤ r9.2.2.1 ∧ q_pc m.2 0 = 0 ∧
  (∀ (i : Nat) (e : En), m.2[i]? = some e → q_ok q_tb q_mt oi r9.2.1 r9.2.2.2.1 (r9.2.2.2.2.1 == 2) m.2 i e = true) ∧
  (if r9.2.2.2.2.1 = 4 then (∀ e ∈ m.2, e.1 ≠ 33 ∧ e.1 ≠ 35 ∧ e.1 ≠ 51) ∧ r9.2.2.2.1 = some .int ∧ ∀ (B : Bd), q_B F B (q_cn oi) r9.2.1 r9.2.2.1 r9.2.2.2.1 (r9.2.2.2.2.1 == 2) → B.c.exceptionTable.toList = tableOf r9.2.2.2.2.2.1 → ∀ (i : Nat) (info : List Nat) (c0 : Int32) (pc0 : Nat) (ins : Instr) (len : Nat), m.2[i]? = some (48, info, c0, pc0, ins, len) → q_HK B (q_cn oi) r9.2.1 r9.2.2.1 info pc0
   else ∀ e ∈ m.2, e.1 ≠ 48)
theorem q_zipAll {α β : Type} {f : α → β → Prop} : ∀ (l : List α) (p : List β), (∀ x ∈ l.zip p, f x.1 x.2) → l.length = p.length → ∀ (i : Nat) (a : α), l[i]? = some a → ∃ b, p[i]? = some b ∧ f a b
  | [], _, _, _, i, a, h => by simp at h
  | x :: l, [], _, h, _, _, _ => by cases h
  | x :: l, y :: p, h, hl, i, a, ha => by
    cases i with
    | zero =>
      simp at ha
      subst ha
      exact ⟨y, rfl, h (x, y) (by simp)⟩
    | succ i =>
      have := q_zipAll l p (fun z hz => h z (by rw [List.zip_cons_cons]; exact List.mem_cons_of_mem _ hz)) (by simpa using hl) i a (by simpa using ha)
      simpa using this
theorem q_appAll {α β : Type} {f : α → β → Prop} {l l2 : List α} {p p2 : List β} (hl : l.length = p.length) (h1 : ∀ (i : Nat) (a : α), l[i]? = some a → ∃ b, p[i]? = some b ∧ f a b) (h2 : ∀ (i : Nat) (a : α), l2[i]? = some a → ∃ b, p2[i]? = some b ∧ f a b) : ∀ (i : Nat) (a : α), (l ++ l2)[i]? = some a → ∃ b, (p ++ p2)[i]? = some b ∧ f a b := by
  intro i a ha
  by_cases hi : i < l.length
  · rw [List.getElem?_append_left hi] at ha
    obtain ⟨b, hb, hf⟩ := h1 i a ha
    exact ⟨b, by rw [List.getElem?_append_left (by omega)]; exact hb, hf⟩
  · rw [List.getElem?_append_right (by omega)] at ha
    obtain ⟨b, hb, hf⟩ := h2 _ a ha
    exact ⟨b, by rw [List.getElem?_append_right (by omega), ← hl]; exact hb, hf⟩
theorem pf_X0_init {F : Fx} {X : Sx} {sk : List (String × Nat × String)} (E : q_E F X sk) (NC : q_NC F) : q_pf1 F (yX0_init, cX0_init, 4, none, 2, [], 3) (4, cd_X0_init) := ⟨rfl, 0, rfl, by decide, rfl, q_ok_of rfl ok_X0_init, (by decide +kernel)⟩
theorem pf_X0_readText {F : Fx} {X : Sx} {sk : List (String × Nat × String)} (E : q_E F X sk) (NC : q_NC F) : q_pf1 F (yX0_readText, cX0_readText, 2, (some .boolean), 0, [], 0) (2, cd_X0_readText) := ⟨rfl, 0, rfl, by decide, rfl, q_ok_of rfl ok_X0_readText, (by decide +kernel)⟩
theorem pf_X0_readLine {F : Fx} {X : Sx} {sk : List (String × Nat × String)} (E : q_E F X sk) (NC : q_NC F) : q_pf1 F (yX0_readLine, cX0_readLine, 1, (some .boolean), 0, [], 0) (1, cd_X0_readLine) := ⟨rfl, 0, rfl, by decide, rfl, q_ok_of rfl ok_X0_readLine, (by decide +kernel)⟩
theorem pf_X0_readJar {F : Fx} {X : Sx} {sk : List (String × Nat × String)} (E : q_E F X sk) (NC : q_NC F) : q_pf1 F (yX0_readJar, cX0_readJar, 3, (some .boolean), 0, [], 0) (3, cd_X0_readJar) := ⟨rfl, 0, rfl, by decide, rfl, q_ok_of rfl ok_X0_readJar, (by decide +kernel)⟩
theorem pf_X0_takeNumber {F : Fx} {X : Sx} {sk : List (String × Nat × String)} (E : q_E F X sk) (NC : q_NC F) : q_pf1 F (yX0_takeNumber, cX0_takeNumber, 3, (some .boolean), 0, [], 2) (3, cd_X0_takeNumber) := ⟨rfl, 0, rfl, by decide, rfl, q_ok_of rfl ok_X0_takeNumber, (by decide +kernel)⟩
theorem pf_X0_takeFreePlace {F : Fx} {X : Sx} {sk : List (String × Nat × String)} (E : q_E F X sk) (NC : q_NC F) : q_pf1 F (yX0_takeFreePlace, cX0_takeFreePlace, 2, (some .boolean), 0, [], 1) (2, cd_X0_takeFreePlace) := ⟨rfl, 0, rfl, by decide, rfl, q_ok_of rfl ok_X0_takeFreePlace, (by decide +kernel)⟩
theorem pf_X0_takeViews {F : Fx} {X : Sx} {sk : List (String × Nat × String)} (E : q_E F X sk) (NC : q_NC F) : q_pf1 F (yX0_takeViews, cX0_takeViews, 3, (some .boolean), 0, [], 1) (3, cd_X0_takeViews) := ⟨rfl, 0, rfl, by decide, rfl, q_ok_of rfl ok_X0_takeViews, (by decide +kernel)⟩
theorem pf_X0_readNeed {F : Fx} {X : Sx} {sk : List (String × Nat × String)} (E : q_E F X sk) (NC : q_NC F) : q_pf1 F (yX0_readNeed, cX0_readNeed, 2, (some .boolean), 0, [], 0) (2, cd_X0_readNeed) := ⟨rfl, 0, rfl, by decide, rfl, q_ok_of rfl ok_X0_readNeed, (by decide +kernel)⟩
theorem pf_X0_readLight {F : Fx} {X : Sx} {sk : List (String × Nat × String)} (E : q_E F X sk) (NC : q_NC F) : q_pf1 F (yX0_readLight, cX0_readLight, 2, (some .boolean), 0, [], 0) (2, cd_X0_readLight) := ⟨rfl, 0, rfl, by decide, rfl, q_ok_of rfl ok_X0_readLight, (by decide +kernel)⟩
theorem pf_X0_readQuota {F : Fx} {X : Sx} {sk : List (String × Nat × String)} (E : q_E F X sk) (NC : q_NC F) : q_pf1 F (yX0_readQuota, cX0_readQuota, 2, (some .boolean), 0, [], 0) (2, cd_X0_readQuota) := ⟨rfl, 0, rfl, by decide, rfl, q_ok_of rfl ok_X0_readQuota, (by decide +kernel)⟩
theorem pf_X0_readPeel {F : Fx} {X : Sx} {sk : List (String × Nat × String)} (E : q_E F X sk) (NC : q_NC F) : q_pf1 F (yX0_readPeel, cX0_readPeel, 2, (some .boolean), 0, [], 0) (2, cd_X0_readPeel) := ⟨rfl, 0, rfl, by decide, rfl, q_ok_of rfl ok_X0_readPeel, (by decide +kernel)⟩
theorem pf_X0_readWasps {F : Fx} {X : Sx} {sk : List (String × Nat × String)} (E : q_E F X sk) (NC : q_NC F) : q_pf1 F (yX0_readWasps, cX0_readWasps, 2, (some .boolean), 0, [], 0) (2, cd_X0_readWasps) := ⟨rfl, 0, rfl, by decide, rfl, q_ok_of rfl ok_X0_readWasps, (by decide +kernel)⟩
theorem pf_X1_init {F : Fx} {X : Sx} {sk : List (String × Nat × String)} (E : q_E F X sk) (NC : q_NC F) : q_pf1 F (yX1_init, cX1_init, 4, none, 2, [], 3) (4, cd_X1_init) := ⟨rfl, 1, rfl, by decide, rfl, q_ok_of rfl ok_X1_init, (by decide +kernel)⟩
theorem pf_X1_adviceOf {F : Fx} {X : Sx} {sk : List (String × Nat × String)} (E : q_E F X sk) (NC : q_NC F) : q_pf1 F (yX1_adviceOf, cX1_adviceOf, 3, (some .int), 0, [], 2) (3, cd_X1_adviceOf) := ⟨rfl, 1, rfl, by decide, rfl, q_ok_of rfl ok_X1_adviceOf, (by decide +kernel)⟩
theorem pf_X1_hear {F : Fx} {X : Sx} {sk : List (String × Nat × String)} (E : q_E F X sk) (NC : q_NC F) : q_pf1 F (yX1_hear, cX1_hear, 3, none, 0, [], 1) (3, cd_X1_hear) := ⟨rfl, 1, rfl, by decide, rfl, q_ok_of rfl ok_X1_hear, (by decide +kernel)⟩
theorem pf_X1_hearAll {F : Fx} {X : Sx} {sk : List (String × Nat × String)} (E : q_E F X sk) (NC : q_NC F) : q_pf1 F (yX1_hearAll, cX1_hearAll, 2, none, 0, [], 0) (2, cd_X1_hearAll) := ⟨rfl, 1, rfl, by decide, rfl, q_ok_of rfl ok_X1_hearAll, (by decide +kernel)⟩
theorem pf_X1_heard {F : Fx} {X : Sx} {sk : List (String × Nat × String)} (E : q_E F X sk) (NC : q_NC F) : q_pf1 F (yX1_heard, cX1_heard, 3, (some .int), 0, [], 2) (3, cd_X1_heard) := ⟨rfl, 1, rfl, by decide, rfl, q_ok_of rfl ok_X1_heard, (by decide +kernel)⟩
theorem pf_X1_isIn {F : Fx} {X : Sx} {sk : List (String × Nat × String)} (E : q_E F X sk) (NC : q_NC F) : q_pf1 F (yX1_isIn, cX1_isIn, 2, (some .boolean), 1, [], 2) (2, cd_X1_isIn) := ⟨rfl, 1, rfl, by decide, rfl, q_ok_of rfl ok_X1_isIn, (by decide +kernel)⟩
theorem pf_X1_mixed {F : Fx} {X : Sx} {sk : List (String × Nat × String)} (E : q_E F X sk) (NC : q_NC F) : q_pf1 F (yX1_mixed, cX1_mixed, 2, (some .int), 1, [], 2) (2, cd_X1_mixed) := ⟨rfl, 1, rfl, by decide, rfl, q_ok_of rfl ok_X1_mixed, (by decide +kernel)⟩
theorem pf_X1_mixtureOf {F : Fx} {X : Sx} {sk : List (String × Nat × String)} (E : q_E F X sk) (NC : q_NC F) : q_pf1 F (yX1_mixtureOf, cX1_mixtureOf, 4, (some .int), 0, [], 3) (4, cd_X1_mixtureOf) := ⟨rfl, 1, rfl, by decide, rfl, q_ok_of rfl ok_X1_mixtureOf, (by decide +kernel)⟩
theorem pf_X1_bestMixOf {F : Fx} {X : Sx} {sk : List (String × Nat × String)} (E : q_E F X sk) (NC : q_NC F) : q_pf1 F (yX1_bestMixOf, cX1_bestMixOf, 9, (some .int), 0, [], 2) (9, cd_X1_bestMixOf) := ⟨rfl, 1, rfl, by decide, rfl, q_ok_of rfl ok_X1_bestMixOf, (by decide +kernel)⟩
theorem pf_X1_clashesWith {F : Fx} {X : Sx} {sk : List (String × Nat × String)} (E : q_E F X sk) (NC : q_NC F) : q_pf1 F (yX1_clashesWith, cX1_clashesWith, 2, (some .int), 0, [], 1) (2, cd_X1_clashesWith) := ⟨rfl, 1, rfl, by decide, rfl, q_ok_of rfl ok_X1_clashesWith, (by decide +kernel)⟩
theorem pf_X1_heardClashes {F : Fx} {X : Sx} {sk : List (String × Nat × String)} (E : q_E F X sk) (NC : q_NC F) : q_pf1 F (yX1_heardClashes, cX1_heardClashes, 4, (some .int), 0, [], 1) (4, cd_X1_heardClashes) := ⟨rfl, 1, rfl, by decide, rfl, q_ok_of rfl ok_X1_heardClashes, (by decide +kernel)⟩
theorem pf_X1_doClash {F : Fx} {X : Sx} {sk : List (String × Nat × String)} (E : q_E F X sk) (NC : q_NC F) : q_pf1 F (yX1_doClash, cX1_doClash, 4, (some .boolean), 0, [], 2) (4, cd_X1_doClash) := ⟨rfl, 1, rfl, by decide, rfl, q_ok_of rfl ok_X1_doClash, (by decide +kernel)⟩
theorem pf_X1_alikeTo {F : Fx} {X : Sx} {sk : List (String × Nat × String)} (E : q_E F X sk) (NC : q_NC F) : q_pf1 F (yX1_alikeTo, cX1_alikeTo, 4, (some .int), 0, [], 1) (4, cd_X1_alikeTo) := ⟨rfl, 1, rfl, by decide, rfl, q_ok_of rfl ok_X1_alikeTo, (by decide +kernel)⟩
theorem pf_X1_areAlike {F : Fx} {X : Sx} {sk : List (String × Nat × String)} (E : q_E F X sk) (NC : q_NC F) : q_pf1 F (yX1_areAlike, cX1_areAlike, 4, (some .boolean), 0, [], 2) (4, cd_X1_areAlike) := ⟨rfl, 1, rfl, by decide, rfl, q_ok_of rfl ok_X1_areAlike, (by decide +kernel)⟩
theorem pf_X1_largestCoalition {F : Fx} {X : Sx} {sk : List (String × Nat × String)} (E : q_E F X sk) (NC : q_NC F) : q_pf1 F (yX1_largestCoalition, cX1_largestCoalition, 6, (some .int), 0, [], 0) (6, cd_X1_largestCoalition) := ⟨rfl, 1, rfl, by decide, rfl, q_ok_of rfl ok_X1_largestCoalition, (by decide +kernel)⟩
theorem pf_X1_isPeaceful {F : Fx} {X : Sx} {sk : List (String × Nat × String)} (E : q_E F X sk) (NC : q_NC F) : q_pf1 F (yX1_isPeaceful, cX1_isPeaceful, 3, (some .boolean), 0, [], 1) (3, cd_X1_isPeaceful) := ⟨rfl, 1, rfl, by decide, rfl, q_ok_of rfl ok_X1_isPeaceful, (by decide +kernel)⟩
theorem pf_X1_agreedBy {F : Fx} {X : Sx} {sk : List (String × Nat × String)} (E : q_E F X sk) (NC : q_NC F) : q_pf1 F (yX1_agreedBy, cX1_agreedBy, 4, (some .int), 0, [], 1) (4, cd_X1_agreedBy) := ⟨rfl, 1, rfl, by decide, rfl, q_ok_of rfl ok_X1_agreedBy, (by decide +kernel)⟩
theorem pf_X1_areAtOne {F : Fx} {X : Sx} {sk : List (String × Nat × String)} (E : q_E F X sk) (NC : q_NC F) : q_pf1 F (yX1_areAtOne, cX1_areAtOne, 5, (some .boolean), 0, [], 2) (5, cd_X1_areAtOne) := ⟨rfl, 1, rfl, by decide, rfl, q_ok_of rfl ok_X1_areAtOne, (by decide +kernel)⟩
theorem pf_X1_fewestThatCover {F : Fx} {X : Sx} {sk : List (String × Nat × String)} (E : q_E F X sk) (NC : q_NC F) : q_pf1 F (yX1_fewestThatCover, cX1_fewestThatCover, 7, (some .int), 0, [], 1) (7, cd_X1_fewestThatCover) := ⟨rfl, 1, rfl, by decide, rfl, q_ok_of rfl ok_X1_fewestThatCover, (by decide +kernel)⟩
theorem pf_X1_doCover {F : Fx} {X : Sx} {sk : List (String × Nat × String)} (E : q_E F X sk) (NC : q_NC F) : q_pf1 F (yX1_doCover, cX1_doCover, 4, (some .boolean), 0, [], 2) (4, cd_X1_doCover) := ⟨rfl, 1, rfl, by decide, rfl, q_ok_of rfl ok_X1_doCover, (by decide +kernel)⟩
theorem pf_X1_greatestOf {F : Fx} {X : Sx} {sk : List (String × Nat × String)} (E : q_E F X sk) (NC : q_NC F) : q_pf1 F (yX1_greatestOf, cX1_greatestOf, 5, (some .int), 0, [], 2) (5, cd_X1_greatestOf) := ⟨rfl, 1, rfl, by decide, rfl, q_ok_of rfl ok_X1_greatestOf, (by decide +kernel)⟩
theorem pf_X1_thatTasteSo {F : Fx} {X : Sx} {sk : List (String × Nat × String)} (E : q_E F X sk) (NC : q_NC F) : q_pf1 F (yX1_thatTasteSo, cX1_thatTasteSo, 5, (some .int), 0, [], 2) (5, cd_X1_thatTasteSo) := ⟨rfl, 1, rfl, by decide, rfl, q_ok_of rfl ok_X1_thatTasteSo, (by decide +kernel)⟩
theorem pf_X1_othersOnTape {F : Fx} {X : Sx} {sk : List (String × Nat × String)} (E : q_E F X sk) (NC : q_NC F) : q_pf1 F (yX1_othersOnTape, cX1_othersOnTape, 6, (some .int), 0, [], 2) (6, cd_X1_othersOnTape) := ⟨rfl, 1, rfl, by decide, rfl, q_ok_of rfl ok_X1_othersOnTape, (by decide +kernel)⟩
theorem pf_X1_nextTasteAmong {F : Fx} {X : Sx} {sk : List (String × Nat × String)} (E : q_E F X sk) (NC : q_NC F) : q_pf1 F (yX1_nextTasteAmong, cX1_nextTasteAmong, 6, (some .int), 0, [], 1) (6, cd_X1_nextTasteAmong) := ⟨rfl, 1, rfl, by decide, rfl, q_ok_of rfl ok_X1_nextTasteAmong, (by decide +kernel)⟩
theorem pf_X1_mostAtOne {F : Fx} {X : Sx} {sk : List (String × Nat × String)} (E : q_E F X sk) (NC : q_NC F) : q_pf1 F (yX1_mostAtOne, cX1_mostAtOne, 7, (some .int), 0, [], 2) (7, cd_X1_mostAtOne) := ⟨rfl, 1, rfl, by decide, rfl, q_ok_of rfl ok_X1_mostAtOne, (by decide +kernel)⟩
theorem pf_X1_restsOfWar {F : Fx} {X : Sx} {sk : List (String × Nat × String)} (E : q_E F X sk) (NC : q_NC F) : q_pf1 F (yX1_restsOfWar, cX1_restsOfWar, 11, (some .int), 0, [], 3) (11, cd_X1_restsOfWar) := ⟨rfl, 1, rfl, by decide, rfl, q_ok_of rfl ok_X1_restsOfWar, (by decide +kernel)⟩
theorem pf_X1_isContent {F : Fx} {X : Sx} {sk : List (String × Nat × String)} (E : q_E F X sk) (NC : q_NC F) : q_pf1 F (yX1_isContent, cX1_isContent, 3, (some .boolean), 1, [], 3) (3, cd_X1_isContent) := ⟨rfl, 1, rfl, by decide, rfl, q_ok_of rfl ok_X1_isContent, (by decide +kernel)⟩
theorem pf_X1_gain {F : Fx} {X : Sx} {sk : List (String × Nat × String)} (E : q_E F X sk) (NC : q_NC F) : q_pf1 F (yX1_gain, cX1_gain, 3, (some .int), 1, [], 3) (3, cd_X1_gain) := ⟨rfl, 1, rfl, by decide, rfl, q_ok_of rfl ok_X1_gain, (by decide +kernel)⟩
theorem pf_X1_isWinning {F : Fx} {X : Sx} {sk : List (String × Nat × String)} (E : q_E F X sk) (NC : q_NC F) : q_pf1 F (yX1_isWinning, cX1_isWinning, 2, (some .boolean), 0, [], 1) (2, cd_X1_isWinning) := ⟨rfl, 1, rfl, by decide, rfl, q_ok_of rfl ok_X1_isWinning, (by decide +kernel)⟩
theorem pf_X1_powerOf {F : Fx} {X : Sx} {sk : List (String × Nat × String)} (E : q_E F X sk) (NC : q_NC F) : q_pf1 F (yX1_powerOf, cX1_powerOf, 5, (some .int), 0, [], 1) (5, cd_X1_powerOf) := ⟨rfl, 1, rfl, by decide, rfl, q_ok_of rfl ok_X1_powerOf, (by decide +kernel)⟩
theorem pf_X1_countSumsWithout {F : Fx} {X : Sx} {sk : List (String × Nat × String)} (E : q_E F X sk) (NC : q_NC F) : q_pf1 F (yX1_countSumsWithout, cX1_countSumsWithout, 5, none, 0, [], 1) (5, cd_X1_countSumsWithout) := ⟨rfl, 1, rfl, by decide, rfl, q_ok_of rfl ok_X1_countSumsWithout, (by decide +kernel)⟩
theorem pf_X1_powerless {F : Fx} {X : Sx} {sk : List (String × Nat × String)} (E : q_E F X sk) (NC : q_NC F) : q_pf1 F (yX1_powerless, cX1_powerless, 3, (some .int), 0, [], 0) (3, cd_X1_powerless) := ⟨rfl, 1, rfl, by decide, rfl, q_ok_of rfl ok_X1_powerless, (by decide +kernel)⟩
theorem pf_X1_fewestWinning {F : Fx} {X : Sx} {sk : List (String × Nat × String)} (E : q_E F X sk) (NC : q_NC F) : q_pf1 F (yX1_fewestWinning, cX1_fewestWinning, 6, (some .int), 0, [], 0) (6, cd_X1_fewestWinning) := ⟨rfl, 1, rfl, by decide, rfl, q_ok_of rfl ok_X1_fewestWinning, (by decide +kernel)⟩
theorem pf_X1_cheapestWinning {F : Fx} {X : Sx} {sk : List (String × Nat × String)} (E : q_E F X sk) (NC : q_NC F) : q_pf1 F (yX1_cheapestWinning, cX1_cheapestWinning, 6, (some .int), 0, [], 0) (6, cd_X1_cheapestWinning) := ⟨rfl, 1, rfl, by decide, rfl, q_ok_of rfl ok_X1_cheapestWinning, (by decide +kernel)⟩
theorem pf_X2_init {F : Fx} {X : Sx} {sk : List (String × Nat × String)} (E : q_E F X sk) (NC : q_NC F) : q_pf1 F (yX2_init, cX2_init, 5, none, 2, [], 4) (5, cd_X2_init) := ⟨rfl, 2, rfl, by decide, rfl, q_ok_of rfl ok_X2_init, (by decide +kernel)⟩
theorem pf_X2_goOn {F : Fx} {X : Sx} {sk : List (String × Nat × String)} (E : q_E F X sk) (NC : q_NC F) : q_pf1 F (yX2_goOn, cX2_goOn, 3, none, 0, [], 1) (3, cd_X2_goOn) := ⟨rfl, 2, rfl, by decide, rfl, q_ok_of rfl ok_X2_goOn, (by decide +kernel)⟩
theorem pf_X2_pop {F : Fx} {X : Sx} {sk : List (String × Nat × String)} (E : q_E F X sk) (NC : q_NC F) : q_pf1 F (yX2_pop, cX2_pop, 4, none, 0, [], 2) (4, cd_X2_pop) := ⟨rfl, 2, rfl, by decide, rfl, q_ok_of rfl ok_X2_pop, (by decide +kernel)⟩
theorem pf_X2_passYears {F : Fx} {X : Sx} {sk : List (String × Nat × String)} (E : q_E F X sk) (NC : q_NC F) : q_pf1 F (yX2_passYears, cX2_passYears, 4, none, 0, [], 2) (4, cd_X2_passYears) := ⟨rfl, 2, rfl, by decide, rfl, q_ok_of rfl ok_X2_passYears, (by decide +kernel)⟩
theorem pf_X2_peelLabel {F : Fx} {X : Sx} {sk : List (String × Nat × String)} (E : q_E F X sk) (NC : q_NC F) : q_pf1 F (yX2_peelLabel, cX2_peelLabel, 3, none, 0, [], 1) (3, cd_X2_peelLabel) := ⟨rfl, 2, rfl, by decide, rfl, q_ok_of rfl ok_X2_peelLabel, (by decide +kernel)⟩
theorem pf_X2_feedWasps {F : Fx} {X : Sx} {sk : List (String × Nat × String)} (E : q_E F X sk) (NC : q_NC F) : q_pf1 F (yX2_feedWasps, cX2_feedWasps, 4, none, 0, [], 1) (4, cd_X2_feedWasps) := ⟨rfl, 2, rfl, by decide, rfl, q_ok_of rfl ok_X2_feedWasps, (by decide +kernel)⟩
theorem pf_X2_trySeed {F : Fx} {X : Sx} {sk : List (String × Nat × String)} (E : q_E F X sk) (NC : q_NC F) : q_pf1 F (yX2_trySeed, cX2_trySeed, 3, (some .int), 0, [], 2) (3, cd_X2_trySeed) := ⟨rfl, 2, rfl, by decide, rfl, q_ok_of rfl ok_X2_trySeed, (by decide +kernel)⟩
theorem pf_X2_spanOfTrials {F : Fx} {X : Sx} {sk : List (String × Nat × String)} (E : q_E F X sk) (NC : q_NC F) : q_pf1 F (yX2_spanOfTrials, cX2_spanOfTrials, 6, (some .int), 0, [], 2) (6, cd_X2_spanOfTrials) := ⟨rfl, 2, rfl, by decide, rfl, q_ok_of rfl ok_X2_spanOfTrials, (by decide +kernel)⟩
theorem pf_X2_lookAhead {F : Fx} {X : Sx} {sk : List (String × Nat × String)} (E : q_E F X sk) (NC : q_NC F) : q_pf1 F (yX2_lookAhead, cX2_lookAhead, 3, none, 0, [], 1) (3, cd_X2_lookAhead) := ⟨rfl, 2, rfl, by decide, rfl, q_ok_of rfl ok_X2_lookAhead, (by decide +kernel)⟩
theorem pf_X2_lookOn {F : Fx} {X : Sx} {sk : List (String × Nat × String)} (E : q_E F X sk) (NC : q_NC F) : q_pf1 F (yX2_lookOn, cX2_lookOn, 1, none, 0, [], 0) (1, cd_X2_lookOn) := ⟨rfl, 2, rfl, by decide, rfl, q_ok_of rfl ok_X2_lookOn, (by decide +kernel)⟩
theorem pf_X2_adviceThen {F : Fx} {X : Sx} {sk : List (String × Nat × String)} (E : q_E F X sk) (NC : q_NC F) : q_pf1 F (yX2_adviceThen, cX2_adviceThen, 3, (some .int), 0, [], 2) (3, cd_X2_adviceThen) := ⟨rfl, 2, rfl, by decide, rfl, q_ok_of rfl ok_X2_adviceThen, (by decide +kernel)⟩
theorem pf_X2_firstBelow {F : Fx} {X : Sx} {sk : List (String × Nat × String)} (E : q_E F X sk) (NC : q_NC F) : q_pf1 F (yX2_firstBelow, cX2_firstBelow, 5, (some .int), 0, [], 3) (5, cd_X2_firstBelow) := ⟨rfl, 2, rfl, by decide, rfl, q_ok_of rfl ok_X2_firstBelow, (by decide +kernel)⟩
theorem pf_X2_ripest {F : Fx} {X : Sx} {sk : List (String × Nat × String)} (E : q_E F X sk) (NC : q_NC F) : q_pf1 F (yX2_ripest, cX2_ripest, 8, (some .int), 0, [], 3) (8, cd_X2_ripest) := ⟨rfl, 2, rfl, by decide, rfl, q_ok_of rfl ok_X2_ripest, (by decide +kernel)⟩
theorem pf_X2_firstPopped {F : Fx} {X : Sx} {sk : List (String × Nat × String)} (E : q_E F X sk) (NC : q_NC F) : q_pf1 F (yX2_firstPopped, cX2_firstPopped, 3, (some .int), 0, [], 1) (3, cd_X2_firstPopped) := ⟨rfl, 2, rfl, by decide, rfl, q_ok_of rfl ok_X2_firstPopped, (by decide +kernel)⟩
theorem pf_X2_answersTo {F : Fx} {X : Sx} {sk : List (String × Nat × String)} (E : q_E F X sk) (NC : q_NC F) : q_pf1 F (yX2_answersTo, cX2_answersTo, 2, (some .int), 0, [], 1) (2, cd_X2_answersTo) := ⟨rfl, 2, rfl, by decide, rfl, q_ok_of rfl ok_X2_answersTo, (by decide +kernel)⟩
theorem pf_X2_firstUnmet {F : Fx} {X : Sx} {sk : List (String × Nat × String)} (E : q_E F X sk) (NC : q_NC F) : q_pf1 F (yX2_firstUnmet, cX2_firstUnmet, 2, (some .int), 0, [], 0) (2, cd_X2_firstUnmet) := ⟨rfl, 2, rfl, by decide, rfl, q_ok_of rfl ok_X2_firstUnmet, (by decide +kernel)⟩
theorem pf_X2_findAnswers {F : Fx} {X : Sx} {sk : List (String × Nat × String)} (E : q_E F X sk) (NC : q_NC F) : q_pf1 F (yX2_findAnswers, cX2_findAnswers, 4, none, 0, [], 0) (4, cd_X2_findAnswers) := ⟨rfl, 2, rfl, by decide, rfl, q_ok_of rfl ok_X2_findAnswers, (by decide +kernel)⟩
theorem pf_X2_farthestNeed {F : Fx} {X : Sx} {sk : List (String × Nat × String)} (E : q_E F X sk) (NC : q_NC F) : q_pf1 F (yX2_farthestNeed, cX2_farthestNeed, 4, (some .int), 0, [], 0) (4, cd_X2_farthestNeed) := ⟨rfl, 2, rfl, by decide, rfl, q_ok_of rfl ok_X2_farthestNeed, (by decide +kernel)⟩
theorem pf_X2_answersThen {F : Fx} {X : Sx} {sk : List (String × Nat × String)} (E : q_E F X sk) (NC : q_NC F) : q_pf1 F (yX2_answersThen, cX2_answersThen, 5, (some .int), 0, [], 1) (5, cd_X2_answersThen) := ⟨rfl, 2, rfl, by decide, rfl, q_ok_of rfl ok_X2_answersThen, (by decide +kernel)⟩
theorem pf_X2_mostMet {F : Fx} {X : Sx} {sk : List (String × Nat × String)} (E : q_E F X sk) (NC : q_NC F) : q_pf1 F (yX2_mostMet, cX2_mostMet, 3, (some .int), 0, [], 0) (3, cd_X2_mostMet) := ⟨rfl, 2, rfl, by decide, rfl, q_ok_of rfl ok_X2_mostMet, (by decide +kernel)⟩
theorem pf_X2_findAnswerer {F : Fx} {X : Sx} {sk : List (String × Nat × String)} (E : q_E F X sk) (NC : q_NC F) : q_pf1 F (yX2_findAnswerer, cX2_findAnswerer, 5, (some .boolean), 0, [], 2) (5, cd_X2_findAnswerer) := ⟨rfl, 2, rfl, by decide, rfl, q_ok_of rfl ok_X2_findAnswerer, (by decide +kernel)⟩
theorem pf_X2_makeRoom {F : Fx} {X : Sx} {sk : List (String × Nat × String)} (E : q_E F X sk) (NC : q_NC F) : q_pf1 F (yX2_makeRoom, cX2_makeRoom, 4, (some .boolean), 0, [], 2) (4, cd_X2_makeRoom) := ⟨rfl, 2, rfl, by decide, rfl, q_ok_of rfl ok_X2_makeRoom, (by decide +kernel)⟩
theorem pf_X3_init {F : Fx} {X : Sx} {sk : List (String × Nat × String)} (E : q_E F X sk) (NC : q_NC F) : q_pf1 F (yX3_init, cX3_init, 2, none, 2, [], 0) (2, cd_X3_init) := ⟨rfl, 3, rfl, by decide, rfl, q_ok_of rfl ok_X3_init, (by decide +kernel)⟩
theorem pf_X3_remember {F : Fx} {X : Sx} {sk : List (String × Nat × String)} (E : q_E F X sk) (NC : q_NC F) : q_pf1 F (yX3_remember, cX3_remember, 2, none, 0, [], 1) (2, cd_X3_remember) := ⟨rfl, 3, rfl, by decide, rfl, q_ok_of rfl ok_X3_remember, (by decide +kernel)⟩
theorem pf_X3_giveBack {F : Fx} {X : Sx} {sk : List (String × Nat × String)} (E : q_E F X sk) (NC : q_NC F) : q_pf1 F (yX3_giveBack, cX3_giveBack, 2, (some .boolean), 0, [], 1) (2, cd_X3_giveBack) := ⟨rfl, 3, rfl, by decide, rfl, q_ok_of rfl ok_X3_giveBack, (by decide +kernel)⟩
theorem pf_X3_forget {F : Fx} {X : Sx} {sk : List (String × Nat × String)} (E : q_E F X sk) (NC : q_NC F) : q_pf1 F (yX3_forget, cX3_forget, 1, none, 0, [], 0) (1, cd_X3_forget) := ⟨rfl, 3, rfl, by decide, rfl, q_ok_of rfl ok_X3_forget, (by decide +kernel)⟩
theorem pf_X4_init {F : Fx} {X : Sx} {sk : List (String × Nat × String)} (E : q_E F X sk) (NC : q_NC F) : q_pf1 F (yX4_init, cX4_init, 1, none, 2, [], 0) (1, cd_X4_init) := ⟨rfl, 4, rfl, by decide, rfl, q_ok_of rfl ok_X4_init, (by decide +kernel)⟩
theorem pf_X4_become {F : Fx} {X : Sx} {sk : List (String × Nat × String)} (E : q_E F X sk) (NC : q_NC F) : q_pf1 F (yX4_become, cX4_become, 2, none, 0, [], 1) (2, cd_X4_become) := ⟨rfl, 4, rfl, by decide, rfl, q_ok_of rfl ok_X4_become, (by decide +kernel)⟩
theorem pf_X4_clear {F : Fx} {X : Sx} {sk : List (String × Nat × String)} (E : q_E F X sk) (NC : q_NC F) : q_pf1 F (yX4_clear, cX4_clear, 1, none, 0, [], 0) (1, cd_X4_clear) := ⟨rfl, 4, rfl, by decide, rfl, q_ok_of rfl ok_X4_clear, (by decide +kernel)⟩
theorem pf_X4_addStep {F : Fx} {X : Sx} {sk : List (String × Nat × String)} (E : q_E F X sk) (NC : q_NC F) : q_pf1 F (yX4_addStep, cX4_addStep, 2, none, 0, [], 1) (2, cd_X4_addStep) := ⟨rfl, 4, rfl, by decide, rfl, q_ok_of rfl ok_X4_addStep, (by decide +kernel)⟩
theorem pf_X4_addLine {F : Fx} {X : Sx} {sk : List (String × Nat × String)} (E : q_E F X sk) (NC : q_NC F) : q_pf1 F (yX4_addLine, cX4_addLine, 3, none, 0, [], 2) (3, cd_X4_addLine) := ⟨rfl, 4, rfl, by decide, rfl, q_ok_of rfl ok_X4_addLine, (by decide +kernel)⟩
theorem pf_X4_adviceOf {F : Fx} {X : Sx} {sk : List (String × Nat × String)} (E : q_E F X sk) (NC : q_NC F) : q_pf1 F (yX4_adviceOf, cX4_adviceOf, 7, (some .int), 0, [], 4) (7, cd_X4_adviceOf) := ⟨rfl, 4, rfl, by decide, rfl, q_ok_of rfl ok_X4_adviceOf, (by decide +kernel)⟩
theorem pf_X4_soursBy {F : Fx} {X : Sx} {sk : List (String × Nat × String)} (E : q_E F X sk) (NC : q_NC F) : q_pf1 F (yX4_soursBy, cX4_soursBy, 4, (some .int), 0, [], 3) (4, cd_X4_soursBy) := ⟨rfl, 4, rfl, by decide, rfl, q_ok_of rfl ok_X4_soursBy, (by decide +kernel)⟩
theorem pf_X4_makesPop {F : Fx} {X : Sx} {sk : List (String × Nat × String)} (E : q_E F X sk) (NC : q_NC F) : q_pf1 F (yX4_makesPop, cX4_makesPop, 5, (some .boolean), 0, [], 3) (5, cd_X4_makesPop) := ⟨rfl, 4, rfl, by decide, rfl, q_ok_of rfl ok_X4_makesPop, (by decide +kernel)⟩
theorem pf_X4_lookAt {F : Fx} {X : Sx} {sk : List (String × Nat × String)} (E : q_E F X sk) (NC : q_NC F) : q_pf1 F (yX4_lookAt, cX4_lookAt, 4, none, 0, [], 3) (4, cd_X4_lookAt) := ⟨rfl, 4, rfl, by decide, rfl, q_ok_of rfl ok_X4_lookAt, (by decide +kernel)⟩
theorem pf_X4_sumOf {F : Fx} {X : Sx} {sk : List (String × Nat × String)} (E : q_E F X sk) (NC : q_NC F) : q_pf1 F (yX4_sumOf, cX4_sumOf, 4, (some .int), 0, [], 1) (4, cd_X4_sumOf) := ⟨rfl, 4, rfl, by decide, rfl, q_ok_of rfl ok_X4_sumOf, (by decide +kernel)⟩
theorem pf_X4_holds {F : Fx} {X : Sx} {sk : List (String × Nat × String)} (E : q_E F X sk) (NC : q_NC F) : q_pf1 F (yX4_holds, cX4_holds, 11, (some .boolean), 0, [], 1) (11, cd_X4_holds) := ⟨rfl, 4, rfl, by decide, rfl, q_ok_of rfl ok_X4_holds, (by decide +kernel)⟩
theorem pf_X5_init {F : Fx} {X : Sx} {sk : List (String × Nat × String)} (E : q_E F X sk) (NC : q_NC F) : q_pf1 F (yX5_init, cX5_init, 3, none, 2, [], 2) (3, cd_X5_init) := ⟨rfl, 5, rfl, by decide, rfl, q_ok_of rfl ok_X5_init, (by decide +kernel)⟩
theorem pf_X5_readText {F : Fx} {X : Sx} {sk : List (String × Nat × String)} (E : q_E F X sk) (NC : q_NC F) : q_pf1 F (yX5_readText, cX5_readText, 2, (some .boolean), 0, [], 0) (2, cd_X5_readText) := ⟨rfl, 5, rfl, by decide, rfl, q_ok_of rfl ok_X5_readText, (by decide +kernel)⟩
theorem pf_X5_readLine {F : Fx} {X : Sx} {sk : List (String × Nat × String)} (E : q_E F X sk) (NC : q_NC F) : q_pf1 F (yX5_readLine, cX5_readLine, 3, (some .boolean), 0, [], 0) (3, cd_X5_readLine) := ⟨rfl, 5, rfl, by decide, rfl, q_ok_of rfl ok_X5_readLine, (by decide +kernel)⟩
theorem pf_X5_takeKind {F : Fx} {X : Sx} {sk : List (String × Nat × String)} (E : q_E F X sk) (NC : q_NC F) : q_pf1 F (yX5_takeKind, cX5_takeKind, 1, (some .int), 0, [], 0) (1, cd_X5_takeKind) := ⟨rfl, 5, rfl, by decide, rfl, q_ok_of rfl ok_X5_takeKind, (by decide +kernel)⟩
theorem pf_X5_readAny {F : Fx} {X : Sx} {sk : List (String × Nat × String)} (E : q_E F X sk) (NC : q_NC F) : q_pf1 F (yX5_readAny, cX5_readAny, 4, (some .boolean), 0, [], 1) (4, cd_X5_readAny) := ⟨rfl, 5, rfl, by decide, rfl, q_ok_of rfl ok_X5_readAny, (by decide +kernel)⟩
theorem pf_X5_readAtom {F : Fx} {X : Sx} {sk : List (String × Nat × String)} (E : q_E F X sk) (NC : q_NC F) : q_pf1 F (yX5_readAtom, cX5_readAtom, 4, (some .boolean), 0, [], 1) (4, cd_X5_readAtom) := ⟨rfl, 5, rfl, by decide, rfl, q_ok_of rfl ok_X5_readAtom, (by decide +kernel)⟩
theorem pf_X5_readDeeper {F : Fx} {X : Sx} {sk : List (String × Nat × String)} (E : q_E F X sk) (NC : q_NC F) : q_pf1 F (yX5_readDeeper, cX5_readDeeper, 2, (some .boolean), 0, [], 1) (2, cd_X5_readDeeper) := ⟨rfl, 5, rfl, by decide, rfl, q_ok_of rfl ok_X5_readDeeper, (by decide +kernel)⟩
theorem pf_X5_readSum {F : Fx} {X : Sx} {sk : List (String × Nat × String)} (E : q_E F X sk) (NC : q_NC F) : q_pf1 F (yX5_readSum, cX5_readSum, 3, (some .boolean), 0, [], 0) (3, cd_X5_readSum) := ⟨rfl, 5, rfl, by decide, rfl, q_ok_of rfl ok_X5_readSum, (by decide +kernel)⟩
theorem pf_X5_partThere {F : Fx} {X : Sx} {sk : List (String × Nat × String)} (E : q_E F X sk) (NC : q_NC F) : q_pf1 F (yX5_partThere, cX5_partThere, 1, (some .int), 0, [], 0) (1, cd_X5_partThere) := ⟨rfl, 5, rfl, by decide, rfl, q_ok_of rfl ok_X5_partThere, (by decide +kernel)⟩
theorem pf_X6_init {F : Fx} {X : Sx} {sk : List (String × Nat × String)} (E : q_E F X sk) (NC : q_NC F) : q_pf1 F (yX6_init, cX6_init, 1, none, 2, [], 0) (1, cd_X6_init) := ⟨rfl, 6, rfl, by decide, rfl, q_ok_of rfl ok_X6_init, (by decide +kernel)⟩
theorem pf_X6_become {F : Fx} {X : Sx} {sk : List (String × Nat × String)} (E : q_E F X sk) (NC : q_NC F) : q_pf1 F (yX6_become, cX6_become, 2, none, 0, [], 1) (2, cd_X6_become) := ⟨rfl, 6, rfl, by decide, rfl, q_ok_of rfl ok_X6_become, (by decide +kernel)⟩
theorem pf_X6_enter {F : Fx} {X : Sx} {sk : List (String × Nat × String)} (E : q_E F X sk) (NC : q_NC F) : q_pf1 F (yX6_enter, cX6_enter, 7, none, 0, [], 5) (7, cd_X6_enter) := ⟨rfl, 6, rfl, by decide, rfl, q_ok_of rfl ok_X6_enter, (by decide +kernel)⟩
theorem pf_X6_hasRow {F : Fx} {X : Sx} {sk : List (String × Nat × String)} (E : q_E F X sk) (NC : q_NC F) : q_pf1 F (yX6_hasRow, cX6_hasRow, 3, (some .boolean), 0, [], 2) (3, cd_X6_hasRow) := ⟨rfl, 6, rfl, by decide, rfl, q_ok_of rfl ok_X6_hasRow, (by decide +kernel)⟩
theorem pf_X6_cell {F : Fx} {X : Sx} {sk : List (String × Nat × String)} (E : q_E F X sk) (NC : q_NC F) : q_pf1 F (yX6_cell, cX6_cell, 4, (some .int), 0, [], 3) (4, cd_X6_cell) := ⟨rfl, 6, rfl, by decide, rfl, q_ok_of rfl ok_X6_cell, (by decide +kernel)⟩
theorem pf_X6_timesAsked {F : Fx} {X : Sx} {sk : List (String × Nat × String)} (E : q_E F X sk) (NC : q_NC F) : q_pf1 F (yX6_timesAsked, cX6_timesAsked, 5, (some .int), 0, [], 2) (5, cd_X6_timesAsked) := ⟨rfl, 6, rfl, by decide, rfl, q_ok_of rfl ok_X6_timesAsked, (by decide +kernel)⟩
theorem pf_X6_askedMost {F : Fx} {X : Sx} {sk : List (String × Nat × String)} (E : q_E F X sk) (NC : q_NC F) : q_pf1 F (yX6_askedMost, cX6_askedMost, 7, (some .int), 0, [], 2) (7, cd_X6_askedMost) := ⟨rfl, 6, rfl, by decide, rfl, q_ok_of rfl ok_X6_askedMost, (by decide +kernel)⟩
theorem pf_X6_latestOf {F : Fx} {X : Sx} {sk : List (String × Nat × String)} (E : q_E F X sk) (NC : q_NC F) : q_pf1 F (yX6_latestOf, cX6_latestOf, 4, (some .int), 0, [], 2) (4, cd_X6_latestOf) := ⟨rfl, 6, rfl, by decide, rfl, q_ok_of rfl ok_X6_latestOf, (by decide +kernel)⟩
theorem pf_X7_init {F : Fx} {X : Sx} {sk : List (String × Nat × String)} (E : q_E F X sk) (NC : q_NC F) : q_pf1 F (yX7_init, cX7_init, 1, none, 2, [], 0) (1, cd_X7_init) := ⟨rfl, 7, rfl, by decide, rfl, q_ok_of rfl ok_X7_init, (by decide +kernel)⟩
theorem pf_X7_become {F : Fx} {X : Sx} {sk : List (String × Nat × String)} (E : q_E F X sk) (NC : q_NC F) : q_pf1 F (yX7_become, cX7_become, 2, none, 0, [], 1) (2, cd_X7_become) := ⟨rfl, 7, rfl, by decide, rfl, q_ok_of rfl ok_X7_become, (by decide +kernel)⟩
theorem pf_X7_isOpen {F : Fx} {X : Sx} {sk : List (String × Nat × String)} (E : q_E F X sk) (NC : q_NC F) : q_pf1 F (yX7_isOpen, cX7_isOpen, 2, (some .boolean), 0, [], 1) (2, cd_X7_isOpen) := ⟨rfl, 7, rfl, by decide, rfl, q_ok_of rfl ok_X7_isOpen, (by decide +kernel)⟩
theorem pf_X7_useSpoon {F : Fx} {X : Sx} {sk : List (String × Nat × String)} (E : q_E F X sk) (NC : q_NC F) : q_pf1 F (yX7_useSpoon, cX7_useSpoon, 2, none, 0, [], 1) (2, cd_X7_useSpoon) := ⟨rfl, 7, rfl, by decide, rfl, q_ok_of rfl ok_X7_useSpoon, (by decide +kernel)⟩
theorem pf_X7_putLidOn {F : Fx} {X : Sx} {sk : List (String × Nat × String)} (E : q_E F X sk) (NC : q_NC F) : q_pf1 F (yX7_putLidOn, cX7_putLidOn, 2, none, 0, [], 1) (2, cd_X7_putLidOn) := ⟨rfl, 7, rfl, by decide, rfl, q_ok_of rfl ok_X7_putLidOn, (by decide +kernel)⟩
theorem pf_X7_sourMore {F : Fx} {X : Sx} {sk : List (String × Nat × String)} (E : q_E F X sk) (NC : q_NC F) : q_pf1 F (yX7_sourMore, cX7_sourMore, 3, none, 0, [], 2) (3, cd_X7_sourMore) := ⟨rfl, 7, rfl, by decide, rfl, q_ok_of rfl ok_X7_sourMore, (by decide +kernel)⟩
theorem pf_X7_jarOn {F : Fx} {X : Sx} {sk : List (String × Nat × String)} (E : q_E F X sk) (NC : q_NC F) : q_pf1 F (yX7_jarOn, cX7_jarOn, 4, (some .int), 0, [], 2) (4, cd_X7_jarOn) := ⟨rfl, 7, rfl, by decide, rfl, q_ok_of rfl ok_X7_jarOn, (by decide +kernel)⟩
theorem pf_X7_spoonsOfAll {F : Fx} {X : Sx} {sk : List (String × Nat × String)} (E : q_E F X sk) (NC : q_NC F) : q_pf1 F (yX7_spoonsOfAll, cX7_spoonsOfAll, 4, (some .int), 0, [], 1) (4, cd_X7_spoonsOfAll) := ⟨rfl, 7, rfl, by decide, rfl, q_ok_of rfl ok_X7_spoonsOfAll, (by decide +kernel)⟩
theorem pf_X7_draw {F : Fx} {X : Sx} {sk : List (String × Nat × String)} (E : q_E F X sk) (NC : q_NC F) : q_pf1 F (yX7_draw, cX7_draw, 1, (some .int), 0, [], 0) (1, cd_X7_draw) := ⟨rfl, 7, rfl, by decide, rfl, q_ok_of rfl ok_X7_draw, (by decide +kernel)⟩
theorem pf_X8_init {F : Fx} {X : Sx} {sk : List (String × Nat × String)} (E : q_E F X sk) (NC : q_NC F) : q_pf1 F (yX8_init, cX8_init, 3, none, 2, [], 2) (3, cd_X8_init) := ⟨rfl, 8, rfl, by decide, rfl, q_ok_of rfl ok_X8_init, (by decide +kernel)⟩
theorem pf_X8_harmOn {F : Fx} {X : Sx} {sk : List (String × Nat × String)} (E : q_E F X sk) (NC : q_NC F) : q_pf1 F (yX8_harmOn, cX8_harmOn, 3, (some .int), 0, [], 2) (3, cd_X8_harmOn) := ⟨rfl, 8, rfl, by decide, rfl, q_ok_of rfl ok_X8_harmOn, (by decide +kernel)⟩
theorem pf_X8_harmNow {F : Fx} {X : Sx} {sk : List (String × Nat × String)} (E : q_E F X sk) (NC : q_NC F) : q_pf1 F (yX8_harmNow, cX8_harmNow, 3, (some .int), 0, [], 0) (3, cd_X8_harmNow) := ⟨rfl, 8, rfl, by decide, rfl, q_ok_of rfl ok_X8_harmNow, (by decide +kernel)⟩
theorem pf_X8_leastHarm {F : Fx} {X : Sx} {sk : List (String × Nat × String)} (E : q_E F X sk) (NC : q_NC F) : q_pf1 F (yX8_leastHarm, cX8_leastHarm, 1, (some .int), 0, [], 0) (1, cd_X8_leastHarm) := ⟨rfl, 8, rfl, by decide, rfl, q_ok_of rfl ok_X8_leastHarm, (by decide +kernel)⟩
theorem pf_X8_arrangedPlaceOf {F : Fx} {X : Sx} {sk : List (String × Nat × String)} (E : q_E F X sk) (NC : q_NC F) : q_pf1 F (yX8_arrangedPlaceOf, cX8_arrangedPlaceOf, 6, (some .int), 0, [], 1) (6, cd_X8_arrangedPlaceOf) := ⟨rfl, 8, rfl, by decide, rfl, q_ok_of rfl ok_X8_arrangedPlaceOf, (by decide +kernel)⟩
theorem pf_X8_firstPlaceFor {F : Fx} {X : Sx} {sk : List (String × Nat × String)} (E : q_E F X sk) (NC : q_NC F) : q_pf1 F (yX8_firstPlaceFor, cX8_firstPlaceFor, 6, (some .int), 0, [], 3) (6, cd_X8_firstPlaceFor) := ⟨rfl, 8, rfl, by decide, rfl, q_ok_of rfl ok_X8_firstPlaceFor, (by decide +kernel)⟩
theorem pf_X8_leastHarmFrom {F : Fx} {X : Sx} {sk : List (String × Nat × String)} (E : q_E F X sk) (NC : q_NC F) : q_pf1 F (yX8_leastHarmFrom, cX8_leastHarmFrom, 7, (some .int), 0, [], 2) (7, cd_X8_leastHarmFrom) := ⟨rfl, 8, rfl, by decide, rfl, q_ok_of rfl ok_X8_leastHarmFrom, (by decide +kernel)⟩
theorem pf_X8_sortBoth {F : Fx} {X : Sx} {sk : List (String × Nat × String)} (E : q_E F X sk) (NC : q_NC F) : q_pf1 F (yX8_sortBoth, cX8_sortBoth, 3, none, 0, [], 0) (3, cd_X8_sortBoth) := ⟨rfl, 8, rfl, by decide, rfl, q_ok_of rfl ok_X8_sortBoth, (by decide +kernel)⟩
theorem pf_X8_fallsFrom {F : Fx} {X : Sx} {sk : List (String × Nat × String)} (E : q_E F X sk) (NC : q_NC F) : q_pf1 F (yX8_fallsFrom, cX8_fallsFrom, 5, (some .int), 0, [], 1) (5, cd_X8_fallsFrom) := ⟨rfl, 8, rfl, by decide, rfl, q_ok_of rfl ok_X8_fallsFrom, (by decide +kernel)⟩
theorem pf_X8_worstPlace {F : Fx} {X : Sx} {sk : List (String × Nat × String)} (E : q_E F X sk) (NC : q_NC F) : q_pf1 F (yX8_worstPlace, cX8_worstPlace, 5, (some .int), 0, [], 0) (5, cd_X8_worstPlace) := ⟨rfl, 8, rfl, by decide, rfl, q_ok_of rfl ok_X8_worstPlace, (by decide +kernel)⟩
theorem pf_X9_init {F : Fx} {X : Sx} {sk : List (String × Nat × String)} (E : q_E F X sk) (NC : q_NC F) : q_pf1 F (yX9_init, cX9_init, 1, none, 2, [], 0) (1, cd_X9_init) := ⟨rfl, 9, rfl, by decide, rfl, q_ok_of rfl ok_X9_init, (by decide +kernel)⟩
theorem pf_X9_become {F : Fx} {X : Sx} {sk : List (String × Nat × String)} (E : q_E F X sk) (NC : q_NC F) : q_pf1 F (yX9_become, cX9_become, 2, none, 0, [], 1) (2, cd_X9_become) := ⟨rfl, 9, rfl, by decide, rfl, q_ok_of rfl ok_X9_become, (by decide +kernel)⟩
theorem pf_X9_hasJar {F : Fx} {X : Sx} {sk : List (String × Nat × String)} (E : q_E F X sk) (NC : q_NC F) : q_pf1 F (yX9_hasJar, cX9_hasJar, 2, (some .boolean), 0, [], 1) (2, cd_X9_hasJar) := ⟨rfl, 9, rfl, by decide, rfl, q_ok_of rfl ok_X9_hasJar, (by decide +kernel)⟩
theorem pf_X9_everyJar {F : Fx} {X : Sx} {sk : List (String × Nat × String)} (E : q_E F X sk) (NC : q_NC F) : q_pf1 F (yX9_everyJar, cX9_everyJar, 1, (some .int), 0, [], 0) (1, cd_X9_everyJar) := ⟨rfl, 9, rfl, by decide, rfl, q_ok_of rfl ok_X9_everyJar, (by decide +kernel)⟩
theorem pf_X9_viewOf {F : Fx} {X : Sx} {sk : List (String × Nat × String)} (E : q_E F X sk) (NC : q_NC F) : q_pf1 F (yX9_viewOf, cX9_viewOf, 3, (some .int), 0, [], 2) (3, cd_X9_viewOf) := ⟨rfl, 9, rfl, by decide, rfl, q_ok_of rfl ok_X9_viewOf, (by decide +kernel)⟩
theorem pf_X9_setView {F : Fx} {X : Sx} {sk : List (String × Nat × String)} (E : q_E F X sk) (NC : q_NC F) : q_pf1 F (yX9_setView, cX9_setView, 4, none, 0, [], 3) (4, cd_X9_setView) := ⟨rfl, 9, rfl, by decide, rfl, q_ok_of rfl ok_X9_setView, (by decide +kernel)⟩
theorem pf_X9_sealsOf {F : Fx} {X : Sx} {sk : List (String × Nat × String)} (E : q_E F X sk) (NC : q_NC F) : q_pf1 F (yX9_sealsOf, cX9_sealsOf, 4, (some .int), 0, [], 1) (4, cd_X9_sealsOf) := ⟨rfl, 9, rfl, by decide, rfl, q_ok_of rfl ok_X9_sealsOf, (by decide +kernel)⟩
theorem pf_X10_init {F : Fx} {X : Sx} {sk : List (String × Nat × String)} (E : q_E F X sk) (NC : q_NC F) : q_pf1 F (yX10_init, cX10_init, 1, none, 2, [], 0) (1, cd_X10_init) := ⟨rfl, 10, rfl, by decide, rfl, q_ok_of rfl ok_X10_init, (by decide +kernel)⟩
theorem pf_X10_hasRoom {F : Fx} {X : Sx} {sk : List (String × Nat × String)} (E : q_E F X sk) (NC : q_NC F) : q_pf1 F (yX10_hasRoom, cX10_hasRoom, 1, (some .boolean), 0, [], 0) (1, cd_X10_hasRoom) := ⟨rfl, 10, rfl, by decide, rfl, q_ok_of rfl ok_X10_hasRoom, (by decide +kernel)⟩
theorem pf_X10_append {F : Fx} {X : Sx} {sk : List (String × Nat × String)} (E : q_E F X sk) (NC : q_NC F) : q_pf1 F (yX10_append, cX10_append, 3, none, 0, [], 1) (3, cd_X10_append) := ⟨rfl, 10, rfl, by decide, rfl, q_ok_of rfl ok_X10_append, (by decide +kernel)⟩
theorem pf_X10_byteAt {F : Fx} {X : Sx} {sk : List (String × Nat × String)} (E : q_E F X sk) (NC : q_NC F) : q_pf1 F (yX10_byteAt, cX10_byteAt, 2, (some .int), 0, [], 1) (2, cd_X10_byteAt) := ⟨rfl, 10, rfl, by decide, rfl, q_ok_of rfl ok_X10_byteAt, (by decide +kernel)⟩
theorem pf_X10_holdsTastes {F : Fx} {X : Sx} {sk : List (String × Nat × String)} (E : q_E F X sk) (NC : q_NC F) : q_pf1 F (yX10_holdsTastes, cX10_holdsTastes, 2, (some .boolean), 0, [], 0) (2, cd_X10_holdsTastes) := ⟨rfl, 10, rfl, by decide, rfl, q_ok_of rfl ok_X10_holdsTastes, (by decide +kernel)⟩
theorem pf_X10_start {F : Fx} {X : Sx} {sk : List (String × Nat × String)} (E : q_E F X sk) (NC : q_NC F) : q_pf1 F (yX10_start, cX10_start, 1, none, 0, [], 0) (1, cd_X10_start) := ⟨rfl, 10, rfl, by decide, rfl, q_ok_of rfl ok_X10_start, (by decide +kernel)⟩
theorem pf_X10_step {F : Fx} {X : Sx} {sk : List (String × Nat × String)} (E : q_E F X sk) (NC : q_NC F) : q_pf1 F (yX10_step, cX10_step, 1, none, 0, [], 0) (1, cd_X10_step) := ⟨rfl, 10, rfl, by decide, rfl, q_ok_of rfl ok_X10_step, (by decide +kernel)⟩
theorem pf_X10_isAtEnd {F : Fx} {X : Sx} {sk : List (String × Nat × String)} (E : q_E F X sk) (NC : q_NC F) : q_pf1 F (yX10_isAtEnd, cX10_isAtEnd, 1, (some .boolean), 0, [], 0) (1, cd_X10_isAtEnd) := ⟨rfl, 10, rfl, by decide, rfl, q_ok_of rfl ok_X10_isAtEnd, (by decide +kernel)⟩
theorem pf_X10_isWord {F : Fx} {X : Sx} {sk : List (String × Nat × String)} (E : q_E F X sk) (NC : q_NC F) : q_pf1 F (yX10_isWord, cX10_isWord, 3, (some .boolean), 0, [], 1) (3, cd_X10_isWord) := ⟨rfl, 10, rfl, by decide, rfl, q_ok_of rfl ok_X10_isWord, (by decide +kernel)⟩
theorem pf_X10_isSign {F : Fx} {X : Sx} {sk : List (String × Nat × String)} (E : q_E F X sk) (NC : q_NC F) : q_pf1 F (yX10_isSign, cX10_isSign, 2, (some .boolean), 0, [], 1) (2, cd_X10_isSign) := ⟨rfl, 10, rfl, by decide, rfl, q_ok_of rfl ok_X10_isSign, (by decide +kernel)⟩
theorem pf_X10_isNumber {F : Fx} {X : Sx} {sk : List (String × Nat × String)} (E : q_E F X sk) (NC : q_NC F) : q_pf1 F (yX10_isNumber, cX10_isNumber, 4, (some .boolean), 0, [], 3) (4, cd_X10_isNumber) := ⟨rfl, 10, rfl, by decide, rfl, q_ok_of rfl ok_X10_isNumber, (by decide +kernel)⟩
theorem pf_X10_isFigures {F : Fx} {X : Sx} {sk : List (String × Nat × String)} (E : q_E F X sk) (NC : q_NC F) : q_pf1 F (yX10_isFigures, cX10_isFigures, 2, (some .boolean), 0, [], 1) (2, cd_X10_isFigures) := ⟨rfl, 10, rfl, by decide, rfl, q_ok_of rfl ok_X10_isFigures, (by decide +kernel)⟩
theorem pf_X10_figure {F : Fx} {X : Sx} {sk : List (String × Nat × String)} (E : q_E F X sk) (NC : q_NC F) : q_pf1 F (yX10_figure, cX10_figure, 2, (some .int), 0, [], 1) (2, cd_X10_figure) := ⟨rfl, 10, rfl, by decide, rfl, q_ok_of rfl ok_X10_figure, (by decide +kernel)⟩
theorem pf_X10_takeWord {F : Fx} {X : Sx} {sk : List (String × Nat × String)} (E : q_E F X sk) (NC : q_NC F) : q_pf1 F (yX10_takeWord, cX10_takeWord, 3, (some .boolean), 0, [], 1) (3, cd_X10_takeWord) := ⟨rfl, 10, rfl, by decide, rfl, q_ok_of rfl ok_X10_takeWord, (by decide +kernel)⟩
theorem pf_X10_takeSign {F : Fx} {X : Sx} {sk : List (String × Nat × String)} (E : q_E F X sk) (NC : q_NC F) : q_pf1 F (yX10_takeSign, cX10_takeSign, 3, (some .boolean), 0, [], 1) (3, cd_X10_takeSign) := ⟨rfl, 10, rfl, by decide, rfl, q_ok_of rfl ok_X10_takeSign, (by decide +kernel)⟩
theorem pf_X10_takeNumber {F : Fx} {X : Sx} {sk : List (String × Nat × String)} (E : q_E F X sk) (NC : q_NC F) : q_pf1 F (yX10_takeNumber, cX10_takeNumber, 5, (some .boolean), 0, [], 3) (5, cd_X10_takeNumber) := ⟨rfl, 10, rfl, by decide, rfl, q_ok_of rfl ok_X10_takeNumber, (by decide +kernel)⟩
theorem pf_X10_takeLiquid {F : Fx} {X : Sx} {sk : List (String × Nat × String)} (E : q_E F X sk) (NC : q_NC F) : q_pf1 F (yX10_takeLiquid, cX10_takeLiquid, 1, (some .int), 0, [], 0) (1, cd_X10_takeLiquid) := ⟨rfl, 10, rfl, by decide, rfl, q_ok_of rfl ok_X10_takeLiquid, (by decide +kernel)⟩
theorem pf_X11_init {F : Fx} {X : Sx} {sk : List (String × Nat × String)} (E : q_E F X sk) (NC : q_NC F) : q_pf1 F (yX11_init, cX11_init, 1, none, 2, [], 0) (1, cd_X11_init) := ⟨rfl, 11, rfl, by decide, rfl, q_ok_of rfl ok_X11_init, (by decide +kernel)⟩
theorem pf_X11_feed {F : Fx} {X : Sx} {sk : List (String × Nat × String)} (E : q_E F X sk) (NC : q_NC F) : q_pf1 F (yX11_feed, cX11_feed, 6, (some .int), 0, [], 5) (6, cd_X11_feed) := ⟨rfl, 11, rfl, by decide, rfl, q_ok_of rfl ok_X11_feed, (by decide +kernel)⟩
theorem pf_X11_end {F : Fx} {X : Sx} {sk : List (String × Nat × String)} (E : q_E F X sk) (NC : q_NC F) : q_pf1 F (yX11_end, cX11_end, 2, (some .boolean), 0, [], 1) (2, cd_X11_end) := ⟨rfl, 11, rfl, by decide, rfl, q_ok_of rfl ok_X11_end, (by decide +kernel)⟩
theorem pf_X11_cabinet {F : Fx} {X : Sx} {sk : List (String × Nat × String)} (E : q_E F X sk) (NC : q_NC F) : q_pf1 F (yX11_cabinet, cX11_cabinet, 2, (some .int), 0, [], 0) (2, cd_X11_cabinet) := ⟨rfl, 11, rfl, by decide, rfl, q_ok_of rfl ok_X11_cabinet, (by decide +kernel)⟩
theorem pf_X11_law {F : Fx} {X : Sx} {sk : List (String × Nat × String)} (E : q_E F X sk) (NC : q_NC F) : q_pf1 F (yX11_law, cX11_law, 2, (some .int), 0, [], 0) (2, cd_X11_law) := ⟨rfl, 11, rfl, by decide, rfl, q_ok_of rfl ok_X11_law, (by decide +kernel)⟩
theorem pf_X11_fault {F : Fx} {X : Sx} {sk : List (String × Nat × String)} (E : q_E F X sk) (NC : q_NC F) : q_pf1 F (yX11_fault, cX11_fault, 1, (some .int), 0, [], 0) (1, cd_X11_fault) := ⟨rfl, 11, rfl, by decide, rfl, q_ok_of rfl ok_X11_fault, (by decide +kernel)⟩
theorem pf_X11_jar {F : Fx} {X : Sx} {sk : List (String × Nat × String)} (E : q_E F X sk) (NC : q_NC F) : q_pf1 F (yX11_jar, cX11_jar, 3, (some .int), 0, [], 2) (3, cd_X11_jar) := ⟨rfl, 11, rfl, by decide, rfl, q_ok_of rfl ok_X11_jar, (by decide +kernel)⟩
theorem pf_X11_advice {F : Fx} {X : Sx} {sk : List (String × Nat × String)} (E : q_E F X sk) (NC : q_NC F) : q_pf1 F (yX11_advice, cX11_advice, 4, (some .int), 0, [], 3) (4, cd_X11_advice) := ⟨rfl, 11, rfl, by decide, rfl, q_ok_of rfl ok_X11_advice, (by decide +kernel)⟩
theorem pf_X11_light {F : Fx} {X : Sx} {sk : List (String × Nat × String)} (E : q_E F X sk) (NC : q_NC F) : q_pf1 F (yX11_light, cX11_light, 2, (some .int), 0, [], 1) (2, cd_X11_light) := ⟨rfl, 11, rfl, by decide, rfl, q_ok_of rfl ok_X11_light, (by decide +kernel)⟩
theorem pf_X11_need {F : Fx} {X : Sx} {sk : List (String × Nat × String)} (E : q_E F X sk) (NC : q_NC F) : q_pf1 F (yX11_need, cX11_need, 3, (some .int), 0, [], 2) (3, cd_X11_need) := ⟨rfl, 11, rfl, by decide, rfl, q_ok_of rfl ok_X11_need, (by decide +kernel)⟩
theorem pf_X11_ask {F : Fx} {X : Sx} {sk : List (String × Nat × String)} (E : q_E F X sk) (NC : q_NC F) : q_pf1 F (yX11_ask, cX11_ask, 4, (some .int), 0, [], 2) (4, cd_X11_ask) := ⟨rfl, 11, rfl, by decide, rfl, q_ok_of rfl ok_X11_ask, (by decide +kernel)⟩
theorem pf_X11_mix {F : Fx} {X : Sx} {sk : List (String × Nat × String)} (E : q_E F X sk) (NC : q_NC F) : q_pf1 F (yX11_mix, cX11_mix, 5, (some .int), 0, [], 3) (5, cd_X11_mix) := ⟨rfl, 11, rfl, by decide, rfl, q_ok_of rfl ok_X11_mix, (by decide +kernel)⟩
theorem pf_X11_close {F : Fx} {X : Sx} {sk : List (String × Nat × String)} (E : q_E F X sk) (NC : q_NC F) : q_pf1 F (yX11_close, cX11_close, 3, (some .boolean), 0, [], 1) (3, cd_X11_close) := ⟨rfl, 11, rfl, by decide, rfl, q_ok_of rfl ok_X11_close, (by decide +kernel)⟩
theorem pf_X11_label {F : Fx} {X : Sx} {sk : List (String × Nat × String)} (E : q_E F X sk) (NC : q_NC F) : q_pf1 F (yX11_label, cX11_label, 4, (some .int), 0, [], 2) (4, cd_X11_label) := ⟨rfl, 11, rfl, by decide, rfl, q_ok_of rfl ok_X11_label, (by decide +kernel)⟩
theorem pf_X11_move {F : Fx} {X : Sx} {sk : List (String × Nat × String)} (E : q_E F X sk) (NC : q_NC F) : q_pf1 F (yX11_move, cX11_move, 4, (some .int), 0, [], 2) (4, cd_X11_move) := ⟨rfl, 11, rfl, by decide, rfl, q_ok_of rfl ok_X11_move, (by decide +kernel)⟩
theorem pf_X11_years {F : Fx} {X : Sx} {sk : List (String × Nat × String)} (E : q_E F X sk) (NC : q_NC F) : q_pf1 F (yX11_years, cX11_years, 3, (some .int), 0, [], 1) (3, cd_X11_years) := ⟨rfl, 11, rfl, by decide, rfl, q_ok_of rfl ok_X11_years, (by decide +kernel)⟩
theorem pf_X11_mixture {F : Fx} {X : Sx} {sk : List (String × Nat × String)} (E : q_E F X sk) (NC : q_NC F) : q_pf1 F (yX11_mixture, cX11_mixture, 4, (some .int), 0, [], 3) (4, cd_X11_mixture) := ⟨rfl, 11, rfl, by decide, rfl, q_ok_of rfl ok_X11_mixture, (by decide +kernel)⟩
theorem pf_X11_best {F : Fx} {X : Sx} {sk : List (String × Nat × String)} (E : q_E F X sk) (NC : q_NC F) : q_pf1 F (yX11_best, cX11_best, 3, (some .int), 0, [], 2) (3, cd_X11_best) := ⟨rfl, 11, rfl, by decide, rfl, q_ok_of rfl ok_X11_best, (by decide +kernel)⟩
theorem pf_X11_coalition {F : Fx} {X : Sx} {sk : List (String × Nat × String)} (E : q_E F X sk) (NC : q_NC F) : q_pf1 F (yX11_coalition, cX11_coalition, 1, (some .int), 0, [], 0) (1, cd_X11_coalition) := ⟨rfl, 11, rfl, by decide, rfl, q_ok_of rfl ok_X11_coalition, (by decide +kernel)⟩
theorem pf_X11_agree {F : Fx} {X : Sx} {sk : List (String × Nat × String)} (E : q_E F X sk) (NC : q_NC F) : q_pf1 F (yX11_agree, cX11_agree, 2, (some .int), 0, [], 1) (2, cd_X11_agree) := ⟨rfl, 11, rfl, by decide, rfl, q_ok_of rfl ok_X11_agree, (by decide +kernel)⟩
theorem pf_X11_cover {F : Fx} {X : Sx} {sk : List (String × Nat × String)} (E : q_E F X sk) (NC : q_NC F) : q_pf1 F (yX11_cover, cX11_cover, 2, (some .int), 0, [], 1) (2, cd_X11_cover) := ⟨rfl, 11, rfl, by decide, rfl, q_ok_of rfl ok_X11_cover, (by decide +kernel)⟩
theorem pf_X11_plan {F : Fx} {X : Sx} {sk : List (String × Nat × String)} (E : q_E F X sk) (NC : q_NC F) : q_pf1 F (yX11_plan, cX11_plan, 1, (some .int), 0, [], 0) (1, cd_X11_plan) := ⟨rfl, 11, rfl, by decide, rfl, q_ok_of rfl ok_X11_plan, (by decide +kernel)⟩
theorem pf_X11_unmet {F : Fx} {X : Sx} {sk : List (String × Nat × String)} (E : q_E F X sk) (NC : q_NC F) : q_pf1 F (yX11_unmet, cX11_unmet, 1, (some .int), 0, [], 0) (1, cd_X11_unmet) := ⟨rfl, 11, rfl, by decide, rfl, q_ok_of rfl ok_X11_unmet, (by decide +kernel)⟩
theorem pf_X11_tastes {F : Fx} {X : Sx} {sk : List (String × Nat × String)} (E : q_E F X sk) (NC : q_NC F) : q_pf1 F (yX11_tastes, cX11_tastes, 4, (some .int), 0, [], 1) (4, cd_X11_tastes) := ⟨rfl, 11, rfl, by decide, rfl, q_ok_of rfl ok_X11_tastes, (by decide +kernel)⟩
theorem pf_X11_next {F : Fx} {X : Sx} {sk : List (String × Nat × String)} (E : q_E F X sk) (NC : q_NC F) : q_pf1 F (yX11_next, cX11_next, 3, (some .int), 0, [], 0) (3, cd_X11_next) := ⟨rfl, 11, rfl, by decide, rfl, q_ok_of rfl ok_X11_next, (by decide +kernel)⟩
theorem pf_X11_harm {F : Fx} {X : Sx} {sk : List (String × Nat × String)} (E : q_E F X sk) (NC : q_NC F) : q_pf1 F (yX11_harm, cX11_harm, 1, (some .int), 0, [], 0) (1, cd_X11_harm) := ⟨rfl, 11, rfl, by decide, rfl, q_ok_of rfl ok_X11_harm, (by decide +kernel)⟩
theorem pf_X11_arranged {F : Fx} {X : Sx} {sk : List (String × Nat × String)} (E : q_E F X sk) (NC : q_NC F) : q_pf1 F (yX11_arranged, cX11_arranged, 2, (some .int), 0, [], 1) (2, cd_X11_arranged) := ⟨rfl, 11, rfl, by decide, rfl, q_ok_of rfl ok_X11_arranged, (by decide +kernel)⟩
theorem pf_X11_falls {F : Fx} {X : Sx} {sk : List (String × Nat × String)} (E : q_E F X sk) (NC : q_NC F) : q_pf1 F (yX11_falls, cX11_falls, 2, (some .int), 0, [], 1) (2, cd_X11_falls) := ⟨rfl, 11, rfl, by decide, rfl, q_ok_of rfl ok_X11_falls, (by decide +kernel)⟩
theorem pf_X11_wins {F : Fx} {X : Sx} {sk : List (String × Nat × String)} (E : q_E F X sk) (NC : q_NC F) : q_pf1 F (yX11_wins, cX11_wins, 2, (some .boolean), 0, [], 1) (2, cd_X11_wins) := ⟨rfl, 11, rfl, by decide, rfl, q_ok_of rfl ok_X11_wins, (by decide +kernel)⟩
theorem pf_X11_smallest {F : Fx} {X : Sx} {sk : List (String × Nat × String)} (E : q_E F X sk) (NC : q_NC F) : q_pf1 F (yX11_smallest, cX11_smallest, 2, (some .int), 0, [], 1) (2, cd_X11_smallest) := ⟨rfl, 11, rfl, by decide, rfl, q_ok_of rfl ok_X11_smallest, (by decide +kernel)⟩
theorem pf_X11_dummies {F : Fx} {X : Sx} {sk : List (String × Nat × String)} (E : q_E F X sk) (NC : q_NC F) : q_pf1 F (yX11_dummies, cX11_dummies, 1, (some .int), 0, [], 0) (1, cd_X11_dummies) := ⟨rfl, 11, rfl, by decide, rfl, q_ok_of rfl ok_X11_dummies, (by decide +kernel)⟩
theorem pf_X11_war {F : Fx} {X : Sx} {sk : List (String × Nat × String)} (E : q_E F X sk) (NC : q_NC F) : q_pf1 F (yX11_war, cX11_war, 4, (some .int), 0, [], 3) (4, cd_X11_war) := ⟨rfl, 11, rfl, by decide, rfl, q_ok_of rfl ok_X11_war, (by decide +kernel)⟩
theorem pf_X11_ahead {F : Fx} {X : Sx} {sk : List (String × Nat × String)} (E : q_E F X sk) (NC : q_NC F) : q_pf1 F (yX11_ahead, cX11_ahead, 4, (some .int), 0, [], 3) (4, cd_X11_ahead) := ⟨rfl, 11, rfl, by decide, rfl, q_ok_of rfl ok_X11_ahead, (by decide +kernel)⟩
theorem pf_X11_spoils {F : Fx} {X : Sx} {sk : List (String × Nat × String)} (E : q_E F X sk) (NC : q_NC F) : q_pf1 F (yX11_spoils, cX11_spoils, 4, (some .int), 0, [], 3) (4, cd_X11_spoils) := ⟨rfl, 11, rfl, by decide, rfl, q_ok_of rfl ok_X11_spoils, (by decide +kernel)⟩
theorem pf_X11_ripe {F : Fx} {X : Sx} {sk : List (String × Nat × String)} (E : q_E F X sk) (NC : q_NC F) : q_pf1 F (yX11_ripe, cX11_ripe, 4, (some .int), 0, [], 3) (4, cd_X11_ripe) := ⟨rfl, 11, rfl, by decide, rfl, q_ok_of rfl ok_X11_ripe, (by decide +kernel)⟩
theorem pf_X11_goes {F : Fx} {X : Sx} {sk : List (String × Nat × String)} (E : q_E F X sk) (NC : q_NC F) : q_pf1 F (yX11_goes, cX11_goes, 2, (some .int), 0, [], 1) (2, cd_X11_goes) := ⟨rfl, 11, rfl, by decide, rfl, q_ok_of rfl ok_X11_goes, (by decide +kernel)⟩
theorem pf_X11_wrong {F : Fx} {X : Sx} {sk : List (String × Nat × String)} (E : q_E F X sk) (NC : q_NC F) : q_pf1 F (yX11_wrong, cX11_wrong, 6, (some .int), 0, [], 1) (6, cd_X11_wrong) := ⟨rfl, 11, rfl, by decide, rfl, q_ok_of rfl ok_X11_wrong, (by decide +kernel)⟩
theorem pf_X11_whose {F : Fx} {X : Sx} {sk : List (String × Nat × String)} (E : q_E F X sk) (NC : q_NC F) : q_pf1 F (yX11_whose, cX11_whose, 3, (some .int), 0, [], 1) (3, cd_X11_whose) := ⟨rfl, 11, rfl, by decide, rfl, q_ok_of rfl ok_X11_whose, (by decide +kernel)⟩
theorem pf_X11_ring {F : Fx} {X : Sx} {sk : List (String × Nat × String)} (E : q_E F X sk) (NC : q_NC F) : q_pf1 F (yX11_ring, cX11_ring, 5, (some .int), 0, [], 1) (5, cd_X11_ring) := ⟨rfl, 11, rfl, by decide, rfl, q_ok_of rfl ok_X11_ring, (by decide +kernel)⟩
theorem pf_X11_asked {F : Fx} {X : Sx} {sk : List (String × Nat × String)} (E : q_E F X sk) (NC : q_NC F) : q_pf1 F (yX11_asked, cX11_asked, 2, (some .int), 0, [], 1) (2, cd_X11_asked) := ⟨rfl, 11, rfl, by decide, rfl, q_ok_of rfl ok_X11_asked, (by decide +kernel)⟩
theorem pf_X11_led {F : Fx} {X : Sx} {sk : List (String × Nat × String)} (E : q_E F X sk) (NC : q_NC F) : q_pf1 F (yX11_led, cX11_led, 2, (some .int), 0, [], 1) (2, cd_X11_led) := ⟨rfl, 11, rfl, by decide, rfl, q_ok_of rfl ok_X11_led, (by decide +kernel)⟩
theorem pf_X11_trial {F : Fx} {X : Sx} {sk : List (String × Nat × String)} (E : q_E F X sk) (NC : q_NC F) : q_pf1 F (yX11_trial, cX11_trial, 4, (some .int), 0, [], 2) (4, cd_X11_trial) := ⟨rfl, 11, rfl, by decide, rfl, q_ok_of rfl ok_X11_trial, (by decide +kernel)⟩
theorem pf_X11_span {F : Fx} {X : Sx} {sk : List (String × Nat × String)} (E : q_E F X sk) (NC : q_NC F) : q_pf1 F (yX11_span, cX11_span, 3, (some .int), 0, [], 2) (3, cd_X11_span) := ⟨rfl, 11, rfl, by decide, rfl, q_ok_of rfl ok_X11_span, (by decide +kernel)⟩
theorem pf_X11_log {F : Fx} {X : Sx} {sk : List (String × Nat × String)} (E : q_E F X sk) (NC : q_NC F) : q_pf1 F (yX11_log, cX11_log, 3, (some .int), 0, [], 2) (3, cd_X11_log) := ⟨rfl, 11, rfl, by decide, rfl, q_ok_of rfl ok_X11_log, (by decide +kernel)⟩
theorem pf_X11_seed {F : Fx} {X : Sx} {sk : List (String × Nat × String)} (E : q_E F X sk) (NC : q_NC F) : q_pf1 F (yX11_seed, cX11_seed, 3, (some .int), 0, [], 1) (3, cd_X11_seed) := ⟨rfl, 11, rfl, by decide, rfl, q_ok_of rfl ok_X11_seed, (by decide +kernel)⟩
theorem pf_X11_undo {F : Fx} {X : Sx} {sk : List (String × Nat × String)} (E : q_E F X sk) (NC : q_NC F) : q_pf1 F (yX11_undo, cX11_undo, 1, (some .boolean), 0, [], 0) (1, cd_X11_undo) := ⟨rfl, 11, rfl, by decide, rfl, q_ok_of rfl ok_X11_undo, (by decide +kernel)⟩
theorem pf_X11_image {F : Fx} {X : Sx} {sk : List (String × Nat × String)} (E : q_E F X sk) (NC : q_NC F) : q_pf1 F (yX11_image, cX11_image, 1, none, 0, [], 0) (1, cd_X11_image) := ⟨rfl, 11, rfl, by decide, rfl, q_ok_of rfl ok_X11_image, (by decide +kernel)⟩
theorem pf_X11_back {F : Fx} {X : Sx} {sk : List (String × Nat × String)} (E : q_E F X sk) (NC : q_NC F) : q_pf1 F (yX11_back, cX11_back, 1, (some .boolean), 0, [], 0) (1, cd_X11_back) := ⟨rfl, 11, rfl, by decide, rfl, q_ok_of rfl ok_X11_back, (by decide +kernel)⟩
theorem pf_X11_count {F : Fx} {X : Sx} {sk : List (String × Nat × String)} (E : q_E F X sk) (NC : q_NC F) : q_pf1 F (yX11_count, cX11_count, 2, (some .int), 0, [], 1) (2, cd_X11_count) := ⟨rfl, 11, rfl, by decide, rfl, q_ok_of rfl ok_X11_count, (by decide +kernel)⟩
theorem pf_X11_needJar {F : Fx} {X : Sx} {sk : List (String × Nat × String)} (E : q_E F X sk) (NC : q_NC F) : q_pf1 F (yX11_needJar, cX11_needJar, 2, none, 0, [], 1) (2, cd_X11_needJar) := ⟨rfl, 11, rfl, by decide, rfl, q_ok_of rfl ok_X11_needJar, (by decide +kernel)⟩
theorem pf_X11_needMatter {F : Fx} {X : Sx} {sk : List (String × Nat × String)} (E : q_E F X sk) (NC : q_NC F) : q_pf1 F (yX11_needMatter, cX11_needMatter, 1, none, 1, [], 1) (1, cd_X11_needMatter) := ⟨rfl, 11, rfl, by decide, rfl, q_ok_of rfl ok_X11_needMatter, (by decide +kernel)⟩
theorem pf_X11_needPlace {F : Fx} {X : Sx} {sk : List (String × Nat × String)} (E : q_E F X sk) (NC : q_NC F) : q_pf1 F (yX11_needPlace, cX11_needPlace, 1, none, 1, [], 1) (1, cd_X11_needPlace) := ⟨rfl, 11, rfl, by decide, rfl, q_ok_of rfl ok_X11_needPlace, (by decide +kernel)⟩
theorem pf_X11_needNumber {F : Fx} {X : Sx} {sk : List (String × Nat × String)} (E : q_E F X sk) (NC : q_NC F) : q_pf1 F (yX11_needNumber, cX11_needNumber, 2, none, 1, [], 2) (2, cd_X11_needNumber) := ⟨rfl, 11, rfl, by decide, rfl, q_ok_of rfl ok_X11_needNumber, (by decide +kernel)⟩
theorem pf_X11_needTwo {F : Fx} {X : Sx} {sk : List (String × Nat × String)} (E : q_E F X sk) (NC : q_NC F) : q_pf1 F (yX11_needTwo, cX11_needTwo, 4, none, 0, [], 3) (4, cd_X11_needTwo) := ⟨rfl, 11, rfl, by decide, rfl, q_ok_of rfl ok_X11_needTwo, (by decide +kernel)⟩
theorem pf_X11_needSpoon {F : Fx} {X : Sx} {sk : List (String × Nat × String)} (E : q_E F X sk) (NC : q_NC F) : q_pf1 F (yX11_needSpoon, cX11_needSpoon, 2, none, 0, [], 1) (2, cd_X11_needSpoon) := ⟨rfl, 11, rfl, by decide, rfl, q_ok_of rfl ok_X11_needSpoon, (by decide +kernel)⟩
theorem pf_X12_init {F : Fx} {X : Sx} {sk : List (String × Nat × String)} (E : q_E F X sk) (NC : q_NC F) : q_pf1 F (yX12_init, cX12_init, 1, none, 2, [], 0) (1, cd_X12_init) := ⟨rfl, 12, rfl, by decide, rfl, q_ok_of rfl ok_X12_init, (by decide +kernel)⟩
theorem pf_X12_thrown {F : Fx} {X : Sx} {sk : List (String × Nat × String)} (E : q_E F X sk) (NC : q_NC F) : q_pf1 F (yX12_thrown, cX12_thrown, 1, (some .int), 0, [], 0) (1, cd_X12_thrown) := ⟨rfl, 12, rfl, by decide, rfl, q_ok_of rfl ok_X12_thrown, (by decide +kernel)⟩
theorem pf_X12_isIn {F : Fx} {X : Sx} {sk : List (String × Nat × String)} (E : q_E F X sk) (NC : q_NC F) : q_pf1 F (yX12_isIn, cX12_isIn, 3, (some .boolean), 1, [], 3) (3, cd_X12_isIn) := ⟨rfl, 12, rfl, by decide, rfl, q_ok_of rfl ok_X12_isIn, (by decide +kernel)⟩
theorem pf_X12_lesser {F : Fx} {X : Sx} {sk : List (String × Nat × String)} (E : q_E F X sk) (NC : q_NC F) : q_pf1 F (yX12_lesser, cX12_lesser, 2, (some .int), 1, [], 2) (2, cd_X12_lesser) := ⟨rfl, 12, rfl, by decide, rfl, q_ok_of rfl ok_X12_lesser, (by decide +kernel)⟩
theorem pf_X12_greater {F : Fx} {X : Sx} {sk : List (String × Nat × String)} (E : q_E F X sk) (NC : q_NC F) : q_pf1 F (yX12_greater, cX12_greater, 2, (some .int), 1, [], 2) (2, cd_X12_greater) := ⟨rfl, 12, rfl, by decide, rfl, q_ok_of rfl ok_X12_greater, (by decide +kernel)⟩
theorem pf_X12_size {F : Fx} {X : Sx} {sk : List (String × Nat × String)} (E : q_E F X sk) (NC : q_NC F) : q_pf1 F (yX12_size, cX12_size, 1, (some .int), 1, [], 1) (1, cd_X12_size) := ⟨rfl, 12, rfl, by decide, rfl, q_ok_of rfl ok_X12_size, (by decide +kernel)⟩
theorem pf_X12_isOf {F : Fx} {X : Sx} {sk : List (String × Nat × String)} (E : q_E F X sk) (NC : q_NC F) : q_pf1 F (yX12_isOf, cX12_isOf, 2, (some .boolean), 1, [], 2) (2, cd_X12_isOf) := ⟨rfl, 12, rfl, by decide, rfl, q_ok_of rfl ok_X12_isOf, (by decide +kernel)⟩
theorem pf_X12_bits {F : Fx} {X : Sx} {sk : List (String × Nat × String)} (E : q_E F X sk) (NC : q_NC F) : q_pf1 F (yX12_bits, cX12_bits, 3, (some .int), 1, [], 1) (3, cd_X12_bits) := ⟨rfl, 12, rfl, by decide, rfl, q_ok_of rfl ok_X12_bits, (by decide +kernel)⟩
theorem pf_X12_of {F : Fx} {X : Sx} {sk : List (String × Nat × String)} (E : q_E F X sk) (NC : q_NC F) : q_pf1 F (yX12_of, cX12_of, 3, (some .int), 0, [], 2) (3, cd_X12_of) := ⟨rfl, 12, rfl, by decide, rfl, q_ok_of rfl ok_X12_of, (by decide +kernel)⟩
theorem pf_X12_has {F : Fx} {X : Sx} {sk : List (String × Nat × String)} (E : q_E F X sk) (NC : q_NC F) : q_pf1 F (yX12_has, cX12_has, 4, none, 0, [], 3) (4, cd_X12_has) := ⟨rfl, 12, rfl, by decide, rfl, q_ok_of rfl ok_X12_has, (by decide +kernel)⟩
theorem pf_X12_ofNeed {F : Fx} {X : Sx} {sk : List (String × Nat × String)} (E : q_E F X sk) (NC : q_NC F) : q_pf1 F (yX12_ofNeed, cX12_ofNeed, 3, (some .int), 0, [], 2) (3, cd_X12_ofNeed) := ⟨rfl, 12, rfl, by decide, rfl, q_ok_of rfl ok_X12_ofNeed, (by decide +kernel)⟩
theorem pf_X12_isJar {F : Fx} {X : Sx} {sk : List (String × Nat × String)} (E : q_E F X sk) (NC : q_NC F) : q_pf1 F (yX12_isJar, cX12_isJar, 2, (some .boolean), 0, [], 1) (2, cd_X12_isJar) := ⟨rfl, 12, rfl, by decide, rfl, q_ok_of rfl ok_X12_isJar, (by decide +kernel)⟩
theorem pf_X12_isMatter {F : Fx} {X : Sx} {sk : List (String × Nat × String)} (E : q_E F X sk) (NC : q_NC F) : q_pf1 F (yX12_isMatter, cX12_isMatter, 1, (some .boolean), 1, [], 1) (1, cd_X12_isMatter) := ⟨rfl, 12, rfl, by decide, rfl, q_ok_of rfl ok_X12_isMatter, (by decide +kernel)⟩
theorem pf_X12_isPlace {F : Fx} {X : Sx} {sk : List (String × Nat × String)} (E : q_E F X sk) (NC : q_NC F) : q_pf1 F (yX12_isPlace, cX12_isPlace, 1, (some .boolean), 1, [], 1) (1, cd_X12_isPlace) := ⟨rfl, 12, rfl, by decide, rfl, q_ok_of rfl ok_X12_isPlace, (by decide +kernel)⟩
theorem pf_X12_jarAt {F : Fx} {X : Sx} {sk : List (String × Nat × String)} (E : q_E F X sk) (NC : q_NC F) : q_pf1 F (yX12_jarAt, cX12_jarAt, 3, (some .int), 0, [], 1) (3, cd_X12_jarAt) := ⟨rfl, 12, rfl, by decide, rfl, q_ok_of rfl ok_X12_jarAt, (by decide +kernel)⟩
theorem pf_X12_allJars {F : Fx} {X : Sx} {sk : List (String × Nat × String)} (E : q_E F X sk) (NC : q_NC F) : q_pf1 F (yX12_allJars, cX12_allJars, 1, (some .int), 0, [], 0) (1, cd_X12_allJars) := ⟨rfl, 12, rfl, by decide, rfl, q_ok_of rfl ok_X12_allJars, (by decide +kernel)⟩
theorem pf_X12_feed {F : Fx} {X : Sx} {sk : List (String × Nat × String)} (E : q_E F X sk) (NC : q_NC F) : q_pf1 F (yX12_feed, cX12_feed, 8, (some .int), 0, [], 5) (8, cd_X12_feed) := ⟨rfl, 12, rfl, by decide, rfl, q_ok_of rfl ok_X12_feed, (by decide +kernel)⟩
theorem pf_X12_end {F : Fx} {X : Sx} {sk : List (String × Nat × String)} (E : q_E F X sk) (NC : q_NC F) : q_pf1 F (yX12_end, cX12_end, 2, (some .boolean), 0, [], 1) (2, cd_X12_end) := ⟨rfl, 12, rfl, by decide, rfl, q_ok_of rfl ok_X12_end, (by decide +kernel)⟩
theorem pf_X12_letter {F : Fx} {X : Sx} {sk : List (String × Nat × String)} (E : q_E F X sk) (NC : q_NC F) : q_pf1 F (yX12_letter, cX12_letter, 2, (some .int), 0, [], 1) (2, cd_X12_letter) := ⟨rfl, 12, rfl, by decide, rfl, q_ok_of rfl ok_X12_letter, (by decide +kernel)⟩
theorem pf_X12_skip {F : Fx} {X : Sx} {sk : List (String × Nat × String)} (E : q_E F X sk) (NC : q_NC F) : q_pf1 F (yX12_skip, cX12_skip, 1, none, 0, [], 0) (1, cd_X12_skip) := ⟨rfl, 12, rfl, by decide, rfl, q_ok_of rfl ok_X12_skip, (by decide +kernel)⟩
theorem pf_X12_isSign {F : Fx} {X : Sx} {sk : List (String × Nat × String)} (E : q_E F X sk) (NC : q_NC F) : q_pf1 F (yX12_isSign, cX12_isSign, 2, (some .boolean), 0, [], 1) (2, cd_X12_isSign) := ⟨rfl, 12, rfl, by decide, rfl, q_ok_of rfl ok_X12_isSign, (by decide +kernel)⟩
theorem pf_X12_has_ {F : Fx} {X : Sx} {sk : List (String × Nat × String)} (E : q_E F X sk) (NC : q_NC F) : q_pf1 F (yX12_has_, cX12_has_, 4, (some .boolean), 0, [], 1) (4, cd_X12_has_) := ⟨rfl, 12, rfl, by decide, rfl, q_ok_of rfl ok_X12_has_, (by decide +kernel)⟩
theorem pf_X12_wrong {F : Fx} {X : Sx} {sk : List (String × Nat × String)} (E : q_E F X sk) (NC : q_NC F) : q_pf1 F (yX12_wrong, cX12_wrong, 2, none, 0, [], 1) (2, cd_X12_wrong) := ⟨rfl, 12, rfl, by decide, rfl, q_ok_of rfl ok_X12_wrong, (by decide +kernel)⟩
theorem pf_X12_place {F : Fx} {X : Sx} {sk : List (String × Nat × String)} (E : q_E F X sk) (NC : q_NC F) : q_pf1 F (yX12_place, cX12_place, 1, (some .int), 0, [], 0) (1, cd_X12_place) := ⟨rfl, 12, rfl, by decide, rfl, q_ok_of rfl ok_X12_place, (by decide +kernel)⟩
theorem pf_X12_figures {F : Fx} {X : Sx} {sk : List (String × Nat × String)} (E : q_E F X sk) (NC : q_NC F) : q_pf1 F (yX12_figures, cX12_figures, 5, (some .int), 0, [], 2) (5, cd_X12_figures) := ⟨rfl, 12, rfl, by decide, rfl, q_ok_of rfl ok_X12_figures, (by decide +kernel)⟩
theorem pf_X12_after {F : Fx} {X : Sx} {sk : List (String × Nat × String)} (E : q_E F X sk) (NC : q_NC F) : q_pf1 F (yX12_after, cX12_after, 4, (some .int), 0, [], 3) (4, cd_X12_after) := ⟨rfl, 12, rfl, by decide, rfl, q_ok_of rfl ok_X12_after, (by decide +kernel)⟩
theorem pf_X12_liquidWord {F : Fx} {X : Sx} {sk : List (String × Nat × String)} (E : q_E F X sk) (NC : q_NC F) : q_pf1 F (yX12_liquidWord, cX12_liquidWord, 2, (some .int), 0, [], 0) (2, cd_X12_liquidWord) := ⟨rfl, 12, rfl, by decide, rfl, q_ok_of rfl ok_X12_liquidWord, (by decide +kernel)⟩
theorem pf_X12_six {F : Fx} {X : Sx} {sk : List (String × Nat × String)} (E : q_E F X sk) (NC : q_NC F) : q_pf1 F (yX12_six, cX12_six, 2, (some .int), 0, [], 0) (2, cd_X12_six) := ⟨rfl, 12, rfl, by decide, rfl, q_ok_of rfl ok_X12_six, (by decide +kernel)⟩
theorem pf_X12_jarLine {F : Fx} {X : Sx} {sk : List (String × Nat × String)} (E : q_E F X sk) (NC : q_NC F) : q_pf1 F (yX12_jarLine, cX12_jarLine, 7, none, 0, [], 1) (7, cd_X12_jarLine) := ⟨rfl, 12, rfl, by decide, rfl, q_ok_of rfl ok_X12_jarLine, (by decide +kernel)⟩
theorem pf_X12_needLine {F : Fx} {X : Sx} {sk : List (String × Nat × String)} (E : q_E F X sk) (NC : q_NC F) : q_pf1 F (yX12_needLine, cX12_needLine, 6, none, 0, [], 1) (6, cd_X12_needLine) := ⟨rfl, 12, rfl, by decide, rfl, q_ok_of rfl ok_X12_needLine, (by decide +kernel)⟩
theorem pf_X12_tells {F : Fx} {X : Sx} {sk : List (String × Nat × String)} (E : q_E F X sk) (NC : q_NC F) : q_pf1 F (yX12_tells, cX12_tells, 5, none, 0, [], 3) (5, cd_X12_tells) := ⟨rfl, 12, rfl, by decide, rfl, q_ok_of rfl ok_X12_tells, (by decide +kernel)⟩
theorem pf_X12_cabinetLine {F : Fx} {X : Sx} {sk : List (String × Nat × String)} (E : q_E F X sk) (NC : q_NC F) : q_pf1 F (yX12_cabinetLine, cX12_cabinetLine, 3, none, 0, [], 0) (3, cd_X12_cabinetLine) := ⟨rfl, 12, rfl, by decide, rfl, q_ok_of rfl ok_X12_cabinetLine, (by decide +kernel)⟩
theorem pf_X12_begins {F : Fx} {X : Sx} {sk : List (String × Nat × String)} (E : q_E F X sk) (NC : q_NC F) : q_pf1 F (yX12_begins, cX12_begins, 2, none, 0, [], 1) (2, cd_X12_begins) := ⟨rfl, 12, rfl, by decide, rfl, q_ok_of rfl ok_X12_begins, (by decide +kernel)⟩
theorem pf_X12_read {F : Fx} {X : Sx} {sk : List (String × Nat × String)} (E : q_E F X sk) (NC : q_NC F) : q_pf1 F (yX12_read, cX12_read, 4, (some .int), 0, [], 1) (4, cd_X12_read) := ⟨rfl, 12, rfl, by decide, rfl, q_ok_of rfl ok_X12_read, (by decide +kernel)⟩
theorem pf_X12_putsAside {F : Fx} {X : Sx} {sk : List (String × Nat × String)} (E : q_E F X sk) (NC : q_NC F) : q_pf1 F (yX12_putsAside, cX12_putsAside, 2, none, 0, [], 0) (2, cd_X12_putsAside) := ⟨rfl, 12, rfl, by decide, rfl, q_ok_of rfl ok_X12_putsAside, (by decide +kernel)⟩
theorem pf_X12_comesBack {F : Fx} {X : Sx} {sk : List (String × Nat × String)} (E : q_E F X sk) (NC : q_NC F) : q_pf1 F (yX12_comesBack, cX12_comesBack, 2, none, 0, [], 0) (2, cd_X12_comesBack) := ⟨rfl, 12, rfl, by decide, rfl, q_ok_of rfl ok_X12_comesBack, (by decide +kernel)⟩
theorem pf_X12_cabinet {F : Fx} {X : Sx} {sk : List (String × Nat × String)} (E : q_E F X sk) (NC : q_NC F) : q_pf1 F (yX12_cabinet, cX12_cabinet, 2, (some .int), 0, [], 0) (2, cd_X12_cabinet) := ⟨rfl, 12, rfl, by decide, rfl, q_ok_of rfl ok_X12_cabinet, (by decide +kernel)⟩
theorem pf_X12_part {F : Fx} {X : Sx} {sk : List (String × Nat × String)} (E : q_E F X sk) (NC : q_NC F) : q_pf1 F (yX12_part, cX12_part, 2, (some .int), 0, [], 0) (2, cd_X12_part) := ⟨rfl, 12, rfl, by decide, rfl, q_ok_of rfl ok_X12_part, (by decide +kernel)⟩
theorem pf_X12_sum {F : Fx} {X : Sx} {sk : List (String × Nat × String)} (E : q_E F X sk) (NC : q_NC F) : q_pf1 F (yX12_sum, cX12_sum, 2, (some .int), 0, [], 0) (2, cd_X12_sum) := ⟨rfl, 12, rfl, by decide, rfl, q_ok_of rfl ok_X12_sum, (by decide +kernel)⟩
theorem pf_X12_plain {F : Fx} {X : Sx} {sk : List (String × Nat × String)} (E : q_E F X sk) (NC : q_NC F) : q_pf1 F (yX12_plain, cX12_plain, 4, (some .boolean), 0, [], 0) (4, cd_X12_plain) := ⟨rfl, 12, rfl, by decide, rfl, q_ok_of rfl ok_X12_plain, (by decide +kernel)⟩
theorem pf_X12_atom {F : Fx} {X : Sx} {sk : List (String × Nat × String)} (E : q_E F X sk) (NC : q_NC F) : q_pf1 F (yX12_atom, cX12_atom, 4, (some .boolean), 0, [], 0) (4, cd_X12_atom) := ⟨rfl, 12, rfl, by decide, rfl, q_ok_of rfl ok_X12_atom, (by decide +kernel)⟩
theorem pf_X12_every {F : Fx} {X : Sx} {sk : List (String × Nat × String)} (E : q_E F X sk) (NC : q_NC F) : q_pf1 F (yX12_every, cX12_every, 3, (some .boolean), 0, [], 0) (3, cd_X12_every) := ⟨rfl, 12, rfl, by decide, rfl, q_ok_of rfl ok_X12_every, (by decide +kernel)⟩
theorem pf_X12_some {F : Fx} {X : Sx} {sk : List (String × Nat × String)} (E : q_E F X sk) (NC : q_NC F) : q_pf1 F (yX12_some, cX12_some, 3, (some .boolean), 0, [], 0) (3, cd_X12_some) := ⟨rfl, 12, rfl, by decide, rfl, q_ok_of rfl ok_X12_some, (by decide +kernel)⟩
theorem pf_X12_lawLine {F : Fx} {X : Sx} {sk : List (String × Nat × String)} (E : q_E F X sk) (NC : q_NC F) : q_pf1 F (yX12_lawLine, cX12_lawLine, 4, none, 0, [], 0) (4, cd_X12_lawLine) := ⟨rfl, 12, rfl, by decide, rfl, q_ok_of rfl ok_X12_lawLine, (by decide +kernel)⟩
theorem pf_X12_law {F : Fx} {X : Sx} {sk : List (String × Nat × String)} (E : q_E F X sk) (NC : q_NC F) : q_pf1 F (yX12_law, cX12_law, 3, (some .int), 0, [], 0) (3, cd_X12_law) := ⟨rfl, 12, rfl, by decide, rfl, q_ok_of rfl ok_X12_law, (by decide +kernel)⟩
theorem pf_X12_fault {F : Fx} {X : Sx} {sk : List (String × Nat × String)} (E : q_E F X sk) (NC : q_NC F) : q_pf1 F (yX12_fault, cX12_fault, 1, (some .int), 0, [], 0) (1, cd_X12_fault) := ⟨rfl, 12, rfl, by decide, rfl, q_ok_of rfl ok_X12_fault, (by decide +kernel)⟩
theorem pf_X12_asks {F : Fx} {X : Sx} {sk : List (String × Nat × String)} (E : q_E F X sk) (NC : q_NC F) : q_pf1 F (yX12_asks, cX12_asks, 6, none, 0, [], 2) (6, cd_X12_asks) := ⟨rfl, 12, rfl, by decide, rfl, q_ok_of rfl ok_X12_asks, (by decide +kernel)⟩
theorem pf_X12_adviceOf {F : Fx} {X : Sx} {sk : List (String × Nat × String)} (E : q_E F X sk) (NC : q_NC F) : q_pf1 F (yX12_adviceOf, cX12_adviceOf, 3, (some .int), 0, [], 2) (3, cd_X12_adviceOf) := ⟨rfl, 12, rfl, by decide, rfl, q_ok_of rfl ok_X12_adviceOf, (by decide +kernel)⟩
theorem pf_X12_sours {F : Fx} {X : Sx} {sk : List (String × Nat × String)} (E : q_E F X sk) (NC : q_NC F) : q_pf1 F (yX12_sours, cX12_sours, 3, none, 0, [], 0) (3, cd_X12_sours) := ⟨rfl, 12, rfl, by decide, rfl, q_ok_of rfl ok_X12_sours, (by decide +kernel)⟩
theorem pf_X12_draw {F : Fx} {X : Sx} {sk : List (String × Nat × String)} (E : q_E F X sk) (NC : q_NC F) : q_pf1 F (yX12_draw, cX12_draw, 2, (some .int), 0, [], 1) (2, cd_X12_draw) := ⟨rfl, 12, rfl, by decide, rfl, q_ok_of rfl ok_X12_draw, (by decide +kernel)⟩
theorem pf_X12_year {F : Fx} {X : Sx} {sk : List (String × Nat × String)} (E : q_E F X sk) (NC : q_NC F) : q_pf1 F (yX12_year, cX12_year, 2, none, 0, [], 0) (2, cd_X12_year) := ⟨rfl, 12, rfl, by decide, rfl, q_ok_of rfl ok_X12_year, (by decide +kernel)⟩
theorem pf_X12_passes {F : Fx} {X : Sx} {sk : List (String × Nat × String)} (E : q_E F X sk) (NC : q_NC F) : q_pf1 F (yX12_passes, cX12_passes, 4, (some .int), 0, [], 1) (4, cd_X12_passes) := ⟨rfl, 12, rfl, by decide, rfl, q_ok_of rfl ok_X12_passes, (by decide +kernel)⟩
theorem pf_X12_ahead {F : Fx} {X : Sx} {sk : List (String × Nat × String)} (E : q_E F X sk) (NC : q_NC F) : q_pf1 F (yX12_ahead, cX12_ahead, 1, none, 0, [], 0) (1, cd_X12_ahead) := ⟨rfl, 12, rfl, by decide, rfl, q_ok_of rfl ok_X12_ahead, (by decide +kernel)⟩
theorem pf_X12_clash {F : Fx} {X : Sx} {sk : List (String × Nat × String)} (E : q_E F X sk) (NC : q_NC F) : q_pf1 F (yX12_clash, cX12_clash, 4, (some .boolean), 0, [], 3) (4, cd_X12_clash) := ⟨rfl, 12, rfl, by decide, rfl, q_ok_of rfl ok_X12_clash, (by decide +kernel)⟩
theorem pf_X12_clashes {F : Fx} {X : Sx} {sk : List (String × Nat × String)} (E : q_E F X sk) (NC : q_NC F) : q_pf1 F (yX12_clashes, cX12_clashes, 5, (some .int), 0, [], 1) (5, cd_X12_clashes) := ⟨rfl, 12, rfl, by decide, rfl, q_ok_of rfl ok_X12_clashes, (by decide +kernel)⟩
theorem pf_X12_alike {F : Fx} {X : Sx} {sk : List (String × Nat × String)} (E : q_E F X sk) (NC : q_NC F) : q_pf1 F (yX12_alike, cX12_alike, 6, (some .int), 0, [], 1) (6, cd_X12_alike) := ⟨rfl, 12, rfl, by decide, rfl, q_ok_of rfl ok_X12_alike, (by decide +kernel)⟩
theorem pf_X12_seals {F : Fx} {X : Sx} {sk : List (String × Nat × String)} (E : q_E F X sk) (NC : q_NC F) : q_pf1 F (yX12_seals, cX12_seals, 4, (some .int), 0, [], 1) (4, cd_X12_seals) := ⟨rfl, 12, rfl, by decide, rfl, q_ok_of rfl ok_X12_seals, (by decide +kernel)⟩
theorem pf_X12_wonBy {F : Fx} {X : Sx} {sk : List (String × Nat × String)} (E : q_E F X sk) (NC : q_NC F) : q_pf1 F (yX12_wonBy, cX12_wonBy, 2, (some .boolean), 0, [], 1) (2, cd_X12_wonBy) := ⟨rfl, 12, rfl, by decide, rfl, q_ok_of rfl ok_X12_wonBy, (by decide +kernel)⟩
theorem pf_X12_power {F : Fx} {X : Sx} {sk : List (String × Nat × String)} (E : q_E F X sk) (NC : q_NC F) : q_pf1 F (yX12_power, cX12_power, 4, (some .int), 0, [], 1) (4, cd_X12_power) := ⟨rfl, 12, rfl, by decide, rfl, q_ok_of rfl ok_X12_power, (by decide +kernel)⟩
theorem pf_X12_jar {F : Fx} {X : Sx} {sk : List (String × Nat × String)} (E : q_E F X sk) (NC : q_NC F) : q_pf1 F (yX12_jar, cX12_jar, 3, (some .int), 0, [], 2) (3, cd_X12_jar) := ⟨rfl, 12, rfl, by decide, rfl, q_ok_of rfl ok_X12_jar, (by decide +kernel)⟩
theorem pf_X12_advice {F : Fx} {X : Sx} {sk : List (String × Nat × String)} (E : q_E F X sk) (NC : q_NC F) : q_pf1 F (yX12_advice, cX12_advice, 4, (some .int), 0, [], 3) (4, cd_X12_advice) := ⟨rfl, 12, rfl, by decide, rfl, q_ok_of rfl ok_X12_advice, (by decide +kernel)⟩
theorem pf_X12_light {F : Fx} {X : Sx} {sk : List (String × Nat × String)} (E : q_E F X sk) (NC : q_NC F) : q_pf1 F (yX12_light, cX12_light, 2, (some .int), 0, [], 1) (2, cd_X12_light) := ⟨rfl, 12, rfl, by decide, rfl, q_ok_of rfl ok_X12_light, (by decide +kernel)⟩
theorem pf_X12_answers {F : Fx} {X : Sx} {sk : List (String × Nat × String)} (E : q_E F X sk) (NC : q_NC F) : q_pf1 F (yX12_answers, cX12_answers, 5, (some .int), 0, [], 1) (5, cd_X12_answers) := ⟨rfl, 12, rfl, by decide, rfl, q_ok_of rfl ok_X12_answers, (by decide +kernel)⟩
theorem pf_X12_need {F : Fx} {X : Sx} {sk : List (String × Nat × String)} (E : q_E F X sk) (NC : q_NC F) : q_pf1 F (yX12_need, cX12_need, 3, (some .int), 0, [], 2) (3, cd_X12_need) := ⟨rfl, 12, rfl, by decide, rfl, q_ok_of rfl ok_X12_need, (by decide +kernel)⟩
theorem pf_X12_remembers {F : Fx} {X : Sx} {sk : List (String × Nat × String)} (E : q_E F X sk) (NC : q_NC F) : q_pf1 F (yX12_remembers, cX12_remembers, 2, none, 0, [], 0) (2, cd_X12_remembers) := ⟨rfl, 12, rfl, by decide, rfl, q_ok_of rfl ok_X12_remembers, (by decide +kernel)⟩
theorem pf_X12_takes {F : Fx} {X : Sx} {sk : List (String × Nat × String)} (E : q_E F X sk) (NC : q_NC F) : q_pf1 F (yX12_takes, cX12_takes, 2, none, 0, [], 1) (2, cd_X12_takes) := ⟨rfl, 12, rfl, by decide, rfl, q_ok_of rfl ok_X12_takes, (by decide +kernel)⟩
theorem pf_X12_writes {F : Fx} {X : Sx} {sk : List (String × Nat × String)} (E : q_E F X sk) (NC : q_NC F) : q_pf1 F (yX12_writes, cX12_writes, 6, none, 0, [], 4) (6, cd_X12_writes) := ⟨rfl, 12, rfl, by decide, rfl, q_ok_of rfl ok_X12_writes, (by decide +kernel)⟩
theorem pf_X12_ask {F : Fx} {X : Sx} {sk : List (String × Nat × String)} (E : q_E F X sk) (NC : q_NC F) : q_pf1 F (yX12_ask, cX12_ask, 4, (some .int), 0, [], 2) (4, cd_X12_ask) := ⟨rfl, 12, rfl, by decide, rfl, q_ok_of rfl ok_X12_ask, (by decide +kernel)⟩
theorem pf_X12_mixed {F : Fx} {X : Sx} {sk : List (String × Nat × String)} (E : q_E F X sk) (NC : q_NC F) : q_pf1 F (yX12_mixed, cX12_mixed, 4, (some .int), 0, [], 3) (4, cd_X12_mixed) := ⟨rfl, 12, rfl, by decide, rfl, q_ok_of rfl ok_X12_mixed, (by decide +kernel)⟩
theorem pf_X12_two {F : Fx} {X : Sx} {sk : List (String × Nat × String)} (E : q_E F X sk) (NC : q_NC F) : q_pf1 F (yX12_two, cX12_two, 4, (some .int), 0, [], 3) (4, cd_X12_two) := ⟨rfl, 12, rfl, by decide, rfl, q_ok_of rfl ok_X12_two, (by decide +kernel)⟩
theorem pf_X12_mix {F : Fx} {X : Sx} {sk : List (String × Nat × String)} (E : q_E F X sk) (NC : q_NC F) : q_pf1 F (yX12_mix, cX12_mix, 5, (some .int), 0, [], 3) (5, cd_X12_mix) := ⟨rfl, 12, rfl, by decide, rfl, q_ok_of rfl ok_X12_mix, (by decide +kernel)⟩
theorem pf_X12_close {F : Fx} {X : Sx} {sk : List (String × Nat × String)} (E : q_E F X sk) (NC : q_NC F) : q_pf1 F (yX12_close, cX12_close, 3, (some .boolean), 0, [], 1) (3, cd_X12_close) := ⟨rfl, 12, rfl, by decide, rfl, q_ok_of rfl ok_X12_close, (by decide +kernel)⟩
theorem pf_X12_label {F : Fx} {X : Sx} {sk : List (String × Nat × String)} (E : q_E F X sk) (NC : q_NC F) : q_pf1 F (yX12_label, cX12_label, 4, (some .int), 0, [], 2) (4, cd_X12_label) := ⟨rfl, 12, rfl, by decide, rfl, q_ok_of rfl ok_X12_label, (by decide +kernel)⟩
theorem pf_X12_move {F : Fx} {X : Sx} {sk : List (String × Nat × String)} (E : q_E F X sk) (NC : q_NC F) : q_pf1 F (yX12_move, cX12_move, 4, (some .int), 0, [], 2) (4, cd_X12_move) := ⟨rfl, 12, rfl, by decide, rfl, q_ok_of rfl ok_X12_move, (by decide +kernel)⟩
theorem pf_X12_years {F : Fx} {X : Sx} {sk : List (String × Nat × String)} (E : q_E F X sk) (NC : q_NC F) : q_pf1 F (yX12_years, cX12_years, 2, (some .int), 0, [], 1) (2, cd_X12_years) := ⟨rfl, 12, rfl, by decide, rfl, q_ok_of rfl ok_X12_years, (by decide +kernel)⟩
theorem pf_X12_mixture {F : Fx} {X : Sx} {sk : List (String × Nat × String)} (E : q_E F X sk) (NC : q_NC F) : q_pf1 F (yX12_mixture, cX12_mixture, 4, (some .int), 0, [], 3) (4, cd_X12_mixture) := ⟨rfl, 12, rfl, by decide, rfl, q_ok_of rfl ok_X12_mixture, (by decide +kernel)⟩
theorem pf_X12_best {F : Fx} {X : Sx} {sk : List (String × Nat × String)} (E : q_E F X sk) (NC : q_NC F) : q_pf1 F (yX12_best, cX12_best, 8, (some .int), 0, [], 2) (8, cd_X12_best) := ⟨rfl, 12, rfl, by decide, rfl, q_ok_of rfl ok_X12_best, (by decide +kernel)⟩
theorem pf_X12_coalition {F : Fx} {X : Sx} {sk : List (String × Nat × String)} (E : q_E F X sk) (NC : q_NC F) : q_pf1 F (yX12_coalition, cX12_coalition, 5, (some .int), 0, [], 0) (5, cd_X12_coalition) := ⟨rfl, 12, rfl, by decide, rfl, q_ok_of rfl ok_X12_coalition, (by decide +kernel)⟩
theorem pf_X12_agree {F : Fx} {X : Sx} {sk : List (String × Nat × String)} (E : q_E F X sk) (NC : q_NC F) : q_pf1 F (yX12_agree, cX12_agree, 8, (some .int), 0, [], 1) (8, cd_X12_agree) := ⟨rfl, 12, rfl, by decide, rfl, q_ok_of rfl ok_X12_agree, (by decide +kernel)⟩
theorem pf_X12_cover {F : Fx} {X : Sx} {sk : List (String × Nat × String)} (E : q_E F X sk) (NC : q_NC F) : q_pf1 F (yX12_cover, cX12_cover, 6, (some .int), 0, [], 1) (6, cd_X12_cover) := ⟨rfl, 12, rfl, by decide, rfl, q_ok_of rfl ok_X12_cover, (by decide +kernel)⟩
theorem pf_X12_finds {F : Fx} {X : Sx} {sk : List (String × Nat × String)} (E : q_E F X sk) (NC : q_NC F) : q_pf1 F (yX12_finds, cX12_finds, 6, (some .boolean), 0, [], 3) (6, cd_X12_finds) := ⟨rfl, 12, rfl, by decide, rfl, q_ok_of rfl ok_X12_finds, (by decide +kernel)⟩
theorem pf_X12_areMet {F : Fx} {X : Sx} {sk : List (String × Nat × String)} (E : q_E F X sk) (NC : q_NC F) : q_pf1 F (yX12_areMet, cX12_areMet, 3, (some .boolean), 0, [], 1) (3, cd_X12_areMet) := ⟨rfl, 12, rfl, by decide, rfl, q_ok_of rfl ok_X12_areMet, (by decide +kernel)⟩
theorem pf_X12_plan {F : Fx} {X : Sx} {sk : List (String × Nat × String)} (E : q_E F X sk) (NC : q_NC F) : q_pf1 F (yX12_plan, cX12_plan, 3, (some .int), 0, [], 0) (3, cd_X12_plan) := ⟨rfl, 12, rfl, by decide, rfl, q_ok_of rfl ok_X12_plan, (by decide +kernel)⟩
theorem pf_X12_unmet {F : Fx} {X : Sx} {sk : List (String × Nat × String)} (E : q_E F X sk) (NC : q_NC F) : q_pf1 F (yX12_unmet, cX12_unmet, 2, (some .int), 0, [], 0) (2, cd_X12_unmet) := ⟨rfl, 12, rfl, by decide, rfl, q_ok_of rfl ok_X12_unmet, (by decide +kernel)⟩
theorem pf_X12_tasted {F : Fx} {X : Sx} {sk : List (String × Nat × String)} (E : q_E F X sk) (NC : q_NC F) : q_pf1 F (yX12_tasted, cX12_tasted, 8, (some .int), 0, [], 1) (8, cd_X12_tasted) := ⟨rfl, 12, rfl, by decide, rfl, q_ok_of rfl ok_X12_tasted, (by decide +kernel)⟩
theorem pf_X12_tastes {F : Fx} {X : Sx} {sk : List (String × Nat × String)} (E : q_E F X sk) (NC : q_NC F) : q_pf1 F (yX12_tastes, cX12_tastes, 3, (some .int), 0, [], 1) (3, cd_X12_tastes) := ⟨rfl, 12, rfl, by decide, rfl, q_ok_of rfl ok_X12_tastes, (by decide +kernel)⟩
theorem pf_X12_group {F : Fx} {X : Sx} {sk : List (String × Nat × String)} (E : q_E F X sk) (NC : q_NC F) : q_pf1 F (yX12_group, cX12_group, 7, (some .int), 0, [], 2) (7, cd_X12_group) := ⟨rfl, 12, rfl, by decide, rfl, q_ok_of rfl ok_X12_group, (by decide +kernel)⟩
theorem pf_X12_next {F : Fx} {X : Sx} {sk : List (String × Nat × String)} (E : q_E F X sk) (NC : q_NC F) : q_pf1 F (yX12_next, cX12_next, 5, (some .int), 0, [], 0) (5, cd_X12_next) := ⟨rfl, 12, rfl, by decide, rfl, q_ok_of rfl ok_X12_next, (by decide +kernel)⟩
theorem pf_X12_harm {F : Fx} {X : Sx} {sk : List (String × Nat × String)} (E : q_E F X sk) (NC : q_NC F) : q_pf1 F (yX12_harm, cX12_harm, 3, (some .int), 0, [], 0) (3, cd_X12_harm) := ⟨rfl, 12, rfl, by decide, rfl, q_ok_of rfl ok_X12_harm, (by decide +kernel)⟩
theorem pf_X12_from {F : Fx} {X : Sx} {sk : List (String × Nat × String)} (E : q_E F X sk) (NC : q_NC F) : q_pf1 F (yX12_from, cX12_from, 3, (some .int), 0, [], 2) (3, cd_X12_from) := ⟨rfl, 12, rfl, by decide, rfl, q_ok_of rfl ok_X12_from, (by decide +kernel)⟩
theorem pf_X12_harmAt {F : Fx} {X : Sx} {sk : List (String × Nat × String)} (E : q_E F X sk) (NC : q_NC F) : q_pf1 F (yX12_harmAt, cX12_harmAt, 3, (some .int), 0, [], 2) (3, cd_X12_harmAt) := ⟨rfl, 12, rfl, by decide, rfl, q_ok_of rfl ok_X12_harmAt, (by decide +kernel)⟩
theorem pf_X12_arranged {F : Fx} {X : Sx} {sk : List (String × Nat × String)} (E : q_E F X sk) (NC : q_NC F) : q_pf1 F (yX12_arranged, cX12_arranged, 6, (some .int), 0, [], 1) (6, cd_X12_arranged) := ⟨rfl, 12, rfl, by decide, rfl, q_ok_of rfl ok_X12_arranged, (by decide +kernel)⟩
theorem pf_X12_fallsFrom {F : Fx} {X : Sx} {sk : List (String × Nat × String)} (E : q_E F X sk) (NC : q_NC F) : q_pf1 F (yX12_fallsFrom, cX12_fallsFrom, 4, (some .int), 0, [], 1) (4, cd_X12_fallsFrom) := ⟨rfl, 12, rfl, by decide, rfl, q_ok_of rfl ok_X12_fallsFrom, (by decide +kernel)⟩
theorem pf_X12_falls {F : Fx} {X : Sx} {sk : List (String × Nat × String)} (E : q_E F X sk) (NC : q_NC F) : q_pf1 F (yX12_falls, cX12_falls, 4, (some .int), 0, [], 1) (4, cd_X12_falls) := ⟨rfl, 12, rfl, by decide, rfl, q_ok_of rfl ok_X12_falls, (by decide +kernel)⟩
theorem pf_X12_wins {F : Fx} {X : Sx} {sk : List (String × Nat × String)} (E : q_E F X sk) (NC : q_NC F) : q_pf1 F (yX12_wins, cX12_wins, 2, (some .boolean), 0, [], 1) (2, cd_X12_wins) := ⟨rfl, 12, rfl, by decide, rfl, q_ok_of rfl ok_X12_wins, (by decide +kernel)⟩
theorem pf_X12_smallest {F : Fx} {X : Sx} {sk : List (String × Nat × String)} (E : q_E F X sk) (NC : q_NC F) : q_pf1 F (yX12_smallest, cX12_smallest, 4, (some .int), 0, [], 1) (4, cd_X12_smallest) := ⟨rfl, 12, rfl, by decide, rfl, q_ok_of rfl ok_X12_smallest, (by decide +kernel)⟩
theorem pf_X12_dummies {F : Fx} {X : Sx} {sk : List (String × Nat × String)} (E : q_E F X sk) (NC : q_NC F) : q_pf1 F (yX12_dummies, cX12_dummies, 3, (some .int), 0, [], 0) (3, cd_X12_dummies) := ⟨rfl, 12, rfl, by decide, rfl, q_ok_of rfl ok_X12_dummies, (by decide +kernel)⟩
theorem pf_X12_worth {F : Fx} {X : Sx} {sk : List (String × Nat × String)} (E : q_E F X sk) (NC : q_NC F) : q_pf1 F (yX12_worth, cX12_worth, 3, (some .int), 1, [], 3) (3, cd_X12_worth) := ⟨rfl, 12, rfl, by decide, rfl, q_ok_of rfl ok_X12_worth, (by decide +kernel)⟩
theorem pf_X12_war {F : Fx} {X : Sx} {sk : List (String × Nat × String)} (E : q_E F X sk) (NC : q_NC F) : q_pf1 F (yX12_war, cX12_war, 10, (some .int), 0, [], 3) (10, cd_X12_war) := ⟨rfl, 12, rfl, by decide, rfl, q_ok_of rfl ok_X12_war, (by decide +kernel)⟩
theorem pf_X12_ahead_ {F : Fx} {X : Sx} {sk : List (String × Nat × String)} (E : q_E F X sk) (NC : q_NC F) : q_pf1 F (yX12_ahead_, cX12_ahead_, 5, (some .int), 0, [], 3) (5, cd_X12_ahead_) := ⟨rfl, 12, rfl, by decide, rfl, q_ok_of rfl ok_X12_ahead_, (by decide +kernel)⟩
theorem pf_X12_spoils {F : Fx} {X : Sx} {sk : List (String × Nat × String)} (E : q_E F X sk) (NC : q_NC F) : q_pf1 F (yX12_spoils, cX12_spoils, 6, (some .int), 0, [], 3) (6, cd_X12_spoils) := ⟨rfl, 12, rfl, by decide, rfl, q_ok_of rfl ok_X12_spoils, (by decide +kernel)⟩
theorem pf_X12_ripe {F : Fx} {X : Sx} {sk : List (String × Nat × String)} (E : q_E F X sk) (NC : q_NC F) : q_pf1 F (yX12_ripe, cX12_ripe, 8, (some .int), 0, [], 3) (8, cd_X12_ripe) := ⟨rfl, 12, rfl, by decide, rfl, q_ok_of rfl ok_X12_ripe, (by decide +kernel)⟩
theorem pf_X12_goes {F : Fx} {X : Sx} {sk : List (String × Nat × String)} (E : q_E F X sk) (NC : q_NC F) : q_pf1 F (yX12_goes, cX12_goes, 4, (some .int), 0, [], 1) (4, cd_X12_goes) := ⟨rfl, 12, rfl, by decide, rfl, q_ok_of rfl ok_X12_goes, (by decide +kernel)⟩
theorem pf_X12_wrong_ {F : Fx} {X : Sx} {sk : List (String × Nat × String)} (E : q_E F X sk) (NC : q_NC F) : q_pf1 F (yX12_wrong_, cX12_wrong_, 4, (some .int), 0, [], 1) (4, cd_X12_wrong_) := ⟨rfl, 12, rfl, by decide, rfl, q_ok_of rfl ok_X12_wrong_, (by decide +kernel)⟩
theorem pf_X12_whose {F : Fx} {X : Sx} {sk : List (String × Nat × String)} (E : q_E F X sk) (NC : q_NC F) : q_pf1 F (yX12_whose, cX12_whose, 3, (some .int), 0, [], 1) (3, cd_X12_whose) := ⟨rfl, 12, rfl, by decide, rfl, q_ok_of rfl ok_X12_whose, (by decide +kernel)⟩
theorem pf_X12_ring {F : Fx} {X : Sx} {sk : List (String × Nat × String)} (E : q_E F X sk) (NC : q_NC F) : q_pf1 F (yX12_ring, cX12_ring, 4, (some .int), 0, [], 1) (4, cd_X12_ring) := ⟨rfl, 12, rfl, by decide, rfl, q_ok_of rfl ok_X12_ring, (by decide +kernel)⟩
theorem pf_X12_logged {F : Fx} {X : Sx} {sk : List (String × Nat × String)} (E : q_E F X sk) (NC : q_NC F) : q_pf1 F (yX12_logged, cX12_logged, 3, (some .int), 0, [], 2) (3, cd_X12_logged) := ⟨rfl, 12, rfl, by decide, rfl, q_ok_of rfl ok_X12_logged, (by decide +kernel)⟩
theorem pf_X12_often {F : Fx} {X : Sx} {sk : List (String × Nat × String)} (E : q_E F X sk) (NC : q_NC F) : q_pf1 F (yX12_often, cX12_often, 4, (some .int), 0, [], 1) (4, cd_X12_often) := ⟨rfl, 12, rfl, by decide, rfl, q_ok_of rfl ok_X12_often, (by decide +kernel)⟩
theorem pf_X12_asked {F : Fx} {X : Sx} {sk : List (String × Nat × String)} (E : q_E F X sk) (NC : q_NC F) : q_pf1 F (yX12_asked, cX12_asked, 5, (some .int), 0, [], 1) (5, cd_X12_asked) := ⟨rfl, 12, rfl, by decide, rfl, q_ok_of rfl ok_X12_asked, (by decide +kernel)⟩
theorem pf_X12_led {F : Fx} {X : Sx} {sk : List (String × Nat × String)} (E : q_E F X sk) (NC : q_NC F) : q_pf1 F (yX12_led, cX12_led, 3, (some .int), 0, [], 1) (3, cd_X12_led) := ⟨rfl, 12, rfl, by decide, rfl, q_ok_of rfl ok_X12_led, (by decide +kernel)⟩
theorem pf_X12_spoons {F : Fx} {X : Sx} {sk : List (String × Nat × String)} (E : q_E F X sk) (NC : q_NC F) : q_pf1 F (yX12_spoons, cX12_spoons, 3, (some .int), 0, [], 0) (3, cd_X12_spoons) := ⟨rfl, 12, rfl, by decide, rfl, q_ok_of rfl ok_X12_spoons, (by decide +kernel)⟩
theorem pf_X12_trial {F : Fx} {X : Sx} {sk : List (String × Nat × String)} (E : q_E F X sk) (NC : q_NC F) : q_pf1 F (yX12_trial, cX12_trial, 5, (some .int), 0, [], 2) (5, cd_X12_trial) := ⟨rfl, 12, rfl, by decide, rfl, q_ok_of rfl ok_X12_trial, (by decide +kernel)⟩
theorem pf_X12_span {F : Fx} {X : Sx} {sk : List (String × Nat × String)} (E : q_E F X sk) (NC : q_NC F) : q_pf1 F (yX12_span, cX12_span, 7, (some .int), 0, [], 2) (7, cd_X12_span) := ⟨rfl, 12, rfl, by decide, rfl, q_ok_of rfl ok_X12_span, (by decide +kernel)⟩
theorem pf_X12_log {F : Fx} {X : Sx} {sk : List (String × Nat × String)} (E : q_E F X sk) (NC : q_NC F) : q_pf1 F (yX12_log, cX12_log, 3, (some .int), 0, [], 2) (3, cd_X12_log) := ⟨rfl, 12, rfl, by decide, rfl, q_ok_of rfl ok_X12_log, (by decide +kernel)⟩
theorem pf_X12_seed {F : Fx} {X : Sx} {sk : List (String × Nat × String)} (E : q_E F X sk) (NC : q_NC F) : q_pf1 F (yX12_seed, cX12_seed, 3, (some .int), 0, [], 1) (3, cd_X12_seed) := ⟨rfl, 12, rfl, by decide, rfl, q_ok_of rfl ok_X12_seed, (by decide +kernel)⟩
theorem pf_X12_undo {F : Fx} {X : Sx} {sk : List (String × Nat × String)} (E : q_E F X sk) (NC : q_NC F) : q_pf1 F (yX12_undo, cX12_undo, 2, (some .boolean), 0, [], 0) (2, cd_X12_undo) := ⟨rfl, 12, rfl, by decide, rfl, q_ok_of rfl ok_X12_undo, (by decide +kernel)⟩
theorem pf_X12_image {F : Fx} {X : Sx} {sk : List (String × Nat × String)} (E : q_E F X sk) (NC : q_NC F) : q_pf1 F (yX12_image, cX12_image, 2, none, 0, [], 0) (2, cd_X12_image) := ⟨rfl, 12, rfl, by decide, rfl, q_ok_of rfl ok_X12_image, (by decide +kernel)⟩
theorem pf_X12_back {F : Fx} {X : Sx} {sk : List (String × Nat × String)} (E : q_E F X sk) (NC : q_NC F) : q_pf1 F (yX12_back, cX12_back, 2, (some .boolean), 0, [], 0) (2, cd_X12_back) := ⟨rfl, 12, rfl, by decide, rfl, q_ok_of rfl ok_X12_back, (by decide +kernel)⟩
theorem pf_X12_opens {F : Fx} {X : Sx} {sk : List (String × Nat × String)} (E : q_E F X sk) (NC : q_NC F) : q_pf1 F (yX12_opens, cX12_opens, 3, (some .int), 0, [], 0) (3, cd_X12_opens) := ⟨rfl, 12, rfl, by decide, rfl, q_ok_of rfl ok_X12_opens, (by decide +kernel)⟩
theorem pf_X12_count {F : Fx} {X : Sx} {sk : List (String × Nat × String)} (E : q_E F X sk) (NC : q_NC F) : q_pf1 F (yX12_count, cX12_count, 2, (some .int), 0, [], 1) (2, cd_X12_count) := ⟨rfl, 12, rfl, by decide, rfl, q_ok_of rfl ok_X12_count, (by decide +kernel)⟩
theorem pf_J6_bitCount_0f7a4 {F : Fx} {X : Sx} {sk : List (String × Nat × String)} (E : q_E F X sk) (NC : q_NC F) : q_pf1 F (yJ6_bitCount_0f7a4, cJ6_bitCount_0f7a4, 1, (some .int), 1, [], 1) (1, cd_J6_bitCount_0f7a4) := ⟨rfl, 14, rfl, by decide, rfl, q_ok_of rfl ok_J6_bitCount_0f7a4, (by decide +kernel)⟩
theorem pf_J9_floorMod_7cf53 {F : Fx} {X : Sx} {sk : List (String × Nat × String)} (E : q_E F X sk) (NC : q_NC F) : q_pf1 F (yJ9_floorMod_7cf53, cJ9_floorMod_7cf53, 3, (some .int), 1, [], 2) (3, cd_J9_floorMod_7cf53) := ⟨rfl, 15, rfl, by decide, rfl, q_ok_of rfl ok_J9_floorMod_7cf53, (by decide +kernel)⟩
theorem pf_L_cabinet {F : Fx} {X : Sx} {sk : List (String × Nat × String)} (E : q_E F X sk) (NC : q_NC F) : q_pf1 F (yL_cabinet, cL_cabinet, 3, (some .int), 4, [(0, 8, 11, 13), (0, 8, 14, 15)], 2) (3, cd_L_cabinet) := ⟨rfl, 13, rfl, by decide, rfl, q_ok_of rfl ok_L_cabinet, (⟨by decide +kernel, rfl, hk_L_cabinet E NC⟩)⟩
theorem pf_L_law {F : Fx} {X : Sx} {sk : List (String × Nat × String)} (E : q_E F X sk) (NC : q_NC F) : q_pf1 F (yL_law, cL_law, 3, (some .int), 4, [(0, 8, 11, 13)], 2) (3, cd_L_law) := ⟨rfl, 13, rfl, by decide, rfl, q_ok_of rfl ok_L_law, (⟨by decide +kernel, rfl, hk_L_law E NC⟩)⟩
theorem pf_L_jar {F : Fx} {X : Sx} {sk : List (String × Nat × String)} (E : q_E F X sk) (NC : q_NC F) : q_pf1 F (yL_jar, cL_jar, 5, (some .int), 4, [(0, 10, 13, 24), (0, 10, 17, 26)], 4) (5, cd_L_jar) := ⟨rfl, 13, rfl, by decide, rfl, q_ok_of rfl ok_L_jar, (⟨by decide +kernel, rfl, hk_L_jar E NC⟩)⟩
theorem pf_L_advice {F : Fx} {X : Sx} {sk : List (String × Nat × String)} (E : q_E F X sk) (NC : q_NC F) : q_pf1 F (yL_advice, cL_advice, 6, (some .int), 4, [(0, 12, 15, 24)], 5) (6, cd_L_advice) := ⟨rfl, 13, rfl, by decide, rfl, q_ok_of rfl ok_L_advice, (⟨by decide +kernel, rfl, hk_L_advice E NC⟩)⟩
theorem pf_L_light {F : Fx} {X : Sx} {sk : List (String × Nat × String)} (E : q_E F X sk) (NC : q_NC F) : q_pf1 F (yL_light, cL_light, 4, (some .int), 4, [(0, 9, 12, 24)], 3) (4, cd_L_light) := ⟨rfl, 13, rfl, by decide, rfl, q_ok_of rfl ok_L_light, (⟨by decide +kernel, rfl, hk_L_light E NC⟩)⟩
theorem pf_L_need {F : Fx} {X : Sx} {sk : List (String × Nat × String)} (E : q_E F X sk) (NC : q_NC F) : q_pf1 F (yL_need, cL_need, 5, (some .int), 4, [(0, 10, 13, 24), (0, 10, 17, 26)], 4) (5, cd_L_need) := ⟨rfl, 13, rfl, by decide, rfl, q_ok_of rfl ok_L_need, (⟨by decide +kernel, rfl, hk_L_need E NC⟩)⟩
theorem pf_L_ask {F : Fx} {X : Sx} {sk : List (String × Nat × String)} (E : q_E F X sk) (NC : q_NC F) : q_pf1 F (yL_ask, cL_ask, 5, (some .int), 4, [(0, 10, 13, 24), (0, 10, 17, 42)], 4) (5, cd_L_ask) := ⟨rfl, 13, rfl, by decide, rfl, q_ok_of rfl ok_L_ask, (⟨by decide +kernel, rfl, hk_L_ask E NC⟩)⟩
theorem pf_L_mix {F : Fx} {X : Sx} {sk : List (String × Nat × String)} (E : q_E F X sk) (NC : q_NC F) : q_pf1 F (yL_mix, cL_mix, 6, (some .int), 4, [(0, 12, 15, 24), (0, 12, 19, 13), (0, 12, 23, 42)], 5) (6, cd_L_mix) := ⟨rfl, 13, rfl, by decide, rfl, q_ok_of rfl ok_L_mix, (⟨by decide +kernel, rfl, hk_L_mix E NC⟩)⟩
theorem pf_L_close {F : Fx} {X : Sx} {sk : List (String × Nat × String)} (E : q_E F X sk) (NC : q_NC F) : q_pf1 F (yL_close, cL_close, 4, (some .int), 4, [(0, 16, 19, 24)], 3) (4, cd_L_close) := ⟨rfl, 13, rfl, by decide, rfl, q_ok_of rfl ok_L_close, (⟨by decide +kernel, rfl, hk_L_close E NC⟩)⟩
theorem pf_L_label {F : Fx} {X : Sx} {sk : List (String × Nat × String)} (E : q_E F X sk) (NC : q_NC F) : q_pf1 F (yL_label, cL_label, 5, (some .int), 4, [(0, 10, 13, 24)], 4) (5, cd_L_label) := ⟨rfl, 13, rfl, by decide, rfl, q_ok_of rfl ok_L_label, (⟨by decide +kernel, rfl, hk_L_label E NC⟩)⟩
theorem pf_L_move {F : Fx} {X : Sx} {sk : List (String × Nat × String)} (E : q_E F X sk) (NC : q_NC F) : q_pf1 F (yL_move, cL_move, 5, (some .int), 4, [(0, 10, 13, 24)], 4) (5, cd_L_move) := ⟨rfl, 13, rfl, by decide, rfl, q_ok_of rfl ok_L_move, (⟨by decide +kernel, rfl, hk_L_move E NC⟩)⟩
theorem pf_L_years {F : Fx} {X : Sx} {sk : List (String × Nat × String)} (E : q_E F X sk) (NC : q_NC F) : q_pf1 F (yL_years, cL_years, 4, (some .int), 4, [(0, 9, 12, 13)], 3) (4, cd_L_years) := ⟨rfl, 13, rfl, by decide, rfl, q_ok_of rfl ok_L_years, (⟨by decide +kernel, rfl, hk_L_years E NC⟩)⟩
theorem pf_L_mixture {F : Fx} {X : Sx} {sk : List (String × Nat × String)} (E : q_E F X sk) (NC : q_NC F) : q_pf1 F (yL_mixture, cL_mixture, 6, (some .int), 4, [(0, 12, 15, 24), (0, 12, 19, 13)], 5) (6, cd_L_mixture) := ⟨rfl, 13, rfl, by decide, rfl, q_ok_of rfl ok_L_mixture, (⟨by decide +kernel, rfl, hk_L_mixture E NC⟩)⟩
theorem pf_L_best {F : Fx} {X : Sx} {sk : List (String × Nat × String)} (E : q_E F X sk) (NC : q_NC F) : q_pf1 F (yL_best, cL_best, 5, (some .int), 4, [(0, 10, 13, 24), (0, 10, 17, 13)], 4) (5, cd_L_best) := ⟨rfl, 13, rfl, by decide, rfl, q_ok_of rfl ok_L_best, (⟨by decide +kernel, rfl, hk_L_best E NC⟩)⟩
theorem pf_L_cover {F : Fx} {X : Sx} {sk : List (String × Nat × String)} (E : q_E F X sk) (NC : q_NC F) : q_pf1 F (yL_cover, cL_cover, 4, (some .int), 4, [(0, 9, 12, 13)], 3) (4, cd_L_cover) := ⟨rfl, 13, rfl, by decide, rfl, q_ok_of rfl ok_L_cover, (⟨by decide +kernel, rfl, hk_L_cover E NC⟩)⟩
theorem pf_L_tastes {F : Fx} {X : Sx} {sk : List (String × Nat × String)} (E : q_E F X sk) (NC : q_NC F) : q_pf1 F (yL_tastes, cL_tastes, 4, (some .int), 4, [(0, 9, 12, 13)], 3) (4, cd_L_tastes) := ⟨rfl, 13, rfl, by decide, rfl, q_ok_of rfl ok_L_tastes, (⟨by decide +kernel, rfl, hk_L_tastes E NC⟩)⟩
theorem pf_L_next {F : Fx} {X : Sx} {sk : List (String × Nat × String)} (E : q_E F X sk) (NC : q_NC F) : q_pf1 F (yL_next, cL_next, 3, (some .int), 4, [(0, 8, 11, 13)], 2) (3, cd_L_next) := ⟨rfl, 13, rfl, by decide, rfl, q_ok_of rfl ok_L_next, (⟨by decide +kernel, rfl, hk_L_next E NC⟩)⟩
theorem pf_L_arranged {F : Fx} {X : Sx} {sk : List (String × Nat × String)} (E : q_E F X sk) (NC : q_NC F) : q_pf1 F (yL_arranged, cL_arranged, 4, (some .int), 4, [(0, 9, 12, 24)], 3) (4, cd_L_arranged) := ⟨rfl, 13, rfl, by decide, rfl, q_ok_of rfl ok_L_arranged, (⟨by decide +kernel, rfl, hk_L_arranged E NC⟩)⟩
theorem pf_L_falls {F : Fx} {X : Sx} {sk : List (String × Nat × String)} (E : q_E F X sk) (NC : q_NC F) : q_pf1 F (yL_falls, cL_falls, 4, (some .int), 4, [(0, 9, 12, 24)], 3) (4, cd_L_falls) := ⟨rfl, 13, rfl, by decide, rfl, q_ok_of rfl ok_L_falls, (⟨by decide +kernel, rfl, hk_L_falls E NC⟩)⟩
theorem pf_L_war {F : Fx} {X : Sx} {sk : List (String × Nat × String)} (E : q_E F X sk) (NC : q_NC F) : q_pf1 F (yL_war, cL_war, 6, (some .int), 4, [(0, 12, 15, 24), (0, 12, 19, 13)], 5) (6, cd_L_war) := ⟨rfl, 13, rfl, by decide, rfl, q_ok_of rfl ok_L_war, (⟨by decide +kernel, rfl, hk_L_war E NC⟩)⟩
theorem pf_L_ahead {F : Fx} {X : Sx} {sk : List (String × Nat × String)} (E : q_E F X sk) (NC : q_NC F) : q_pf1 F (yL_ahead, cL_ahead, 6, (some .int), 4, [(0, 12, 15, 24), (0, 12, 19, 13), (0, 12, 23, 26)], 5) (6, cd_L_ahead) := ⟨rfl, 13, rfl, by decide, rfl, q_ok_of rfl ok_L_ahead, (⟨by decide +kernel, rfl, hk_L_ahead E NC⟩)⟩
theorem pf_L_spoils {F : Fx} {X : Sx} {sk : List (String × Nat × String)} (E : q_E F X sk) (NC : q_NC F) : q_pf1 F (yL_spoils, cL_spoils, 6, (some .int), 4, [(0, 12, 15, 24), (0, 12, 19, 13)], 5) (6, cd_L_spoils) := ⟨rfl, 13, rfl, by decide, rfl, q_ok_of rfl ok_L_spoils, (⟨by decide +kernel, rfl, hk_L_spoils E NC⟩)⟩
theorem pf_L_ripe {F : Fx} {X : Sx} {sk : List (String × Nat × String)} (E : q_E F X sk) (NC : q_NC F) : q_pf1 F (yL_ripe, cL_ripe, 6, (some .int), 4, [(0, 12, 15, 24)], 5) (6, cd_L_ripe) := ⟨rfl, 13, rfl, by decide, rfl, q_ok_of rfl ok_L_ripe, (⟨by decide +kernel, rfl, hk_L_ripe E NC⟩)⟩
theorem pf_L_goes {F : Fx} {X : Sx} {sk : List (String × Nat × String)} (E : q_E F X sk) (NC : q_NC F) : q_pf1 F (yL_goes, cL_goes, 4, (some .int), 4, [(0, 9, 12, 24)], 3) (4, cd_L_goes) := ⟨rfl, 13, rfl, by decide, rfl, q_ok_of rfl ok_L_goes, (⟨by decide +kernel, rfl, hk_L_goes E NC⟩)⟩
theorem pf_L_whose {F : Fx} {X : Sx} {sk : List (String × Nat × String)} (E : q_E F X sk) (NC : q_NC F) : q_pf1 F (yL_whose, cL_whose, 4, (some .int), 4, [(0, 9, 12, 24)], 3) (4, cd_L_whose) := ⟨rfl, 13, rfl, by decide, rfl, q_ok_of rfl ok_L_whose, (⟨by decide +kernel, rfl, hk_L_whose E NC⟩)⟩
theorem pf_L_ring {F : Fx} {X : Sx} {sk : List (String × Nat × String)} (E : q_E F X sk) (NC : q_NC F) : q_pf1 F (yL_ring, cL_ring, 4, (some .int), 4, [(0, 9, 12, 24)], 3) (4, cd_L_ring) := ⟨rfl, 13, rfl, by decide, rfl, q_ok_of rfl ok_L_ring, (⟨by decide +kernel, rfl, hk_L_ring E NC⟩)⟩
theorem pf_L_asked {F : Fx} {X : Sx} {sk : List (String × Nat × String)} (E : q_E F X sk) (NC : q_NC F) : q_pf1 F (yL_asked, cL_asked, 4, (some .int), 4, [(0, 9, 12, 24)], 3) (4, cd_L_asked) := ⟨rfl, 13, rfl, by decide, rfl, q_ok_of rfl ok_L_asked, (⟨by decide +kernel, rfl, hk_L_asked E NC⟩)⟩
theorem pf_L_led {F : Fx} {X : Sx} {sk : List (String × Nat × String)} (E : q_E F X sk) (NC : q_NC F) : q_pf1 F (yL_led, cL_led, 4, (some .int), 4, [(0, 9, 12, 24)], 3) (4, cd_L_led) := ⟨rfl, 13, rfl, by decide, rfl, q_ok_of rfl ok_L_led, (⟨by decide +kernel, rfl, hk_L_led E NC⟩)⟩
theorem pf_L_trial {F : Fx} {X : Sx} {sk : List (String × Nat × String)} (E : q_E F X sk) (NC : q_NC F) : q_pf1 F (yL_trial, cL_trial, 5, (some .int), 4, [(0, 10, 13, 13)], 4) (5, cd_L_trial) := ⟨rfl, 13, rfl, by decide, rfl, q_ok_of rfl ok_L_trial, (⟨by decide +kernel, rfl, hk_L_trial E NC⟩)⟩
theorem pf_L_span {F : Fx} {X : Sx} {sk : List (String × Nat × String)} (E : q_E F X sk) (NC : q_NC F) : q_pf1 F (yL_span, cL_span, 5, (some .int), 4, [(0, 10, 13, 13)], 4) (5, cd_L_span) := ⟨rfl, 13, rfl, by decide, rfl, q_ok_of rfl ok_L_span, (⟨by decide +kernel, rfl, hk_L_span E NC⟩)⟩
theorem pf_L_log {F : Fx} {X : Sx} {sk : List (String × Nat × String)} (E : q_E F X sk) (NC : q_NC F) : q_pf1 F (yL_log, cL_log, 5, (some .int), 4, [(0, 10, 13, 26)], 4) (5, cd_L_log) := ⟨rfl, 13, rfl, by decide, rfl, q_ok_of rfl ok_L_log, (⟨by decide +kernel, rfl, hk_L_log E NC⟩)⟩
set_option maxRecDepth 100000 in
theorem q_pc0 {F : Fx} {X : Sx} {sk : List (String × Nat × String)} (E : q_E F X sk) (NC : q_NC F) : ∀ x ∈ q_mt0.zip q_pg0, q_pf1 F x.1 x.2 := List.forall_mem_cons.mpr ⟨pf_X0_init E NC, List.forall_mem_cons.mpr ⟨pf_X0_readText E NC, List.forall_mem_cons.mpr ⟨pf_X0_readLine E NC, List.forall_mem_cons.mpr ⟨pf_X0_readJar E NC, List.forall_mem_cons.mpr ⟨pf_X0_takeNumber E NC, List.forall_mem_cons.mpr ⟨pf_X0_takeFreePlace E NC, List.forall_mem_cons.mpr ⟨pf_X0_takeViews E NC, List.forall_mem_cons.mpr ⟨pf_X0_readNeed E NC, List.forall_mem_cons.mpr ⟨pf_X0_readLight E NC, List.forall_mem_cons.mpr ⟨pf_X0_readQuota E NC, List.forall_mem_cons.mpr ⟨pf_X0_readPeel E NC, List.forall_mem_cons.mpr ⟨pf_X0_readWasps E NC, List.forall_mem_cons.mpr ⟨pf_X1_init E NC, List.forall_mem_cons.mpr ⟨pf_X1_adviceOf E NC, List.forall_mem_cons.mpr ⟨pf_X1_hear E NC, List.forall_mem_cons.mpr ⟨pf_X1_hearAll E NC, List.forall_mem_cons.mpr ⟨pf_X1_heard E NC, List.forall_mem_cons.mpr ⟨pf_X1_isIn E NC, List.forall_mem_cons.mpr ⟨pf_X1_mixed E NC, List.forall_mem_cons.mpr ⟨pf_X1_mixtureOf E NC, List.forall_mem_cons.mpr ⟨pf_X1_bestMixOf E NC, List.forall_mem_cons.mpr ⟨pf_X1_clashesWith E NC, List.forall_mem_cons.mpr ⟨pf_X1_heardClashes E NC, List.forall_mem_cons.mpr ⟨pf_X1_doClash E NC, List.forall_mem_cons.mpr ⟨pf_X1_alikeTo E NC, List.forall_mem_cons.mpr ⟨pf_X1_areAlike E NC, List.forall_mem_cons.mpr ⟨pf_X1_largestCoalition E NC, List.forall_mem_cons.mpr ⟨pf_X1_isPeaceful E NC, List.forall_mem_cons.mpr ⟨pf_X1_agreedBy E NC, List.forall_mem_cons.mpr ⟨pf_X1_areAtOne E NC, List.forall_mem_cons.mpr ⟨pf_X1_fewestThatCover E NC, List.forall_mem_cons.mpr ⟨pf_X1_doCover E NC, List.forall_mem_cons.mpr ⟨pf_X1_greatestOf E NC, List.forall_mem_cons.mpr ⟨pf_X1_thatTasteSo E NC, List.forall_mem_cons.mpr ⟨pf_X1_othersOnTape E NC, List.forall_mem_cons.mpr ⟨pf_X1_nextTasteAmong E NC, List.forall_mem_cons.mpr ⟨pf_X1_mostAtOne E NC, List.forall_mem_cons.mpr ⟨pf_X1_restsOfWar E NC, List.forall_mem_cons.mpr ⟨pf_X1_isContent E NC, List.forall_mem_cons.mpr ⟨pf_X1_gain E NC, List.forall_mem_cons.mpr ⟨pf_X1_isWinning E NC, List.forall_mem_cons.mpr ⟨pf_X1_powerOf E NC, List.forall_mem_cons.mpr ⟨pf_X1_countSumsWithout E NC, List.forall_mem_cons.mpr ⟨pf_X1_powerless E NC, List.forall_mem_cons.mpr ⟨pf_X1_fewestWinning E NC, List.forall_mem_cons.mpr ⟨pf_X1_cheapestWinning E NC, List.forall_mem_cons.mpr ⟨pf_X2_init E NC, List.forall_mem_cons.mpr ⟨pf_X2_goOn E NC, List.forall_mem_cons.mpr ⟨pf_X2_pop E NC, List.forall_mem_cons.mpr ⟨pf_X2_passYears E NC, List.forall_mem_cons.mpr ⟨pf_X2_peelLabel E NC, List.forall_mem_cons.mpr ⟨pf_X2_feedWasps E NC, List.forall_mem_cons.mpr ⟨pf_X2_trySeed E NC, List.forall_mem_cons.mpr ⟨pf_X2_spanOfTrials E NC, List.forall_mem_cons.mpr ⟨pf_X2_lookAhead E NC, List.forall_mem_cons.mpr ⟨pf_X2_lookOn E NC, List.forall_mem_cons.mpr ⟨pf_X2_adviceThen E NC, List.forall_mem_cons.mpr ⟨pf_X2_firstBelow E NC, List.forall_mem_cons.mpr ⟨pf_X2_ripest E NC, List.forall_mem_cons.mpr ⟨pf_X2_firstPopped E NC, List.forall_mem_cons.mpr ⟨pf_X2_answersTo E NC, List.forall_mem_cons.mpr ⟨pf_X2_firstUnmet E NC, List.forall_mem_cons.mpr ⟨pf_X2_findAnswers E NC, List.forall_mem_cons.mpr ⟨pf_X2_farthestNeed E NC, fun _ h => absurd h List.not_mem_nil⟩⟩⟩⟩⟩⟩⟩⟩⟩⟩⟩⟩⟩⟩⟩⟩⟩⟩⟩⟩⟩⟩⟩⟩⟩⟩⟩⟩⟩⟩⟩⟩⟩⟩⟩⟩⟩⟩⟩⟩⟩⟩⟩⟩⟩⟩⟩⟩⟩⟩⟩⟩⟩⟩⟩⟩⟩⟩⟩⟩⟩⟩⟩⟩
set_option maxRecDepth 100000 in
theorem q_pc1 {F : Fx} {X : Sx} {sk : List (String × Nat × String)} (E : q_E F X sk) (NC : q_NC F) : ∀ x ∈ q_mt1.zip q_pg1, q_pf1 F x.1 x.2 := List.forall_mem_cons.mpr ⟨pf_X2_answersThen E NC, List.forall_mem_cons.mpr ⟨pf_X2_mostMet E NC, List.forall_mem_cons.mpr ⟨pf_X2_findAnswerer E NC, List.forall_mem_cons.mpr ⟨pf_X2_makeRoom E NC, List.forall_mem_cons.mpr ⟨pf_X3_init E NC, List.forall_mem_cons.mpr ⟨pf_X3_remember E NC, List.forall_mem_cons.mpr ⟨pf_X3_giveBack E NC, List.forall_mem_cons.mpr ⟨pf_X3_forget E NC, List.forall_mem_cons.mpr ⟨pf_X4_init E NC, List.forall_mem_cons.mpr ⟨pf_X4_become E NC, List.forall_mem_cons.mpr ⟨pf_X4_clear E NC, List.forall_mem_cons.mpr ⟨pf_X4_addStep E NC, List.forall_mem_cons.mpr ⟨pf_X4_addLine E NC, List.forall_mem_cons.mpr ⟨pf_X4_adviceOf E NC, List.forall_mem_cons.mpr ⟨pf_X4_soursBy E NC, List.forall_mem_cons.mpr ⟨pf_X4_makesPop E NC, List.forall_mem_cons.mpr ⟨pf_X4_lookAt E NC, List.forall_mem_cons.mpr ⟨pf_X4_sumOf E NC, List.forall_mem_cons.mpr ⟨pf_X4_holds E NC, List.forall_mem_cons.mpr ⟨pf_X5_init E NC, List.forall_mem_cons.mpr ⟨pf_X5_readText E NC, List.forall_mem_cons.mpr ⟨pf_X5_readLine E NC, List.forall_mem_cons.mpr ⟨pf_X5_takeKind E NC, List.forall_mem_cons.mpr ⟨pf_X5_readAny E NC, List.forall_mem_cons.mpr ⟨pf_X5_readAtom E NC, List.forall_mem_cons.mpr ⟨pf_X5_readDeeper E NC, List.forall_mem_cons.mpr ⟨pf_X5_readSum E NC, List.forall_mem_cons.mpr ⟨pf_X5_partThere E NC, List.forall_mem_cons.mpr ⟨pf_X6_init E NC, List.forall_mem_cons.mpr ⟨pf_X6_become E NC, List.forall_mem_cons.mpr ⟨pf_X6_enter E NC, List.forall_mem_cons.mpr ⟨pf_X6_hasRow E NC, List.forall_mem_cons.mpr ⟨pf_X6_cell E NC, List.forall_mem_cons.mpr ⟨pf_X6_timesAsked E NC, List.forall_mem_cons.mpr ⟨pf_X6_askedMost E NC, List.forall_mem_cons.mpr ⟨pf_X6_latestOf E NC, List.forall_mem_cons.mpr ⟨pf_X7_init E NC, List.forall_mem_cons.mpr ⟨pf_X7_become E NC, List.forall_mem_cons.mpr ⟨pf_X7_isOpen E NC, List.forall_mem_cons.mpr ⟨pf_X7_useSpoon E NC, List.forall_mem_cons.mpr ⟨pf_X7_putLidOn E NC, List.forall_mem_cons.mpr ⟨pf_X7_sourMore E NC, List.forall_mem_cons.mpr ⟨pf_X7_jarOn E NC, List.forall_mem_cons.mpr ⟨pf_X7_spoonsOfAll E NC, List.forall_mem_cons.mpr ⟨pf_X7_draw E NC, List.forall_mem_cons.mpr ⟨pf_X8_init E NC, List.forall_mem_cons.mpr ⟨pf_X8_harmOn E NC, List.forall_mem_cons.mpr ⟨pf_X8_harmNow E NC, List.forall_mem_cons.mpr ⟨pf_X8_leastHarm E NC, List.forall_mem_cons.mpr ⟨pf_X8_arrangedPlaceOf E NC, List.forall_mem_cons.mpr ⟨pf_X8_firstPlaceFor E NC, List.forall_mem_cons.mpr ⟨pf_X8_leastHarmFrom E NC, List.forall_mem_cons.mpr ⟨pf_X8_sortBoth E NC, List.forall_mem_cons.mpr ⟨pf_X8_fallsFrom E NC, List.forall_mem_cons.mpr ⟨pf_X8_worstPlace E NC, List.forall_mem_cons.mpr ⟨pf_X9_init E NC, List.forall_mem_cons.mpr ⟨pf_X9_become E NC, List.forall_mem_cons.mpr ⟨pf_X9_hasJar E NC, List.forall_mem_cons.mpr ⟨pf_X9_everyJar E NC, List.forall_mem_cons.mpr ⟨pf_X9_viewOf E NC, List.forall_mem_cons.mpr ⟨pf_X9_setView E NC, List.forall_mem_cons.mpr ⟨pf_X9_sealsOf E NC, List.forall_mem_cons.mpr ⟨pf_X10_init E NC, List.forall_mem_cons.mpr ⟨pf_X10_hasRoom E NC, fun _ h => absurd h List.not_mem_nil⟩⟩⟩⟩⟩⟩⟩⟩⟩⟩⟩⟩⟩⟩⟩⟩⟩⟩⟩⟩⟩⟩⟩⟩⟩⟩⟩⟩⟩⟩⟩⟩⟩⟩⟩⟩⟩⟩⟩⟩⟩⟩⟩⟩⟩⟩⟩⟩⟩⟩⟩⟩⟩⟩⟩⟩⟩⟩⟩⟩⟩⟩⟩⟩
set_option maxRecDepth 100000 in
theorem q_pc2 {F : Fx} {X : Sx} {sk : List (String × Nat × String)} (E : q_E F X sk) (NC : q_NC F) : ∀ x ∈ q_mt2.zip q_pg2, q_pf1 F x.1 x.2 := List.forall_mem_cons.mpr ⟨pf_X10_append E NC, List.forall_mem_cons.mpr ⟨pf_X10_byteAt E NC, List.forall_mem_cons.mpr ⟨pf_X10_holdsTastes E NC, List.forall_mem_cons.mpr ⟨pf_X10_start E NC, List.forall_mem_cons.mpr ⟨pf_X10_step E NC, List.forall_mem_cons.mpr ⟨pf_X10_isAtEnd E NC, List.forall_mem_cons.mpr ⟨pf_X10_isWord E NC, List.forall_mem_cons.mpr ⟨pf_X10_isSign E NC, List.forall_mem_cons.mpr ⟨pf_X10_isNumber E NC, List.forall_mem_cons.mpr ⟨pf_X10_isFigures E NC, List.forall_mem_cons.mpr ⟨pf_X10_figure E NC, List.forall_mem_cons.mpr ⟨pf_X10_takeWord E NC, List.forall_mem_cons.mpr ⟨pf_X10_takeSign E NC, List.forall_mem_cons.mpr ⟨pf_X10_takeNumber E NC, List.forall_mem_cons.mpr ⟨pf_X10_takeLiquid E NC, List.forall_mem_cons.mpr ⟨pf_X11_init E NC, List.forall_mem_cons.mpr ⟨pf_X11_feed E NC, List.forall_mem_cons.mpr ⟨pf_X11_end E NC, List.forall_mem_cons.mpr ⟨pf_X11_cabinet E NC, List.forall_mem_cons.mpr ⟨pf_X11_law E NC, List.forall_mem_cons.mpr ⟨pf_X11_fault E NC, List.forall_mem_cons.mpr ⟨pf_X11_jar E NC, List.forall_mem_cons.mpr ⟨pf_X11_advice E NC, List.forall_mem_cons.mpr ⟨pf_X11_light E NC, List.forall_mem_cons.mpr ⟨pf_X11_need E NC, List.forall_mem_cons.mpr ⟨pf_X11_ask E NC, List.forall_mem_cons.mpr ⟨pf_X11_mix E NC, List.forall_mem_cons.mpr ⟨pf_X11_close E NC, List.forall_mem_cons.mpr ⟨pf_X11_label E NC, List.forall_mem_cons.mpr ⟨pf_X11_move E NC, List.forall_mem_cons.mpr ⟨pf_X11_years E NC, List.forall_mem_cons.mpr ⟨pf_X11_mixture E NC, List.forall_mem_cons.mpr ⟨pf_X11_best E NC, List.forall_mem_cons.mpr ⟨pf_X11_coalition E NC, List.forall_mem_cons.mpr ⟨pf_X11_agree E NC, List.forall_mem_cons.mpr ⟨pf_X11_cover E NC, List.forall_mem_cons.mpr ⟨pf_X11_plan E NC, List.forall_mem_cons.mpr ⟨pf_X11_unmet E NC, List.forall_mem_cons.mpr ⟨pf_X11_tastes E NC, List.forall_mem_cons.mpr ⟨pf_X11_next E NC, List.forall_mem_cons.mpr ⟨pf_X11_harm E NC, List.forall_mem_cons.mpr ⟨pf_X11_arranged E NC, List.forall_mem_cons.mpr ⟨pf_X11_falls E NC, List.forall_mem_cons.mpr ⟨pf_X11_wins E NC, List.forall_mem_cons.mpr ⟨pf_X11_smallest E NC, List.forall_mem_cons.mpr ⟨pf_X11_dummies E NC, List.forall_mem_cons.mpr ⟨pf_X11_war E NC, List.forall_mem_cons.mpr ⟨pf_X11_ahead E NC, List.forall_mem_cons.mpr ⟨pf_X11_spoils E NC, List.forall_mem_cons.mpr ⟨pf_X11_ripe E NC, List.forall_mem_cons.mpr ⟨pf_X11_goes E NC, List.forall_mem_cons.mpr ⟨pf_X11_wrong E NC, List.forall_mem_cons.mpr ⟨pf_X11_whose E NC, List.forall_mem_cons.mpr ⟨pf_X11_ring E NC, List.forall_mem_cons.mpr ⟨pf_X11_asked E NC, List.forall_mem_cons.mpr ⟨pf_X11_led E NC, List.forall_mem_cons.mpr ⟨pf_X11_trial E NC, List.forall_mem_cons.mpr ⟨pf_X11_span E NC, List.forall_mem_cons.mpr ⟨pf_X11_log E NC, List.forall_mem_cons.mpr ⟨pf_X11_seed E NC, List.forall_mem_cons.mpr ⟨pf_X11_undo E NC, List.forall_mem_cons.mpr ⟨pf_X11_image E NC, List.forall_mem_cons.mpr ⟨pf_X11_back E NC, List.forall_mem_cons.mpr ⟨pf_X11_count E NC, fun _ h => absurd h List.not_mem_nil⟩⟩⟩⟩⟩⟩⟩⟩⟩⟩⟩⟩⟩⟩⟩⟩⟩⟩⟩⟩⟩⟩⟩⟩⟩⟩⟩⟩⟩⟩⟩⟩⟩⟩⟩⟩⟩⟩⟩⟩⟩⟩⟩⟩⟩⟩⟩⟩⟩⟩⟩⟩⟩⟩⟩⟩⟩⟩⟩⟩⟩⟩⟩⟩
set_option maxRecDepth 100000 in
theorem q_pc3 {F : Fx} {X : Sx} {sk : List (String × Nat × String)} (E : q_E F X sk) (NC : q_NC F) : ∀ x ∈ q_mt3.zip q_pg3, q_pf1 F x.1 x.2 := List.forall_mem_cons.mpr ⟨pf_X11_needJar E NC, List.forall_mem_cons.mpr ⟨pf_X11_needMatter E NC, List.forall_mem_cons.mpr ⟨pf_X11_needPlace E NC, List.forall_mem_cons.mpr ⟨pf_X11_needNumber E NC, List.forall_mem_cons.mpr ⟨pf_X11_needTwo E NC, List.forall_mem_cons.mpr ⟨pf_X11_needSpoon E NC, List.forall_mem_cons.mpr ⟨pf_X12_init E NC, List.forall_mem_cons.mpr ⟨pf_X12_thrown E NC, List.forall_mem_cons.mpr ⟨pf_X12_isIn E NC, List.forall_mem_cons.mpr ⟨pf_X12_lesser E NC, List.forall_mem_cons.mpr ⟨pf_X12_greater E NC, List.forall_mem_cons.mpr ⟨pf_X12_size E NC, List.forall_mem_cons.mpr ⟨pf_X12_isOf E NC, List.forall_mem_cons.mpr ⟨pf_X12_bits E NC, List.forall_mem_cons.mpr ⟨pf_X12_of E NC, List.forall_mem_cons.mpr ⟨pf_X12_has E NC, List.forall_mem_cons.mpr ⟨pf_X12_ofNeed E NC, List.forall_mem_cons.mpr ⟨pf_X12_isJar E NC, List.forall_mem_cons.mpr ⟨pf_X12_isMatter E NC, List.forall_mem_cons.mpr ⟨pf_X12_isPlace E NC, List.forall_mem_cons.mpr ⟨pf_X12_jarAt E NC, List.forall_mem_cons.mpr ⟨pf_X12_allJars E NC, List.forall_mem_cons.mpr ⟨pf_X12_feed E NC, List.forall_mem_cons.mpr ⟨pf_X12_end E NC, List.forall_mem_cons.mpr ⟨pf_X12_letter E NC, List.forall_mem_cons.mpr ⟨pf_X12_skip E NC, List.forall_mem_cons.mpr ⟨pf_X12_isSign E NC, List.forall_mem_cons.mpr ⟨pf_X12_has_ E NC, List.forall_mem_cons.mpr ⟨pf_X12_wrong E NC, List.forall_mem_cons.mpr ⟨pf_X12_place E NC, List.forall_mem_cons.mpr ⟨pf_X12_figures E NC, List.forall_mem_cons.mpr ⟨pf_X12_after E NC, List.forall_mem_cons.mpr ⟨pf_X12_liquidWord E NC, List.forall_mem_cons.mpr ⟨pf_X12_six E NC, List.forall_mem_cons.mpr ⟨pf_X12_jarLine E NC, List.forall_mem_cons.mpr ⟨pf_X12_needLine E NC, List.forall_mem_cons.mpr ⟨pf_X12_tells E NC, List.forall_mem_cons.mpr ⟨pf_X12_cabinetLine E NC, List.forall_mem_cons.mpr ⟨pf_X12_begins E NC, List.forall_mem_cons.mpr ⟨pf_X12_read E NC, List.forall_mem_cons.mpr ⟨pf_X12_putsAside E NC, List.forall_mem_cons.mpr ⟨pf_X12_comesBack E NC, List.forall_mem_cons.mpr ⟨pf_X12_cabinet E NC, List.forall_mem_cons.mpr ⟨pf_X12_part E NC, List.forall_mem_cons.mpr ⟨pf_X12_sum E NC, List.forall_mem_cons.mpr ⟨pf_X12_plain E NC, List.forall_mem_cons.mpr ⟨pf_X12_atom E NC, List.forall_mem_cons.mpr ⟨pf_X12_every E NC, List.forall_mem_cons.mpr ⟨pf_X12_some E NC, List.forall_mem_cons.mpr ⟨pf_X12_lawLine E NC, List.forall_mem_cons.mpr ⟨pf_X12_law E NC, List.forall_mem_cons.mpr ⟨pf_X12_fault E NC, List.forall_mem_cons.mpr ⟨pf_X12_asks E NC, List.forall_mem_cons.mpr ⟨pf_X12_adviceOf E NC, List.forall_mem_cons.mpr ⟨pf_X12_sours E NC, List.forall_mem_cons.mpr ⟨pf_X12_draw E NC, List.forall_mem_cons.mpr ⟨pf_X12_year E NC, List.forall_mem_cons.mpr ⟨pf_X12_passes E NC, List.forall_mem_cons.mpr ⟨pf_X12_ahead E NC, List.forall_mem_cons.mpr ⟨pf_X12_clash E NC, List.forall_mem_cons.mpr ⟨pf_X12_clashes E NC, List.forall_mem_cons.mpr ⟨pf_X12_alike E NC, List.forall_mem_cons.mpr ⟨pf_X12_seals E NC, List.forall_mem_cons.mpr ⟨pf_X12_wonBy E NC, fun _ h => absurd h List.not_mem_nil⟩⟩⟩⟩⟩⟩⟩⟩⟩⟩⟩⟩⟩⟩⟩⟩⟩⟩⟩⟩⟩⟩⟩⟩⟩⟩⟩⟩⟩⟩⟩⟩⟩⟩⟩⟩⟩⟩⟩⟩⟩⟩⟩⟩⟩⟩⟩⟩⟩⟩⟩⟩⟩⟩⟩⟩⟩⟩⟩⟩⟩⟩⟩⟩
set_option maxRecDepth 100000 in
theorem q_pc4 {F : Fx} {X : Sx} {sk : List (String × Nat × String)} (E : q_E F X sk) (NC : q_NC F) : ∀ x ∈ q_mt4.zip q_pg4, q_pf1 F x.1 x.2 := List.forall_mem_cons.mpr ⟨pf_X12_power E NC, List.forall_mem_cons.mpr ⟨pf_X12_jar E NC, List.forall_mem_cons.mpr ⟨pf_X12_advice E NC, List.forall_mem_cons.mpr ⟨pf_X12_light E NC, List.forall_mem_cons.mpr ⟨pf_X12_answers E NC, List.forall_mem_cons.mpr ⟨pf_X12_need E NC, List.forall_mem_cons.mpr ⟨pf_X12_remembers E NC, List.forall_mem_cons.mpr ⟨pf_X12_takes E NC, List.forall_mem_cons.mpr ⟨pf_X12_writes E NC, List.forall_mem_cons.mpr ⟨pf_X12_ask E NC, List.forall_mem_cons.mpr ⟨pf_X12_mixed E NC, List.forall_mem_cons.mpr ⟨pf_X12_two E NC, List.forall_mem_cons.mpr ⟨pf_X12_mix E NC, List.forall_mem_cons.mpr ⟨pf_X12_close E NC, List.forall_mem_cons.mpr ⟨pf_X12_label E NC, List.forall_mem_cons.mpr ⟨pf_X12_move E NC, List.forall_mem_cons.mpr ⟨pf_X12_years E NC, List.forall_mem_cons.mpr ⟨pf_X12_mixture E NC, List.forall_mem_cons.mpr ⟨pf_X12_best E NC, List.forall_mem_cons.mpr ⟨pf_X12_coalition E NC, List.forall_mem_cons.mpr ⟨pf_X12_agree E NC, List.forall_mem_cons.mpr ⟨pf_X12_cover E NC, List.forall_mem_cons.mpr ⟨pf_X12_finds E NC, List.forall_mem_cons.mpr ⟨pf_X12_areMet E NC, List.forall_mem_cons.mpr ⟨pf_X12_plan E NC, List.forall_mem_cons.mpr ⟨pf_X12_unmet E NC, List.forall_mem_cons.mpr ⟨pf_X12_tasted E NC, List.forall_mem_cons.mpr ⟨pf_X12_tastes E NC, List.forall_mem_cons.mpr ⟨pf_X12_group E NC, List.forall_mem_cons.mpr ⟨pf_X12_next E NC, List.forall_mem_cons.mpr ⟨pf_X12_harm E NC, List.forall_mem_cons.mpr ⟨pf_X12_from E NC, List.forall_mem_cons.mpr ⟨pf_X12_harmAt E NC, List.forall_mem_cons.mpr ⟨pf_X12_arranged E NC, List.forall_mem_cons.mpr ⟨pf_X12_fallsFrom E NC, List.forall_mem_cons.mpr ⟨pf_X12_falls E NC, List.forall_mem_cons.mpr ⟨pf_X12_wins E NC, List.forall_mem_cons.mpr ⟨pf_X12_smallest E NC, List.forall_mem_cons.mpr ⟨pf_X12_dummies E NC, List.forall_mem_cons.mpr ⟨pf_X12_worth E NC, List.forall_mem_cons.mpr ⟨pf_X12_war E NC, List.forall_mem_cons.mpr ⟨pf_X12_ahead_ E NC, List.forall_mem_cons.mpr ⟨pf_X12_spoils E NC, List.forall_mem_cons.mpr ⟨pf_X12_ripe E NC, List.forall_mem_cons.mpr ⟨pf_X12_goes E NC, List.forall_mem_cons.mpr ⟨pf_X12_wrong_ E NC, List.forall_mem_cons.mpr ⟨pf_X12_whose E NC, List.forall_mem_cons.mpr ⟨pf_X12_ring E NC, List.forall_mem_cons.mpr ⟨pf_X12_logged E NC, List.forall_mem_cons.mpr ⟨pf_X12_often E NC, List.forall_mem_cons.mpr ⟨pf_X12_asked E NC, List.forall_mem_cons.mpr ⟨pf_X12_led E NC, List.forall_mem_cons.mpr ⟨pf_X12_spoons E NC, List.forall_mem_cons.mpr ⟨pf_X12_trial E NC, List.forall_mem_cons.mpr ⟨pf_X12_span E NC, List.forall_mem_cons.mpr ⟨pf_X12_log E NC, List.forall_mem_cons.mpr ⟨pf_X12_seed E NC, List.forall_mem_cons.mpr ⟨pf_X12_undo E NC, List.forall_mem_cons.mpr ⟨pf_X12_image E NC, List.forall_mem_cons.mpr ⟨pf_X12_back E NC, List.forall_mem_cons.mpr ⟨pf_X12_opens E NC, List.forall_mem_cons.mpr ⟨pf_X12_count E NC, List.forall_mem_cons.mpr ⟨pf_J6_bitCount_0f7a4 E NC, List.forall_mem_cons.mpr ⟨pf_J9_floorMod_7cf53 E NC, fun _ h => absurd h List.not_mem_nil⟩⟩⟩⟩⟩⟩⟩⟩⟩⟩⟩⟩⟩⟩⟩⟩⟩⟩⟩⟩⟩⟩⟩⟩⟩⟩⟩⟩⟩⟩⟩⟩⟩⟩⟩⟩⟩⟩⟩⟩⟩⟩⟩⟩⟩⟩⟩⟩⟩⟩⟩⟩⟩⟩⟩⟩⟩⟩⟩⟩⟩⟩⟩⟩
set_option maxRecDepth 100000 in
theorem q_pc5 {F : Fx} {X : Sx} {sk : List (String × Nat × String)} (E : q_E F X sk) (NC : q_NC F) : ∀ x ∈ q_mt5.zip q_pg5, q_pf1 F x.1 x.2 := List.forall_mem_cons.mpr ⟨pf_L_cabinet E NC, List.forall_mem_cons.mpr ⟨pf_L_law E NC, List.forall_mem_cons.mpr ⟨pf_L_jar E NC, List.forall_mem_cons.mpr ⟨pf_L_advice E NC, List.forall_mem_cons.mpr ⟨pf_L_light E NC, List.forall_mem_cons.mpr ⟨pf_L_need E NC, List.forall_mem_cons.mpr ⟨pf_L_ask E NC, List.forall_mem_cons.mpr ⟨pf_L_mix E NC, List.forall_mem_cons.mpr ⟨pf_L_close E NC, List.forall_mem_cons.mpr ⟨pf_L_label E NC, List.forall_mem_cons.mpr ⟨pf_L_move E NC, List.forall_mem_cons.mpr ⟨pf_L_years E NC, List.forall_mem_cons.mpr ⟨pf_L_mixture E NC, List.forall_mem_cons.mpr ⟨pf_L_best E NC, List.forall_mem_cons.mpr ⟨pf_L_cover E NC, List.forall_mem_cons.mpr ⟨pf_L_tastes E NC, List.forall_mem_cons.mpr ⟨pf_L_next E NC, List.forall_mem_cons.mpr ⟨pf_L_arranged E NC, List.forall_mem_cons.mpr ⟨pf_L_falls E NC, List.forall_mem_cons.mpr ⟨pf_L_war E NC, List.forall_mem_cons.mpr ⟨pf_L_ahead E NC, List.forall_mem_cons.mpr ⟨pf_L_spoils E NC, List.forall_mem_cons.mpr ⟨pf_L_ripe E NC, List.forall_mem_cons.mpr ⟨pf_L_goes E NC, List.forall_mem_cons.mpr ⟨pf_L_whose E NC, List.forall_mem_cons.mpr ⟨pf_L_ring E NC, List.forall_mem_cons.mpr ⟨pf_L_asked E NC, List.forall_mem_cons.mpr ⟨pf_L_led E NC, List.forall_mem_cons.mpr ⟨pf_L_trial E NC, List.forall_mem_cons.mpr ⟨pf_L_span E NC, List.forall_mem_cons.mpr ⟨pf_L_log E NC, fun _ h => absurd h List.not_mem_nil⟩⟩⟩⟩⟩⟩⟩⟩⟩⟩⟩⟩⟩⟩⟩⟩⟩⟩⟩⟩⟩⟩⟩⟩⟩⟩⟩⟩⟩⟩⟩
theorem q_PFs {F : Fx} {X : Sx} {sk : List (String × Nat × String)} (E : q_E F X sk) (NC : q_NC F) : q_PF F q_tb q_mt q_pg := by
  intro mi r9 hr
  have H : ∀ (i : Nat) (a : Mr), q_mt[i]? = some a → ∃ b, q_pg[i]? = some b ∧ q_pf1 F a b := q_appAll rfl (q_zipAll _ _ (q_pc0 E NC) rfl) (q_appAll rfl (q_zipAll _ _ (q_pc1 E NC) rfl) (q_appAll rfl (q_zipAll _ _ (q_pc2 E NC) rfl) (q_appAll rfl (q_zipAll _ _ (q_pc3 E NC) rfl) (q_appAll rfl (q_zipAll _ _ (q_pc4 E NC) rfl) (q_zipAll _ _ (q_pc5 E NC) rfl)))))
  obtain ⟨⟨nl, cd⟩, hb, h1, oi, h2, h3, h4, h5, h6⟩ := H mi r9 hr
  dsimp only at h1
  subst h1
  exact ⟨cd, oi, hb, h2, h3, h4, h5, h6⟩
