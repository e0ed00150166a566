/-! ===== QUESTIONS: both halves, the rest ===== -/
theorem S_31 (X : Sx) (d i : Nat) : S_ok X d i 31 := by
  intro o5 o6 I T hX hi h
  obtain ⟨n, m, h27⟩ := INV_27 h
  have hn := h27.1.2.1
  have n3 := k_n3 h27
  rcases z_yn (X.2 (i + 1)) n (by omega) with ⟨j, hj, ej⟩ | hv
  · rcases z_yn (X.2 (i + 2)) 41 (by omega) with ⟨q, hq, eq⟩ | hq
    · rcases z_yn (X.2 (i + 3)) 8 (by omega) with ⟨w, hw, ew⟩ | hw
      · obtain ⟨J, a1, a2⟩ := k_Xahead1 X (d + 37) I T (I 140) n m j q w h27 hj (by omega) (by omega)
        obtain ⟨K, b1, b2, b3⟩ := l_ahead1 X (d + 13) J (q_tl T 150 0 _) n j q w (by rw [z_cs140 a2]; exact H27_g h27) hj (by omega) (by omega)
        rw [z_cs140 a2] at b1
        exact ⟨K, jy_31 X d i o5 o6 I J K T _ hX hi (by rw [ej, eq, ew]; exact a1) (by rw [ej, eq, ew]; exact b1) b2, INV_y h a2 b1 b3⟩
      · exact ⟨_, jn_31_3 X d i o5 o6 I I _ T 0 hX hi (k_Xahead0 X (d + 37) I T n _ _ _ 3 n3 hn (.inr (.inr ⟨rfl, ⟨j, hj, ej⟩, ⟨q, hq, eq⟩, hw⟩))) (l_ahead0 X (d + 13) I _ n _ _ _ 3 h27.1.1 hn (.inr (.inr ⟨rfl, ⟨j, hj, ej⟩, ⟨q, hq, eq⟩, hw⟩))) (z_w_s _ _ _ _), INV_0 h _⟩
    · exact ⟨_, jn_31_0 X d i o5 o6 I I _ T 0 hX hi (k_Xahead0 X (d + 37) I T n _ _ _ 2 n3 hn (.inr (.inl ⟨rfl, ⟨j, hj, ej⟩, hq⟩))) (l_ahead0 X (d + 13) I _ n _ _ _ 2 h27.1.1 hn (.inr (.inl ⟨rfl, ⟨j, hj, ej⟩, hq⟩))) (z_w_s _ _ _ _), INV_0 h _⟩
  · exact ⟨_, jn_31_2 X d i o5 o6 I I _ T 0 hX hi (k_Xahead0 X (d + 37) I T n _ _ _ 1 n3 hn (.inl ⟨rfl, hv⟩)) (l_ahead0 X (d + 13) I _ n _ _ _ 1 h27.1.1 hn (.inl ⟨rfl, hv⟩)) (z_w_s _ _ _ _), INV_0 h _⟩
theorem S_32 (X : Sx) (d i : Nat) : S_ok X d i 32 := by
  intro o5 o6 I T hX hi h
  obtain ⟨n, m, h27⟩ := INV_27 h
  have hn := h27.1.2.1
  have n3 := k_n3 h27
  rcases z_yn (X.2 (i + 1)) n (by omega) with ⟨j, hj, ej⟩ | hv
  · rcases z_yn (X.2 (i + 2)) 6 (by omega) with ⟨t, ht, et⟩ | ht
    · rcases z_yn (X.2 (i + 3)) 11 (by omega) with ⟨q, hq, eq⟩ | hq
      · obtain ⟨J, a1, a2⟩ := k_Xspoils1 X (d + 37) I T (I 140) n m j t q h27 hj ht (by omega)
        obtain ⟨K, b1, b2, b3⟩ := l_spoils1 X (d + 13) J (q_tl T 150 0 _) n j t (nI q) q rfl (by omega) (by rw [z_cs140 a2]; exact H27_g h27) hj ht
        rw [z_cs140 a2] at b1
        exact ⟨K, jy_32 X d i o5 o6 I J K T _ hX hi (by rw [ej, et, eq]; exact a1) (by rw [ej, et, eq]; exact b1) b2, INV_y h a2 b1 b3⟩
      · exact ⟨_, jn_32_0 X d i o5 o6 I I _ T 0 hX hi (k_Xspoils0 X (d + 37) I T n _ _ _ 2 n3 hn (.inr (.inr ⟨rfl, ⟨j, hj, ej⟩, ⟨t, ht, et⟩, hq⟩))) (l_spoils0 X (d + 13) I _ n _ _ _ 2 h27.1.1 hn (.inr (.inr ⟨rfl, ⟨j, hj, ej⟩, ⟨t, ht, et⟩, hq⟩))) (z_w_s _ _ _ _), INV_0 h _⟩
    · exact ⟨_, jn_32_2 X d i o5 o6 I I _ T 0 hX hi (k_Xspoils0 X (d + 37) I T n _ _ _ 1 n3 hn (.inr (.inl ⟨rfl, ⟨j, hj, ej⟩, ht⟩))) (l_spoils0 X (d + 13) I _ n _ _ _ 1 h27.1.1 hn (.inr (.inl ⟨rfl, ⟨j, hj, ej⟩, ht⟩))) (z_w_s _ _ _ _), INV_0 h _⟩
  · exact ⟨_, jn_32_2 X d i o5 o6 I I _ T 0 hX hi (k_Xspoils0 X (d + 37) I T n _ _ _ 1 n3 hn (.inl ⟨rfl, hv⟩)) (l_spoils0 X (d + 13) I _ n _ _ _ 1 h27.1.1 hn (.inl ⟨rfl, hv⟩)) (z_w_s _ _ _ _), INV_0 h _⟩
theorem S_33 (X : Sx) (d i : Nat) : S_ok X d i 33 := by
  intro o5 o6 I T hX hi h
  obtain ⟨n, m, h27⟩ := INV_27 h
  have hn := h27.1.2.1
  have n3 := k_n3 h27
  have no : (z_no (X.2 (i + 1)) n ∨ (∃ k, k < n ∧ X.2 (i + 1) = nI k) ∧ z_no (X.2 (i + 2)) 6) → ∃ K, j_go X d i 33 o5 o6 I T K ∧ INV K := fun hv => ⟨_, jn_33_2 X d i o5 o6 I I _ T 0 hX hi (k_Xripe0 X (d + 37) I T n _ _ _ n3 hn hv) (l_ripe0 X (d + 13) I _ n _ _ _ h27.1.1 hn hv) (z_w_s _ _ _ _), INV_0 h _⟩
  rcases z_yn (X.2 (i + 1)) n (by omega) with ⟨j, hj, ej⟩ | hv
  · rcases z_yn (X.2 (i + 2)) 6 (by omega) with ⟨t, ht, et⟩ | hv
    · obtain ⟨J, a1, a2⟩ := k_Xripe1 X (d + 37) I T (I 140) n m j t (j_b (X.2 (i + 3))) h27 hj ht
      obtain ⟨K, b1, b2, b3⟩ := l_ripe1 X (d + 13) J (q_tl T 150 0 _) n j t (j_b (X.2 (i + 3))) (by rw [z_cs140 a2]; exact H27_g h27) hj ht
      rw [z_cs140 a2] at b1
      exact ⟨K, jy_33 X d i o5 o6 I J K T _ hX hi (by rw [ej, et]; exact a1) (by rw [ej, et]; exact b1) b2, INV_y h a2 b1 b3⟩
    · exact no (.inr ⟨⟨j, hj, ej⟩, hv⟩)
  · exact no (.inl hv)
theorem S_34 (X : Sx) (d i : Nat) : S_ok X d i 34 := by
  intro o5 o6 I T hX hi h
  obtain ⟨n, m, h27⟩ := INV_27 h
  have hn := h27.1.2.1
  rcases z_yn (X.2 (i + 1)) n (by omega) with ⟨j, hj, ej⟩ | hv
  · obtain ⟨J, a1, a2⟩ := k_Xgoes1 X (d + 37) I T (I 140) n m j h27 hj
    obtain ⟨K, b1, b2, b3⟩ := l_goes1 X (d + 13) J (q_tl T 150 0 _) n j (by rw [z_cs140 a2]; exact H27_g h27) hj
    rw [z_cs140 a2] at b1
    exact ⟨K, jy_34 X d i o5 o6 I J K T _ hX hi (by rw [ej]; exact a1) (by rw [ej]; exact b1) b2, INV_y h a2 b1 b3⟩
  · exact ⟨_, jn_34_2 X d i o5 o6 I I _ T 0 hX hi (k_Xgoes0 X (d + 37) I T n _ (k_n3 h27) hv) (l_goes0 X (d + 13) I _ n _ h27.1.1 hn hv) (z_w_s _ _ _ _), INV_0 h _⟩
theorem S_35 (X : Sx) (d i : Nat) : S_ok X d i 35 := by
  intro o5 o6 I T hX hi h
  obtain ⟨n, m, h27⟩ := INV_27 h
  have hb : ∀ v : Int32, (v = 0) = (decide (v ≠ 0) = false) := fun v => by by_cases c : v = 0 <;> simp [c]
  exact ⟨_, jy_35 X d i o5 o6 I I _ T _ hX hi (k_Xwrong X (d + 38) I T (I 140) n m _ _ (hb _) h27) (l_wrongC X (d + 48) I T n _ _ (hb _) h27.1.1 h27.1.2.1), INV_0 h _⟩
theorem S_36 (X : Sx) (d i : Nat) : S_ok X d i 36 := by
  intro o5 o6 I T hX hi h
  obtain ⟨n, m, h27⟩ := INV_27 h
  have hn := h27.1.2.1
  rcases z_yn (X.2 (i + 1)) n (by omega) with ⟨j, hj, ej⟩ | hv
  · exact ⟨_, jy_36 X d i o5 o6 I I _ T _ hX hi (by rw [ej]; exact k_Xwhose1 X (d + 37) I T (I 140) n m j h27 hj) (by rw [ej]; exact l_whose1 X (d + 47) I _ n j h27.1.1 hn hj) (z_w_s _ _ _ _), INV_0 h _⟩
  · exact ⟨_, jn_36_2 X d i o5 o6 I I _ T 0 hX hi (k_Xwhose0 X (d + 37) I T n _ (k_n3 h27) hv) (l_whose0 X (d + 47) I _ n _ h27.1.1 hn hv) (z_w_s _ _ _ _), INV_0 h _⟩
theorem S_37 (X : Sx) (d i : Nat) : S_ok X d i 37 := by
  intro o5 o6 I T hX hi h
  obtain ⟨n, m, h27⟩ := INV_27 h
  have hn := h27.1.2.1
  obtain ⟨lab, hl⟩ := g_lab_ex h27.1
  rcases z_yn (X.2 (i + 1)) n (by omega) with ⟨j, hj, ej⟩ | hv
  · exact ⟨_, jy_37 X d i o5 o6 I I _ T _ hX hi (by rw [ej]; exact k_Xring1 X (d + 37) I T (I 140) n m j lab h27 hl hj) (by rw [ej]; exact l_ring1 X (d + 46) I _ n j lab h27.1.1 hn hl hj) (z_w_s _ _ _ _), INV_0 h _⟩
  · exact ⟨_, jn_37_2 X d i o5 o6 I I _ T 0 hX hi (k_Xring0 X (d + 37) I T n _ (k_n3 h27) hv) (l_ring0 X (d + 46) I _ n _ h27.1.1 hn hv) (z_w_s _ _ _ _), INV_0 h _⟩
/-- the log's half -/
theorem INV_L {I : Ii} (h : INV I) : ∃ n m g L, k_H27 I (I 140) n m ∧ z_Lg I 27 61 (I 140) g ∧ I 27 9 = nI L ∧ I 140 10 = nI L ∧ L ≤ 60 := by
  obtain ⟨⟨n, m, G, p, z, H, c1, c2, -⟩, -⟩ := h
  obtain ⟨L, hL, eL⟩ := c1.2.2.2.2.1.1.2.2.2.2.2.2.2.2.1
  have h27 := k_S_27 c1
  rw [← c2] at h27 eL
  have hg := c1.2.2.2.2.1.2.2.2.2
  rw [← c2] at hg
  exact ⟨n, m, G z, L, h27, hg, h27.2.2.1.2.2.2.1.trans eL, eL, hL⟩
theorem S_38 (X : Sx) (d i : Nat) : S_ok X d i 38 := by
  intro o5 o6 I T hX hi h
  obtain ⟨n, m, g, L, h27, hg, h9, h10, h60⟩ := INV_L h
  have hn := h27.1.2.1
  have n3 := k_n3 h27
  by_cases hm : X.2 (i + 1) = -1
  · exact ⟨_, jy_38 X d i o5 o6 I I _ T _ hX hi (by rw [hm]; exact k_XaskedM X (d + 37) I T (I 140) g L n n3 hn hg h9 h10 h60) (by rw [hm]; exact l_askedM X (d + 46) I _ n L h27.1.1 hn h10 h60) (z_w_s _ _ _ _), INV_0 h _⟩
  rcases z_yn (X.2 (i + 1)) n (by omega) with ⟨j, hj, ej⟩ | hv
  · exact ⟨_, jy_38 X d i o5 o6 I I _ T _ hX hi (by rw [ej]; exact k_Xasked1 X (d + 37) I T (I 140) g L n j n3 hn hj hg h9 h10 h60) (by rw [ej]; exact l_asked1 X (d + 46) I _ n j L h27.1.1 hn hj h10 h60) (z_w_s _ _ _ _), INV_0 h _⟩
  · exact ⟨_, jn_38_2 X d i o5 o6 I I _ T 0 hX hi (k_Xasked0 X (d + 37) I T n _ n3 hv hm) (l_asked0 X (d + 46) I _ n _ h27.1.1 hn hv hm) (z_w_s _ _ _ _), INV_0 h _⟩
theorem S_39 (X : Sx) (d i : Nat) : S_ok X d i 39 := by
  intro o5 o6 I T hX hi h
  obtain ⟨n, m, g, L, h27, hg, h9, h10, h60⟩ := INV_L h
  rcases z_yn (X.2 (i + 1)) 6 (by omega) with ⟨t, ht, et⟩ | hv
  · exact ⟨_, jy_39 X d i o5 o6 I I _ T _ hX hi (by rw [et]; exact k_Xled1 X (d + 37) I T (I 140) g L t ht hg h9 h10 h60) (by rw [et]; exact l_led1 X (d + 47) I _ t L ht h10 h60) (z_w_s _ _ _ _), INV_0 h _⟩
  · exact ⟨_, jn_39_2 X d i o5 o6 I I _ T 0 hX hi (k_Xled0 X (d + 37) I T _ hv) (l_led0 X (d + 47) I _ _ hv) (z_w_s _ _ _ _), INV_0 h _⟩
theorem S_40 (X : Sx) (d i : Nat) : S_ok X d i 40 := by
  intro o5 o6 I T hX hi h
  obtain ⟨n, m, h27⟩ := INV_27 h
  rcases z_yn (X.2 (i + 1)) 31 (by omega) with ⟨q, hq, eq⟩ | hv
  · obtain ⟨J, a1, a2⟩ := k_Xtrial1 X (d + 37) I T (I 140) n m q (j_b (X.2 (i + 2))) h27 (by omega)
    obtain ⟨K, b1, b2, b3⟩ := l_trial1 X (d + 12) J (q_tl T 150 0 _) n q (j_b (X.2 (i + 2))) (by rw [z_cs140 a2]; exact H27_g h27) (by omega)
    rw [z_cs140 a2] at b1
    exact ⟨K, jy_40 X d i o5 o6 I J K T _ hX hi (by rw [eq]; exact a1) (by rw [eq]; exact b1) b2, INV_y h a2 b1 b3⟩
  · exact ⟨_, jn_40_0 X d i o5 o6 I I _ T 0 hX hi (k_Xtrial0 X (d + 37) I T _ _ hv) (l_trial0 X (d + 12) I _ _ _ hv) (z_w_s _ _ _ _), INV_0 h _⟩
theorem S_41 (X : Sx) (d i : Nat) : S_ok X d i 41 := by
  intro o5 o6 I T hX hi h
  obtain ⟨n, m, h27⟩ := INV_27 h
  rcases z_yn (X.2 (i + 1)) 31 (by omega) with ⟨q, hq, eq⟩ | hv
  · obtain ⟨J, a1, a2⟩ := k_Xspan1 X (d + 37) I T (I 140) n m q (j_b (X.2 (i + 2))) h27 (by omega)
    obtain ⟨K, b1, b2, b3⟩ := l_span1 X (d + 12) J (q_tl T 150 0 _) n q (j_b (X.2 (i + 2))) (by rw [z_cs140 a2]; exact H27_g h27) (by omega)
    rw [z_cs140 a2] at b1
    exact ⟨K, jy_41 X d i o5 o6 I J K T _ hX hi (by rw [eq]; exact a1) (by rw [eq]; exact b1) b2, INV_y h a2 b1 b3⟩
  · exact ⟨_, jn_41_0 X d i o5 o6 I I _ T 0 hX hi (k_Xspan0 X (d + 37) I T _ _ hv) (l_span0 X (d + 12) I _ _ _ hv) (z_w_s _ _ _ _), INV_0 h _⟩
theorem S_42 (X : Sx) (d i : Nat) : S_ok X d i 42 := by
  intro o5 o6 I T hX hi h
  obtain ⟨n, m, g, L, h27, hg, h9, h10, h60⟩ := INV_L h
  rcases z_yn (X.2 (i + 2)) 5 (by omega) with ⟨w, hw, ew⟩ | hw
  · rcases z_yn (X.2 (i + 1)) L (by omega) with ⟨k, hk, ek⟩ | hv
    · exact ⟨_, jy_42 X d i o5 o6 I I _ T _ hX hi (by rw [ek, ew]; exact k_Xlog1 X (d + 37) I T (I 140) g L k w hg h9 h10 h60 hk (by omega)) (by rw [ek, ew]; exact l_log1 X (d + 48) I _ k w L (by omega) hk h10 h60) (z_w_s _ _ _ _), INV_0 h _⟩
    · exact ⟨_, jy_42 X d i o5 o6 I I _ T _ hX hi (by rw [ew]; exact k_Xlog9 X (d + 37) I T L w _ h9 h60 hv (by omega)) (by rw [ew]; exact l_log9 X (d + 48) I _ _ w L (by omega) hv h10 h60) (z_w_s _ _ _ _), INV_0 h _⟩
  · exact ⟨_, jn_42_3 X d i o5 o6 I I _ T 0 hX hi (k_Xlog0 X (d + 37) I T _ _ hw) (l_log0 X (d + 48) I _ _ _ hw) (z_w_s _ _ _ _), INV_0 h _⟩
theorem S_47 (X : Sx) (d i : Nat) : S_ok X d i 47 := by
  intro o5 o6 I T hX hi h
  obtain ⟨n, m, h27⟩ := INV_27 h
  have e6 : I 64 2 = I 139 6 := by
    obtain ⟨⟨n, m, G, p, z, H, c1, c2, c3, -⟩, -⟩ := h
    rw [c3]; exact c1.2.2.2.1
  have a1 := k_Xcount X (d + 38) I T (I 140) n m (X.2 (i + 1)) h27
  rw [e6] at a1
  exact ⟨_, jy_47 X d i o5 o6 I I _ T _ hX hi a1 (l_count X (d + 46) I T n _ h27.1.1 h27.1.2.1), INV_0 h _⟩
