/-! ===== QUESTIONS: both halves ===== -/
theorem INV_y {I J K : Ii} {X : Sx} {d m : Nat} {args : List Value} {T T' : Tt} {o : Ou} (h : INV I) (h1 : z_fr m_cs I J) (hq : q_call X q_sb q_pg d m args (q_Z0, J, T) = some (o, (q_Z0, K, T'))) (h2 : z_fr m_q J K) : INV K := INV_q h h1 h2 (p_keep hq (by rw [z_cs_hi h1 139 (by omega)]; exact h.2.2.2.2))
def S_ok (X : Sx) (d i : Nat) (op : Int32) : Prop := ∀ (o5 o6 : Option Value) (I : Ii) (T : Tt), X.1 ≤ 3072 → i + 6 ≤ X.1 → INV I → ∃ K, j_go X d i op o5 o6 I T K ∧ INV K
theorem S_5 (X : Sx) (d i : Nat) : S_ok X d i 5 := by
  intro o5 o6 I T hX hi h
  obtain ⟨n, m, h27⟩ := INV_27 h
  have hn := h27.1.2.1
  have n3 := k_n3 h27
  rcases z_yn (X.2 (i + 1)) n (by omega) with ⟨j, hj, ej⟩ | hv
  · rcases z_yn (X.2 (i + 2)) 10 (by omega) with ⟨w, hw, ew⟩ | hw
    · obtain ⟨J, a1, a2⟩ := k_Xjar1 X (d + 37) I T (I 140) n m j w h27 hj (by omega)
      obtain ⟨K, b1, b2, b3⟩ := l_jarC1 X (d + 13) J (q_tl T 150 0 _) n j w (by rw [z_cs140 a2]; exact H27_g h27) hj (by omega)
      rw [z_cs140 a2] at b1
      exact ⟨K, jy_5 X d i o5 o6 I J K T _ hX hi (by rw [ej, ew]; exact a1) (by rw [ej, ew]; exact b1) b2, INV_y h a2 b1 b3⟩
    · exact ⟨_, jn_5_3 X d i o5 o6 I I _ T 0 hX hi (k_Xjar0 X (d + 37) I T n _ _ 2 n3 hn (.inr ⟨rfl, ⟨j, hj, ej⟩, hw⟩)) (l_jarC0 X (d + 13) I _ n _ _ 2 h27.1.1 hn (.inr ⟨rfl, ⟨j, hj, ej⟩, hw⟩)) (z_w_s _ _ _ _), INV_0 h _⟩
  · exact ⟨_, jn_5_2 X d i o5 o6 I I _ T 0 hX hi (k_Xjar0 X (d + 37) I T n _ _ 1 n3 hn (.inl ⟨rfl, hv⟩)) (l_jarC0 X (d + 13) I _ n _ _ 1 h27.1.1 hn (.inl ⟨rfl, hv⟩)) (z_w_s _ _ _ _), INV_0 h _⟩
theorem S_6 (X : Sx) (d i : Nat) : S_ok X d i 6 := by
  intro o5 o6 I T hX hi h
  obtain ⟨n, m, h27⟩ := INV_27 h
  have hn := h27.1.2.1
  have n3 := k_n3 h27
  have no : (z_no (X.2 (i + 1)) n ∨ (∃ j, j < n ∧ X.2 (i + 1) = nI j) ∧ z_no (X.2 (i + 2)) 6) → ∃ K, j_go X d i 6 o5 o6 I T K ∧ INV K := fun hv => ⟨_, jn_6_2 X d i o5 o6 I I _ T 0 hX hi (k_Xadvice0 X (d + 37) I T n _ _ _ n3 hn hv) (l_advice0 X (d + 14) I _ n _ _ _ (H27_g h27) hv) (z_w_s _ _ _ _), INV_0 h _⟩
  rcases z_yn (X.2 (i + 1)) n (by omega) with ⟨j, hj, ej⟩ | hv
  · rcases z_yn (X.2 (i + 2)) 6 (by omega) with ⟨t, ht, et⟩ | hv
    · obtain ⟨J, a1, a2⟩ := k_Xadvice1 X (d + 37) I T (I 140) n m j t (j_b (X.2 (i + 3))) h27 hj ht
      obtain ⟨K, b1, b2, b3⟩ := l_advice1 X (d + 14) J (q_tl T 150 0 _) n j t (j_b (X.2 (i + 3))) (by rw [z_cs140 a2]; exact H27_g h27) hj ht
      rw [z_cs140 a2] at b1
      exact ⟨K, jy_6 X d i o5 o6 I J K T _ hX hi (by rw [ej, et]; exact a1) (by rw [ej, et]; exact b1) b2, INV_y h a2 b1 b3⟩
    · exact no (.inr ⟨⟨j, hj, ej⟩, hv⟩)
  · exact no (.inl hv)
theorem S_7 (X : Sx) (d i : Nat) : S_ok X d i 7 := by
  intro o5 o6 I T hX hi h
  obtain ⟨n, m, h27⟩ := INV_27 h
  rcases z_yn (X.2 (i + 1)) 12 (by omega) with ⟨p, hp, ep⟩ | hv
  · exact ⟨_, jy_7 X d i o5 o6 I I _ T _ hX hi (by rw [ep]; exact k_Xlight1 X (d + 37) I T (I 140) n m p h27 hp) (by rw [ep]; exact l_light1 X (d + 47) I _ p hp) (z_w_s _ _ _ _), INV_0 h _⟩
  · exact ⟨_, jn_7_2 X d i o5 o6 I I _ T 0 hX hi (k_Xlight0 X (d + 37) I T _ hv) (l_light0 X (d + 47) _ I _ hv) (z_w_s _ _ _ _), INV_0 h _⟩
theorem S_8 (X : Sx) (d i : Nat) : S_ok X d i 8 := by
  intro o5 o6 I T hX hi h
  obtain ⟨n, m, h27⟩ := INV_27 h
  have hm := h27.1.2.2.2.1
  have n5 : I 3 5 = nI m := h27.2.1.2.1.trans h27.1.2.2.1
  rcases z_yn (X.2 (i + 1)) m (by omega) with ⟨k, hk, ek⟩ | hv
  · rcases z_yn (X.2 (i + 2)) 4 (by omega) with ⟨w, hw, ew⟩ | hw
    · obtain ⟨J, a1, a2⟩ := k_Xneed1 X (d + 37) I T (I 140) n m k w h27 hk (by omega)
      obtain ⟨K, b1, b2, b3⟩ := l_need1 X (d + 12) J (q_tl T 150 0 _) n m k w (by rw [z_cs140 a2]; exact H27_g h27) (by rw [z_cs140 a2]; exact h27.1.2.2.1) hm hk (by omega) (by rw [z_cs140 a2]; exact (h27.1.2.2.2.2.2.2.2.2.2.2.2 k hk).1)
      rw [z_cs140 a2] at b1
      exact ⟨K, jy_8 X d i o5 o6 I J K T _ hX hi (by rw [ek, ew]; exact a1) (by rw [ek, ew]; exact b1) b2, INV_y h a2 b1 b3⟩
    · exact ⟨_, jn_8_3 X d i o5 o6 I I _ T 0 hX hi (k_Xneed0 X (d + 37) I T m _ _ 2 n5 hm (.inr ⟨rfl, ⟨k, hk, ek⟩, hw⟩)) (l_need0 X (d + 12) I _ m _ _ 2 h27.1.2.2.1 hm (.inr ⟨rfl, ⟨k, hk, ek⟩, hw⟩)) (z_w_s _ _ _ _), INV_0 h _⟩
  · exact ⟨_, jn_8_2 X d i o5 o6 I I _ T 0 hX hi (k_Xneed0 X (d + 37) I T m _ _ 1 n5 hm (.inl ⟨rfl, hv⟩)) (l_need0 X (d + 12) I _ m _ _ 1 h27.1.2.2.1 hm (.inl ⟨rfl, hv⟩)) (z_w_s _ _ _ _), INV_0 h _⟩
theorem S_15 (X : Sx) (d i : Nat) : S_ok X d i 15 := by
  intro o5 o6 I T hX hi h
  obtain ⟨n, m, h27⟩ := INV_27 h
  have hn := h27.1.2.1
  have n3 := k_n3 h27
  obtain ⟨c, hc⟩ := z_two_ex n hn (X.2 (i + 1)) (X.2 (i + 2)) (X.2 (i + 3))
  rcases id hc with ⟨rfl, -⟩ | ⟨rfl, -⟩ | ⟨rfl, j, o, t, hj, ho, hne, ht, e1, e2, e3⟩
  · exact ⟨_, jn_15_2 X d i o5 o6 I I _ T 0 hX hi (k_Xmixture0 X (d + 37) I T n _ _ _ 1 n3 hn hc (by decide)) (l_mixture0 X (d + 13) I _ n _ _ _ 1 (H27_g h27) hc (.inl rfl)) (z_w_s _ _ _ _), INV_0 h _⟩
  · exact ⟨_, jn_15_0 X d i o5 o6 I I _ T 0 hX hi (k_Xmixture0 X (d + 37) I T n _ _ _ 2 n3 hn hc (by decide)) (l_mixture0 X (d + 13) I _ n _ _ _ 2 (H27_g h27) hc (.inr rfl)) (z_w_s _ _ _ _), INV_0 h _⟩
  · obtain ⟨J, a1, a2⟩ := k_Xmixture1 X (d + 37) I T (I 140) n m j o t h27 hj ho hne ht
    obtain ⟨K, b1, b2, b3⟩ := l_mixture1 X (d + 13) J (q_tl T 150 0 _) n j o t (by rw [z_cs140 a2]; exact H27_g h27) hj ho hne ht
    rw [z_cs140 a2] at b1
    exact ⟨K, jy_15 X d i o5 o6 I J K T _ hX hi (by rw [e1, e2, e3]; exact a1) (by rw [e1, e2, e3]; exact b1) b2, INV_y h a2 b1 b3⟩
theorem S_30 (X : Sx) (d i : Nat) : S_ok X d i 30 := by
  intro o5 o6 I T hX hi h
  obtain ⟨n, m, h27⟩ := INV_27 h
  have hn := h27.1.2.1
  have n3 := k_n3 h27
  obtain ⟨c, hc⟩ := z_two_ex n hn (X.2 (i + 1)) (X.2 (i + 2)) (X.2 (i + 3))
  rcases id hc with ⟨rfl, -⟩ | ⟨rfl, -⟩ | ⟨rfl, j, o, t, hj, ho, hne, ht, e1, e2, e3⟩
  · exact ⟨_, jn_30_2 X d i o5 o6 I I _ T 0 hX hi (k_Xwar0 X (d + 37) I T n _ _ _ 1 n3 hn hc (by decide)) (l_war0 X (d + 13) I _ n _ _ _ 1 (H27_g h27) hc (.inl rfl)) (z_w_s _ _ _ _), INV_0 h _⟩
  · exact ⟨_, jn_30_0 X d i o5 o6 I I _ T 0 hX hi (k_Xwar0 X (d + 37) I T n _ _ _ 2 n3 hn hc (by decide)) (l_war0 X (d + 13) I _ n _ _ _ 2 (H27_g h27) hc (.inr rfl)) (z_w_s _ _ _ _), INV_0 h _⟩
  · obtain ⟨J, a1, a2⟩ := k_Xwar1 X (d + 37) I T (I 140) n m j o t h27 hj ho hne ht
    obtain ⟨K, b1, b2, b3⟩ := l_war1 X (d + 13) J (q_tl T 150 0 _) n j o t (by rw [z_cs140 a2]; exact H27_g h27) hj ho hne ht
    rw [z_cs140 a2] at b1
    exact ⟨K, jy_30 X d i o5 o6 I J K T _ hX hi (by rw [e1, e2, e3]; exact a1) (by rw [e1, e2, e3]; exact b1) b2, INV_y h a2 b1 b3⟩
theorem S_16 (X : Sx) (d i : Nat) : S_ok X d i 16 := by
  intro o5 o6 I T hX hi h
  obtain ⟨n, m, h27⟩ := INV_27 h
  rcases z_yn (X.2 (i + 1)) 6 (by omega) with ⟨t, ht, et⟩ | hv
  · rcases z_yn (X.2 (i + 2)) 10 (by omega) with ⟨q, hq, eq⟩ | hq
    · obtain ⟨J, a1, a2⟩ := k_Xbest1 X (d + 37) I T (I 140) n m t q h27 ht (by omega)
      rw [R_best_10 _ _ _ _ (by omega)] at a1
      obtain ⟨K, b1, b2, b3⟩ := l_bestC1 X (d + 13) J (q_tl T 150 0 _) n t q (by rw [z_cs140 a2]; exact H27_g h27) ht (by omega)
      rw [z_cs140 a2] at b1
      exact ⟨K, jy_16 X d i o5 o6 I J K T _ hX hi (by rw [et, eq]; exact a1) (by rw [et, eq]; exact b1) b2, INV_y h a2 b1 b3⟩
    · exact ⟨_, jn_16_0 X d i o5 o6 I I _ T 0 hX hi (by rw [et]; exact k_Xbest2 X (d + 37) I T t ht _ hq) (l_bestC0 X (d + 13) I _ _ _ 2 (.inr ⟨rfl, ⟨t, ht, et⟩, hq⟩)) (z_w_s _ _ _ _), INV_0 h _⟩
  · exact ⟨_, jn_16_2 X d i o5 o6 I I _ T 0 hX hi (k_Xbest0 X (d + 37) I T _ _ hv) (l_bestC0 X (d + 13) I _ _ _ 1 (.inl ⟨rfl, hv⟩)) (z_w_s _ _ _ _), INV_0 h _⟩
theorem S_17 (X : Sx) (d i : Nat) : S_ok X d i 17 := by
  intro o5 o6 I T hX hi h
  obtain ⟨n, m, h27⟩ := INV_27 h
  obtain ⟨J, a1, a2⟩ := k_Xcoalition X (d + 38) I T (I 140) n m h27
  obtain ⟨K, b1, b2, b3⟩ := l_coalition X (d + 13) J T n (by rw [z_cs140 a2]; exact H27_g h27)
  rw [z_cs140 a2] at b1
  exact ⟨K, jy_17 X d i o5 o6 I J K T _ hX hi a1 b1, INV_y h a2 b1 b3⟩
theorem S_18 (X : Sx) (d i : Nat) : S_ok X d i 18 := by
  intro o5 o6 I T hX hi h
  obtain ⟨n, m, h27⟩ := INV_27 h
  obtain ⟨J, a1, a2⟩ := k_Xagree X (d + 38) I T (I 140) n m (X.2 (i + 1)) h27
  obtain ⟨K, b1, b2, b3⟩ := l_agree X (d + 14) J T n (X.2 (i + 1)) (by rw [z_cs140 a2]; exact H27_g h27)
  rw [z_cs140 a2] at b1
  exact ⟨K, jy_18 X d i o5 o6 I J K T _ hX hi a1 b1, INV_y h a2 b1 b2⟩
theorem S_19 (X : Sx) (d i : Nat) : S_ok X d i 19 := by
  intro o5 o6 I T hX hi h
  obtain ⟨n, m, h27⟩ := INV_27 h
  rcases z_yn (X.2 (i + 1)) 10 (by omega) with ⟨q, hq, eq⟩ | hv
  · obtain ⟨J, a1, a2⟩ := k_Xcover1 X (d + 37) I T (I 140) n m q h27 (by omega)
    obtain ⟨K, b1, b2, b3⟩ := l_cover1 X (d + 14) J (q_tl T 150 0 _) n q (by rw [z_cs140 a2]; exact H27_g h27) (by omega)
    rw [z_cs140 a2] at b1
    exact ⟨K, jy_19 X d i o5 o6 I J K T _ hX hi (by rw [eq]; exact a1) (by rw [eq]; exact b1) b2, INV_y h a2 b1 b3⟩
  · exact ⟨_, jn_19_0 X d i o5 o6 I I _ T 0 hX hi (k_Xcover0 X (d + 37) I T _ hv) (l_cover0 X (d + 14) I _ _ hv) (z_w_s _ _ _ _), INV_0 h _⟩
theorem S_20 (X : Sx) (d i : Nat) : S_ok X d i 20 := by
  intro o5 o6 I T hX hi h
  obtain ⟨n, m, h27⟩ := INV_27 h
  obtain ⟨J, g, a1, a2, a3⟩ := k_Xplan X (d + 25) I T (I 140) n m h27
  obtain ⟨K, b1, b2, b3⟩ := l_plan X (d + 12) J T n m g (by rw [z_cs140 a2]; exact H27_g h27) (by rw [z_cs140 a2]; exact a_ok_of h27.1) (by rw [z_cs140 a2]; exact h27.1.2.2.1) h27.1.2.2.2.1 (fun k hk => by rw [z_cs140 a2]; exact (h27.1.2.2.2.2.2.2.2.2.2.2.2 k hk).1) (by rw [z_cs140 a2]; exact a3)
  exact ⟨K, jy_20 X d i o5 o6 I J K T _ hX hi a1 b1, INV_y h a2 b1 b2⟩
theorem S_21 (X : Sx) (d i : Nat) : S_ok X d i 21 := by
  intro o5 o6 I T hX hi h
  obtain ⟨n, m, h27⟩ := INV_27 h
  obtain ⟨J, a1, a2⟩ := k_Xunmet X (d + 38) I T (I 140) n m h27
  obtain ⟨K, b1, b2, b3⟩ := l_unmet X (d + 12) J T n m (by rw [z_cs140 a2]; exact H27_g h27) (by rw [z_cs140 a2]; exact h27.1.2.2.1) h27.1.2.2.2.1 (fun k hk => by rw [z_cs140 a2]; exact (h27.1.2.2.2.2.2.2.2.2.2.2.2 k hk).1)
  rw [z_cs140 a2] at b1
  exact ⟨K, jy_21 X d i o5 o6 I J K T _ hX hi a1 b1, INV_y h a2 b1 b3⟩
theorem S_24 (X : Sx) (d i : Nat) : S_ok X d i 24 := by
  intro o5 o6 I T hX hi h
  obtain ⟨n, m, h27⟩ := INV_27 h
  exact ⟨_, jy_24 X d i o5 o6 I I _ T _ hX hi (k_Xharm X (d + 38) I T (I 140) n m h27) (l_harm X (d + 48) I T n h27.1.1 h27.1.2.1 (fun j hj => (h27.1.2.2.2.2.2.2.2.2.2.2.1 j hj).2.1)), INV_0 h _⟩
theorem S_25 (X : Sx) (d i : Nat) : S_ok X d i 25 := by
  intro o5 o6 I T hX hi h
  obtain ⟨n, m, h27⟩ := INV_27 h
  have hn := h27.1.2.1
  have yes : (X.2 (i + 1) = -1 ∨ ∃ j, j < n ∧ X.2 (i + 1) = nI j) → ∃ K, j_go X d i 25 o5 o6 I T K ∧ INV K := by
    intro hv
    obtain ⟨J, a1, a2⟩ := k_Xarranged1 X (d + 37) I T (I 140) n m (X.2 (i + 1)) h27 hv
    obtain ⟨K, b1, b2, b3⟩ := l_arranged1 X (d + 46) J (q_tl T 150 0 _) n (X.2 (i + 1)) (by rw [z_cs140 a2]; exact a_ok_of h27.1) hv
    rw [z_cs140 a2] at b1
    exact ⟨K, jy_25 X d i o5 o6 I J K T _ hX hi a1 b1 b3, INV_y h a2 b1 b2⟩
  by_cases hm : X.2 (i + 1) = -1
  · exact yes (.inl hm)
  rcases z_yn (X.2 (i + 1)) n (by omega) with hj | hv
  · exact yes (.inr hj)
  · exact ⟨_, jn_25_2 X d i o5 o6 I I _ T 0 hX hi (k_Xarranged0 X (d + 37) I T n _ (k_n3 h27) hv hm) (l_arranged0 X (d + 46) I _ n _ h27.1.1 hn hv hm) (z_w_s _ _ _ _), INV_0 h _⟩
theorem S_26 (X : Sx) (d i : Nat) : S_ok X d i 26 := by
  intro o5 o6 I T hX hi h
  obtain ⟨n, m, h27⟩ := INV_27 h
  have hn := h27.1.2.1
  by_cases hm : X.2 (i + 1) = -1
  · exact ⟨_, jy_26 X d i o5 o6 I I _ T _ hX hi (by rw [hm]; exact k_XfallsW X (d + 37) I T (I 140) n m h27) (by rw [hm]; exact l_fallsW X (d + 46) I _ n h27.1.1 hn) (z_w_s _ _ _ _), INV_0 h _⟩
  rcases z_yn (X.2 (i + 1)) 12 (by omega) with ⟨p, hp, ep⟩ | hv
  · exact ⟨_, jy_26 X d i o5 o6 I I _ T _ hX hi (by rw [ep]; exact k_Xfalls1 X (d + 37) I T (I 140) n m p h27 hp) (by rw [ep]; exact l_falls1 X (d + 46) I _ n p h27.1.1 hn hp) (z_w_s _ _ _ _), INV_0 h _⟩
  · exact ⟨_, jn_26_2 X d i o5 o6 I I _ T 0 hX hi (k_Xfalls0 X (d + 37) I T _ hv hm) (l_falls0 X (d + 46) I _ _ hv hm) (z_w_s _ _ _ _), INV_0 h _⟩
theorem S_27 (X : Sx) (d i : Nat) : S_ok X d i 27 := by
  intro o5 o6 I T hX hi h
  obtain ⟨n, m, h27⟩ := INV_27 h
  exact ⟨_, jy_27 X d i o5 o6 I I _ T _ hX hi (k_Xwins X (d + 38) I T (I 140) n m _ h27) (l_wins X (d + 46) _ I T n h27.1.1 h27.1.2.1), INV_0 h _⟩
theorem S_28 (X : Sx) (d i : Nat) : S_ok X d i 28 := by
  intro o5 o6 I T hX hi h
  obtain ⟨n, m, h27⟩ := INV_27 h
  exact ⟨_, jy_28 X d i o5 o6 I I _ T _ hX hi (k_Xsmallest X (d + 38) I T (I 140) n m _ h27) (l_smallest X (d + 45) _ _ (by by_cases c : j_b (X.2 (i + 1)) = 0 <;> simp [c]) I T n h27.1.1 h27.1.2.1), INV_0 h _⟩
theorem S_29 (X : Sx) (d i : Nat) : S_ok X d i 29 := by
  intro o5 o6 I T hX hi h
  obtain ⟨n, m, h27⟩ := INV_27 h
  obtain ⟨J, a1, a2⟩ := k_Xdummies X (d + 38) I T (I 140) n m h27
  have b1 := l_dummies X (d + 45) J T n (by rw [z_cs140 a2]; exact h27.1.1) h27.1.2.1
  rw [z_cs140 a2] at b1
  exact ⟨_, jy_29 X d i o5 o6 I J _ T _ hX hi a1 b1, INV_y h a2 b1 (z_q0 J 0)⟩
