/-! ===== THE LAW: an answer, or an exception and its code ===== -/
theorem j_tlT (T : Tt) (v : Int64) : (q_tl T 150 0 v).2 = T.2 := rfl
theorem j_ttT (T : Tt) : (q_tt T).2.1 = T.2.1 + 1 ∧ (q_tt T).2.2 = T.2.2 + 6 := ⟨rfl, rfl⟩
/-- one call more, with at most one exception made -/
def j_go (X : Sx) (d i : Nat) (op : Int32) (o5 o6 : Option Value) (I : Ii) (T : Tt) (K : Ii) : Prop := ∃ u5 u6 T1, c_L_law__24 X (d + 50) (nI i) o5 o6 op I T = c_L_law__13 X (d + 50) (nI (i + 6)) u5 u6 K T1 ∧ T1.2.1 ≤ T.2.1 + 1 ∧ T1.2.2 ≤ T.2.2 + 6
theorem jy_0 (X : Sx) (d i : Nat) (o5 o6 : Option Value) (I J K : Ii) (T : Tt) (b : Int32) (hX : X.1 ≤ 3072) (hi : i + 6 ≤ X.1) (h1 : c_X11_feed_0 X (d + 50) (X.2 (i + 1)) (X.2 (i + 2)) (X.2 (i + 3)) (X.2 (i + 4)) (X.2 (i + 5)) I T = z_r b J T) (h2 : c_X12_feed_139 X (d + 50) (X.2 (i + 1)) (X.2 (i + 2)) (X.2 (i + 3)) (X.2 (i + 4)) (X.2 (i + 5)) J T = z_r b K T) : j_go X d i 0 o5 o6 I T K := by
  obtain ⟨u5, u6, h⟩ := j_0 X d i o5 o6 I J K T b hX hi h1 h2
  exact ⟨u5, u6, T, h, Nat.le_succ _, Nat.le_add_right _ _⟩
theorem jy_1 (X : Sx) (d i : Nat) (o5 o6 : Option Value) (I J K : Ii) (T : Tt) (b : Int32) (hX : X.1 ≤ 3072) (hi : i + 6 ≤ X.1) (h1 : c_X11_end_0 X (d + 50) (X.2 (i + 1)) I T = z_r b J T) (h2 : c_X12_end_139 X (d + 50) (X.2 (i + 1)) J T = z_r b K T) : j_go X d i 1 o5 o6 I T K := by
  obtain ⟨u5, u6, h⟩ := j_1 X d i o5 o6 I J K T b hX hi h1 h2
  exact ⟨u5, u6, T, h, Nat.le_succ _, Nat.le_add_right _ _⟩
theorem jy_2 (X : Sx) (d i : Nat) (o5 o6 : Option Value) (I J K : Ii) (T : Tt) (x : Int32) (hX : X.1 ≤ 3072) (hi : i + 6 ≤ X.1) (h1 : c_X11_cabinet_0 X (d + 49) I T = z_r x J T) (h2 : c_X12_cabinet_139 X (d + 50) J (q_tl T 150 0 x.toInt64) = z_r x K (q_tl T 150 0 x.toInt64)) (h3 : K 139 0 = 0) : j_go X d i 2 o5 o6 I T K := by
  have w : c_L_cabinet_0_150 X (d + 50) I T = z_r 0 J (q_tl T 150 0 x.toInt64) := by
    rw [e_L_cabinet_0_150, h1]
    exact (k_L_cabinet_0_150_4 X (d + 49)  x J T).trans (e_L_cabinet_0_150_4 X (d + 49)  x J T)
  obtain ⟨u5, u6, h⟩ := j_2 X d i o5 o6 I J K T _ 0 x hX hi w h2 h3 (fun _ => j_tl T 150 0 _)
  exact ⟨u5, u6, _, h, Nat.le_succ _, Nat.le_add_right _ _⟩
theorem jn_2_0 (X : Sx) (d i : Nat) (o5 o6 : Option Value) (I J K : Ii) (T : Tt) (b : Int32) (hX : X.1 ≤ 3072) (hi : i + 6 ≤ X.1) (h1 : c_X11_cabinet_0 X (d + 49) I T = z_x 0 J T) (h2 : c_X12_cabinet_139 X (d + 50) J (q_tt T) = z_r b K (q_tt T)) (h3 : K 139 0 = 1) : j_go X d i 2 o5 o6 I T K := by
  have w : c_L_cabinet_0_150 X (d + 50) I T = z_r 1 J (q_tt T) := by
    rw [e_L_cabinet_0_150, h1]
    rfl
  obtain ⟨u5, u6, h⟩ := j_2 X d i o5 o6 I J K T _ 1 b hX hi w h2 h3 (fun c => absurd c (by decide))
  exact ⟨u5, u6, _, h, Nat.le_refl _, Nat.le_refl _⟩
theorem jn_2_1 (X : Sx) (d i : Nat) (o5 o6 : Option Value) (I J K : Ii) (T : Tt) (b : Int32) (hX : X.1 ≤ 3072) (hi : i + 6 ≤ X.1) (h1 : c_X11_cabinet_0 X (d + 49) I T = z_x 1 J T) (h2 : c_X12_cabinet_139 X (d + 50) J (q_tt T) = z_r b K (q_tt T)) (h3 : K 139 0 = 2) : j_go X d i 2 o5 o6 I T K := by
  have w : c_L_cabinet_0_150 X (d + 50) I T = z_r 2 J (q_tt T) := by
    rw [e_L_cabinet_0_150, h1]
    rfl
  obtain ⟨u5, u6, h⟩ := j_2 X d i o5 o6 I J K T _ 2 b hX hi w h2 h3 (fun c => absurd c (by decide))
  exact ⟨u5, u6, _, h, Nat.le_refl _, Nat.le_refl _⟩
theorem jy_3 (X : Sx) (d i : Nat) (o5 o6 : Option Value) (I J K : Ii) (T : Tt) (x : Int32) (hX : X.1 ≤ 3072) (hi : i + 6 ≤ X.1) (h1 : c_X11_law_0 X (d + 49) I T = z_r x J T) (h2 : c_X12_law_139 X (d + 50) J (q_tl T 150 0 x.toInt64) = z_r x K (q_tl T 150 0 x.toInt64)) (h3 : K 139 0 = 0) : j_go X d i 3 o5 o6 I T K := by
  have w : c_L_law_0_150 X (d + 50) I T = z_r 0 J (q_tl T 150 0 x.toInt64) := by
    rw [e_L_law_0_150, h1]
    exact (k_L_law_0_150_4 X (d + 49)  x J T).trans (e_L_law_0_150_4 X (d + 49)  x J T)
  obtain ⟨u5, u6, h⟩ := j_3 X d i o5 o6 I J K T _ 0 x hX hi w h2 h3 (fun _ => j_tl T 150 0 _)
  exact ⟨u5, u6, _, h, Nat.le_succ _, Nat.le_add_right _ _⟩
theorem jn_3_0 (X : Sx) (d i : Nat) (o5 o6 : Option Value) (I J K : Ii) (T : Tt) (b : Int32) (hX : X.1 ≤ 3072) (hi : i + 6 ≤ X.1) (h1 : c_X11_law_0 X (d + 49) I T = z_x 0 J T) (h2 : c_X12_law_139 X (d + 50) J (q_tt T) = z_r b K (q_tt T)) (h3 : K 139 0 = 1) : j_go X d i 3 o5 o6 I T K := by
  have w : c_L_law_0_150 X (d + 50) I T = z_r 1 J (q_tt T) := by
    rw [e_L_law_0_150, h1]
    rfl
  obtain ⟨u5, u6, h⟩ := j_3 X d i o5 o6 I J K T _ 1 b hX hi w h2 h3 (fun c => absurd c (by decide))
  exact ⟨u5, u6, _, h, Nat.le_refl _, Nat.le_refl _⟩
theorem jy_4 (X : Sx) (d i : Nat) (o5 o6 : Option Value) (I J K : Ii) (T : Tt) (b : Int32) (hX : X.1 ≤ 3072) (hi : i + 6 ≤ X.1) (h1 : c_X11_fault_0 X (d + 50) I T = z_r b J T) (h2 : c_X12_fault_139 X (d + 50) J T = z_r b K T) : j_go X d i 4 o5 o6 I T K := by
  obtain ⟨u5, u6, h⟩ := j_4 X d i o5 o6 I J K T b hX hi h1 h2
  exact ⟨u5, u6, T, h, Nat.le_succ _, Nat.le_add_right _ _⟩
theorem jy_5 (X : Sx) (d i : Nat) (o5 o6 : Option Value) (I J K : Ii) (T : Tt) (x : Int32) (hX : X.1 ≤ 3072) (hi : i + 6 ≤ X.1) (h1 : c_X11_jar_0 X (d + 49) (X.2 (i + 1)) (X.2 (i + 2)) I T = z_r x J T) (h2 : c_X12_jar_139 X (d + 50) (X.2 (i + 1)) (X.2 (i + 2)) J (q_tl T 150 0 x.toInt64) = z_r x K (q_tl T 150 0 x.toInt64)) (h3 : K 139 0 = 0) : j_go X d i 5 o5 o6 I T K := by
  have w : c_L_jar_0_150 X (d + 50) (X.2 (i + 1)) (X.2 (i + 2)) I T = z_r 0 J (q_tl T 150 0 x.toInt64) := by
    rw [e_L_jar_0_150, h1]
    exact (k_L_jar_0_150_6 X (d + 49) _ _ x J T).trans (e_L_jar_0_150_6 X (d + 49) _ _ x J T)
  obtain ⟨u5, u6, h⟩ := j_5 X d i o5 o6 I J K T _ 0 x hX hi w h2 h3 (fun _ => j_tl T 150 0 _)
  exact ⟨u5, u6, _, h, Nat.le_succ _, Nat.le_add_right _ _⟩
theorem jn_5_2 (X : Sx) (d i : Nat) (o5 o6 : Option Value) (I J K : Ii) (T : Tt) (b : Int32) (hX : X.1 ≤ 3072) (hi : i + 6 ≤ X.1) (h1 : c_X11_jar_0 X (d + 49) (X.2 (i + 1)) (X.2 (i + 2)) I T = z_x 2 J T) (h2 : c_X12_jar_139 X (d + 50) (X.2 (i + 1)) (X.2 (i + 2)) J (q_tt T) = z_r b K (q_tt T)) (h3 : K 139 0 = 1) : j_go X d i 5 o5 o6 I T K := by
  have w : c_L_jar_0_150 X (d + 50) (X.2 (i + 1)) (X.2 (i + 2)) I T = z_r 1 J (q_tt T) := by
    rw [e_L_jar_0_150, h1]
    rfl
  obtain ⟨u5, u6, h⟩ := j_5 X d i o5 o6 I J K T _ 1 b hX hi w h2 h3 (fun c => absurd c (by decide))
  exact ⟨u5, u6, _, h, Nat.le_refl _, Nat.le_refl _⟩
theorem jn_5_3 (X : Sx) (d i : Nat) (o5 o6 : Option Value) (I J K : Ii) (T : Tt) (b : Int32) (hX : X.1 ≤ 3072) (hi : i + 6 ≤ X.1) (h1 : c_X11_jar_0 X (d + 49) (X.2 (i + 1)) (X.2 (i + 2)) I T = z_x 3 J T) (h2 : c_X12_jar_139 X (d + 50) (X.2 (i + 1)) (X.2 (i + 2)) J (q_tt T) = z_r b K (q_tt T)) (h3 : K 139 0 = 2) : j_go X d i 5 o5 o6 I T K := by
  have w : c_L_jar_0_150 X (d + 50) (X.2 (i + 1)) (X.2 (i + 2)) I T = z_r 2 J (q_tt T) := by
    rw [e_L_jar_0_150, h1]
    rfl
  obtain ⟨u5, u6, h⟩ := j_5 X d i o5 o6 I J K T _ 2 b hX hi w h2 h3 (fun c => absurd c (by decide))
  exact ⟨u5, u6, _, h, Nat.le_refl _, Nat.le_refl _⟩
theorem jy_6 (X : Sx) (d i : Nat) (o5 o6 : Option Value) (I J K : Ii) (T : Tt) (x : Int32) (hX : X.1 ≤ 3072) (hi : i + 6 ≤ X.1) (h1 : c_X11_advice_0 X (d + 49) (X.2 (i + 1)) (X.2 (i + 2)) (j_b (X.2 (i + 3))) I T = z_r x J T) (h2 : c_X12_advice_139 X (d + 50) (X.2 (i + 1)) (X.2 (i + 2)) (j_b (X.2 (i + 3))) J (q_tl T 150 0 x.toInt64) = z_r x K (q_tl T 150 0 x.toInt64)) (h3 : K 139 0 = 0) : j_go X d i 6 o5 o6 I T K := by
  have w : c_L_advice_0_150 X (d + 50) (X.2 (i + 1)) (X.2 (i + 2)) (j_b (X.2 (i + 3))) I T = z_r 0 J (q_tl T 150 0 x.toInt64) := by
    rw [e_L_advice_0_150, h1]
    exact (k_L_advice_0_150_7 X (d + 49) _ _ _ x J T).trans (e_L_advice_0_150_7 X (d + 49) _ _ _ x J T)
  obtain ⟨u5, u6, h⟩ := j_6 X d i o5 o6 I J K T _ 0 x hX hi w h2 h3 (fun _ => j_tl T 150 0 _)
  exact ⟨u5, u6, _, h, Nat.le_succ _, Nat.le_add_right _ _⟩
theorem jn_6_2 (X : Sx) (d i : Nat) (o5 o6 : Option Value) (I J K : Ii) (T : Tt) (b : Int32) (hX : X.1 ≤ 3072) (hi : i + 6 ≤ X.1) (h1 : c_X11_advice_0 X (d + 49) (X.2 (i + 1)) (X.2 (i + 2)) (j_b (X.2 (i + 3))) I T = z_x 2 J T) (h2 : c_X12_advice_139 X (d + 50) (X.2 (i + 1)) (X.2 (i + 2)) (j_b (X.2 (i + 3))) J (q_tt T) = z_r b K (q_tt T)) (h3 : K 139 0 = 1) : j_go X d i 6 o5 o6 I T K := by
  have w : c_L_advice_0_150 X (d + 50) (X.2 (i + 1)) (X.2 (i + 2)) (j_b (X.2 (i + 3))) I T = z_r 1 J (q_tt T) := by
    rw [e_L_advice_0_150, h1]
    rfl
  obtain ⟨u5, u6, h⟩ := j_6 X d i o5 o6 I J K T _ 1 b hX hi w h2 h3 (fun c => absurd c (by decide))
  exact ⟨u5, u6, _, h, Nat.le_refl _, Nat.le_refl _⟩
theorem jy_7 (X : Sx) (d i : Nat) (o5 o6 : Option Value) (I J K : Ii) (T : Tt) (x : Int32) (hX : X.1 ≤ 3072) (hi : i + 6 ≤ X.1) (h1 : c_X11_light_0 X (d + 49) (X.2 (i + 1)) I T = z_r x J T) (h2 : c_X12_light_139 X (d + 50) (X.2 (i + 1)) J (q_tl T 150 0 x.toInt64) = z_r x K (q_tl T 150 0 x.toInt64)) (h3 : K 139 0 = 0) : j_go X d i 7 o5 o6 I T K := by
  have w : c_L_light_0_150 X (d + 50) (X.2 (i + 1)) I T = z_r 0 J (q_tl T 150 0 x.toInt64) := by
    rw [e_L_light_0_150, h1]
    exact (k_L_light_0_150_5 X (d + 49) _ x J T).trans (e_L_light_0_150_5 X (d + 49) _ x J T)
  obtain ⟨u5, u6, h⟩ := j_7 X d i o5 o6 I J K T _ 0 x hX hi w h2 h3 (fun _ => j_tl T 150 0 _)
  exact ⟨u5, u6, _, h, Nat.le_succ _, Nat.le_add_right _ _⟩
theorem jn_7_2 (X : Sx) (d i : Nat) (o5 o6 : Option Value) (I J K : Ii) (T : Tt) (b : Int32) (hX : X.1 ≤ 3072) (hi : i + 6 ≤ X.1) (h1 : c_X11_light_0 X (d + 49) (X.2 (i + 1)) I T = z_x 2 J T) (h2 : c_X12_light_139 X (d + 50) (X.2 (i + 1)) J (q_tt T) = z_r b K (q_tt T)) (h3 : K 139 0 = 1) : j_go X d i 7 o5 o6 I T K := by
  have w : c_L_light_0_150 X (d + 50) (X.2 (i + 1)) I T = z_r 1 J (q_tt T) := by
    rw [e_L_light_0_150, h1]
    rfl
  obtain ⟨u5, u6, h⟩ := j_7 X d i o5 o6 I J K T _ 1 b hX hi w h2 h3 (fun c => absurd c (by decide))
  exact ⟨u5, u6, _, h, Nat.le_refl _, Nat.le_refl _⟩
theorem jy_8 (X : Sx) (d i : Nat) (o5 o6 : Option Value) (I J K : Ii) (T : Tt) (x : Int32) (hX : X.1 ≤ 3072) (hi : i + 6 ≤ X.1) (h1 : c_X11_need_0 X (d + 49) (X.2 (i + 1)) (X.2 (i + 2)) I T = z_r x J T) (h2 : c_X12_need_139 X (d + 50) (X.2 (i + 1)) (X.2 (i + 2)) J (q_tl T 150 0 x.toInt64) = z_r x K (q_tl T 150 0 x.toInt64)) (h3 : K 139 0 = 0) : j_go X d i 8 o5 o6 I T K := by
  have w : c_L_need_0_150 X (d + 50) (X.2 (i + 1)) (X.2 (i + 2)) I T = z_r 0 J (q_tl T 150 0 x.toInt64) := by
    rw [e_L_need_0_150, h1]
    exact (k_L_need_0_150_6 X (d + 49) _ _ x J T).trans (e_L_need_0_150_6 X (d + 49) _ _ x J T)
  obtain ⟨u5, u6, h⟩ := j_8 X d i o5 o6 I J K T _ 0 x hX hi w h2 h3 (fun _ => j_tl T 150 0 _)
  exact ⟨u5, u6, _, h, Nat.le_succ _, Nat.le_add_right _ _⟩
theorem jn_8_2 (X : Sx) (d i : Nat) (o5 o6 : Option Value) (I J K : Ii) (T : Tt) (b : Int32) (hX : X.1 ≤ 3072) (hi : i + 6 ≤ X.1) (h1 : c_X11_need_0 X (d + 49) (X.2 (i + 1)) (X.2 (i + 2)) I T = z_x 2 J T) (h2 : c_X12_need_139 X (d + 50) (X.2 (i + 1)) (X.2 (i + 2)) J (q_tt T) = z_r b K (q_tt T)) (h3 : K 139 0 = 1) : j_go X d i 8 o5 o6 I T K := by
  have w : c_L_need_0_150 X (d + 50) (X.2 (i + 1)) (X.2 (i + 2)) I T = z_r 1 J (q_tt T) := by
    rw [e_L_need_0_150, h1]
    rfl
  obtain ⟨u5, u6, h⟩ := j_8 X d i o5 o6 I J K T _ 1 b hX hi w h2 h3 (fun c => absurd c (by decide))
  exact ⟨u5, u6, _, h, Nat.le_refl _, Nat.le_refl _⟩
theorem jn_8_3 (X : Sx) (d i : Nat) (o5 o6 : Option Value) (I J K : Ii) (T : Tt) (b : Int32) (hX : X.1 ≤ 3072) (hi : i + 6 ≤ X.1) (h1 : c_X11_need_0 X (d + 49) (X.2 (i + 1)) (X.2 (i + 2)) I T = z_x 3 J T) (h2 : c_X12_need_139 X (d + 50) (X.2 (i + 1)) (X.2 (i + 2)) J (q_tt T) = z_r b K (q_tt T)) (h3 : K 139 0 = 2) : j_go X d i 8 o5 o6 I T K := by
  have w : c_L_need_0_150 X (d + 50) (X.2 (i + 1)) (X.2 (i + 2)) I T = z_r 2 J (q_tt T) := by
    rw [e_L_need_0_150, h1]
    rfl
  obtain ⟨u5, u6, h⟩ := j_8 X d i o5 o6 I J K T _ 2 b hX hi w h2 h3 (fun c => absurd c (by decide))
  exact ⟨u5, u6, _, h, Nat.le_refl _, Nat.le_refl _⟩
theorem jy_9 (X : Sx) (d i : Nat) (o5 o6 : Option Value) (I J K : Ii) (T : Tt) (x : Int32) (hX : X.1 ≤ 3072) (hi : i + 6 ≤ X.1) (h1 : c_X11_ask_0 X (d + 49) (X.2 (i + 1)) (X.2 (i + 2)) I T = z_r x J T) (h2 : c_X12_ask_139 X (d + 50) (X.2 (i + 1)) (X.2 (i + 2)) J (q_tl T 150 0 x.toInt64) = z_r x K (q_tl T 150 0 x.toInt64)) (h3 : K 139 0 = 0) : j_go X d i 9 o5 o6 I T K := by
  have w : c_L_ask_0_150 X (d + 50) (X.2 (i + 1)) (X.2 (i + 2)) I T = z_r 0 J (q_tl T 150 0 x.toInt64) := by
    rw [e_L_ask_0_150, h1]
    exact (k_L_ask_0_150_6 X (d + 49) _ _ x J T).trans (e_L_ask_0_150_6 X (d + 49) _ _ x J T)
  obtain ⟨u5, u6, h⟩ := j_9 X d i o5 o6 I J K T _ 0 x hX hi w h2 h3 (fun _ => j_tl T 150 0 _)
  exact ⟨u5, u6, _, h, Nat.le_succ _, Nat.le_add_right _ _⟩
theorem jn_9_2 (X : Sx) (d i : Nat) (o5 o6 : Option Value) (I J K : Ii) (T : Tt) (b : Int32) (hX : X.1 ≤ 3072) (hi : i + 6 ≤ X.1) (h1 : c_X11_ask_0 X (d + 49) (X.2 (i + 1)) (X.2 (i + 2)) I T = z_x 2 J T) (h2 : c_X12_ask_139 X (d + 50) (X.2 (i + 1)) (X.2 (i + 2)) J (q_tt T) = z_r b K (q_tt T)) (h3 : K 139 0 = 1) : j_go X d i 9 o5 o6 I T K := by
  have w : c_L_ask_0_150 X (d + 50) (X.2 (i + 1)) (X.2 (i + 2)) I T = z_r 1 J (q_tt T) := by
    rw [e_L_ask_0_150, h1]
    rfl
  obtain ⟨u5, u6, h⟩ := j_9 X d i o5 o6 I J K T _ 1 b hX hi w h2 h3 (fun c => absurd c (by decide))
  exact ⟨u5, u6, _, h, Nat.le_refl _, Nat.le_refl _⟩
theorem jn_9_4 (X : Sx) (d i : Nat) (o5 o6 : Option Value) (I J K : Ii) (T : Tt) (b : Int32) (hX : X.1 ≤ 3072) (hi : i + 6 ≤ X.1) (h1 : c_X11_ask_0 X (d + 49) (X.2 (i + 1)) (X.2 (i + 2)) I T = z_x 4 J T) (h2 : c_X12_ask_139 X (d + 50) (X.2 (i + 1)) (X.2 (i + 2)) J (q_tt T) = z_r b K (q_tt T)) (h3 : K 139 0 = 2) : j_go X d i 9 o5 o6 I T K := by
  have w : c_L_ask_0_150 X (d + 50) (X.2 (i + 1)) (X.2 (i + 2)) I T = z_r 2 J (q_tt T) := by
    rw [e_L_ask_0_150, h1]
    rfl
  obtain ⟨u5, u6, h⟩ := j_9 X d i o5 o6 I J K T _ 2 b hX hi w h2 h3 (fun c => absurd c (by decide))
  exact ⟨u5, u6, _, h, Nat.le_refl _, Nat.le_refl _⟩
theorem jy_10 (X : Sx) (d i : Nat) (o5 o6 : Option Value) (I J K : Ii) (T : Tt) (x : Int32) (hX : X.1 ≤ 3072) (hi : i + 6 ≤ X.1) (h1 : c_X11_mix_0 X (d + 49) (X.2 (i + 1)) (X.2 (i + 2)) (X.2 (i + 3)) I T = z_r x J T) (h2 : c_X12_mix_139 X (d + 50) (X.2 (i + 1)) (X.2 (i + 2)) (X.2 (i + 3)) J (q_tl T 150 0 x.toInt64) = z_r x K (q_tl T 150 0 x.toInt64)) (h3 : K 139 0 = 0) : j_go X d i 10 o5 o6 I T K := by
  have w : c_L_mix_0_150 X (d + 50) (X.2 (i + 1)) (X.2 (i + 2)) (X.2 (i + 3)) I T = z_r 0 J (q_tl T 150 0 x.toInt64) := by
    rw [e_L_mix_0_150, h1]
    exact (k_L_mix_0_150_7 X (d + 49) _ _ _ x J T).trans (e_L_mix_0_150_7 X (d + 49) _ _ _ x J T)
  obtain ⟨u5, u6, h⟩ := j_10 X d i o5 o6 I J K T _ 0 x hX hi w h2 h3 (fun _ => j_tl T 150 0 _)
  exact ⟨u5, u6, _, h, Nat.le_succ _, Nat.le_add_right _ _⟩
theorem jn_10_0 (X : Sx) (d i : Nat) (o5 o6 : Option Value) (I J K : Ii) (T : Tt) (b : Int32) (hX : X.1 ≤ 3072) (hi : i + 6 ≤ X.1) (h1 : c_X11_mix_0 X (d + 49) (X.2 (i + 1)) (X.2 (i + 2)) (X.2 (i + 3)) I T = z_x 0 J T) (h2 : c_X12_mix_139 X (d + 50) (X.2 (i + 1)) (X.2 (i + 2)) (X.2 (i + 3)) J (q_tt T) = z_r b K (q_tt T)) (h3 : K 139 0 = 2) : j_go X d i 10 o5 o6 I T K := by
  have w : c_L_mix_0_150 X (d + 50) (X.2 (i + 1)) (X.2 (i + 2)) (X.2 (i + 3)) I T = z_r 2 J (q_tt T) := by
    rw [e_L_mix_0_150, h1]
    rfl
  obtain ⟨u5, u6, h⟩ := j_10 X d i o5 o6 I J K T _ 2 b hX hi w h2 h3 (fun c => absurd c (by decide))
  exact ⟨u5, u6, _, h, Nat.le_refl _, Nat.le_refl _⟩
theorem jn_10_2 (X : Sx) (d i : Nat) (o5 o6 : Option Value) (I J K : Ii) (T : Tt) (b : Int32) (hX : X.1 ≤ 3072) (hi : i + 6 ≤ X.1) (h1 : c_X11_mix_0 X (d + 49) (X.2 (i + 1)) (X.2 (i + 2)) (X.2 (i + 3)) I T = z_x 2 J T) (h2 : c_X12_mix_139 X (d + 50) (X.2 (i + 1)) (X.2 (i + 2)) (X.2 (i + 3)) J (q_tt T) = z_r b K (q_tt T)) (h3 : K 139 0 = 1) : j_go X d i 10 o5 o6 I T K := by
  have w : c_L_mix_0_150 X (d + 50) (X.2 (i + 1)) (X.2 (i + 2)) (X.2 (i + 3)) I T = z_r 1 J (q_tt T) := by
    rw [e_L_mix_0_150, h1]
    rfl
  obtain ⟨u5, u6, h⟩ := j_10 X d i o5 o6 I J K T _ 1 b hX hi w h2 h3 (fun c => absurd c (by decide))
  exact ⟨u5, u6, _, h, Nat.le_refl _, Nat.le_refl _⟩
theorem jn_10_4 (X : Sx) (d i : Nat) (o5 o6 : Option Value) (I J K : Ii) (T : Tt) (b : Int32) (hX : X.1 ≤ 3072) (hi : i + 6 ≤ X.1) (h1 : c_X11_mix_0 X (d + 49) (X.2 (i + 1)) (X.2 (i + 2)) (X.2 (i + 3)) I T = z_x 4 J T) (h2 : c_X12_mix_139 X (d + 50) (X.2 (i + 1)) (X.2 (i + 2)) (X.2 (i + 3)) J (q_tt T) = z_r b K (q_tt T)) (h3 : K 139 0 = 3) : j_go X d i 10 o5 o6 I T K := by
  have w : c_L_mix_0_150 X (d + 50) (X.2 (i + 1)) (X.2 (i + 2)) (X.2 (i + 3)) I T = z_r 3 J (q_tt T) := by
    rw [e_L_mix_0_150, h1]
    rfl
  obtain ⟨u5, u6, h⟩ := j_10 X d i o5 o6 I J K T _ 3 b hX hi w h2 h3 (fun c => absurd c (by decide))
  exact ⟨u5, u6, _, h, Nat.le_refl _, Nat.le_refl _⟩
theorem jy_11 (X : Sx) (d i : Nat) (o5 o6 : Option Value) (I J K : Ii) (T : Tt) (x : Int32) (hX : X.1 ≤ 3072) (hi : i + 6 ≤ X.1) (h1 : c_X11_close_0 X (d + 49) (X.2 (i + 1)) I T = z_r x J T) (h2 : c_X12_close_139 X (d + 50) (X.2 (i + 1)) J (q_tl T 150 0 (if x = 0 then Int64.ofNat 0 else Int64.ofNat 1)) = z_r x K (q_tl T 150 0 (if x = 0 then Int64.ofNat 0 else Int64.ofNat 1))) (h3 : K 139 0 = 0) : j_go X d i 11 o5 o6 I T K := by
  have w : c_L_close_0_150 X (d + 50) (X.2 (i + 1)) I T = z_r 0 J (q_tl T 150 0 (if x = 0 then Int64.ofNat 0 else Int64.ofNat 1)) := by
    rw [e_L_close_0_150, h1]
    refine (k_L_close_0_150_5 X (d + 49) _ x J T).trans ((e_L_close_0_150_5 X (d + 49) _ x J T).trans ?_)
    by_cases h0 : x = 0
    · rw [if_pos h0, if_pos h0, e_L_close_0_150_9]
    · rw [if_neg h0, if_neg h0, e_L_close_0_150_9]
  obtain ⟨u5, u6, h⟩ := j_11 X d i o5 o6 I J K T _ 0 x hX hi w h2 h3 (fun _ => j_tl T 150 0 _)
  exact ⟨u5, u6, _, h, Nat.le_succ _, Nat.le_add_right _ _⟩
theorem jn_11_2 (X : Sx) (d i : Nat) (o5 o6 : Option Value) (I J K : Ii) (T : Tt) (b : Int32) (hX : X.1 ≤ 3072) (hi : i + 6 ≤ X.1) (h1 : c_X11_close_0 X (d + 49) (X.2 (i + 1)) I T = z_x 2 J T) (h2 : c_X12_close_139 X (d + 50) (X.2 (i + 1)) J (q_tt T) = z_r b K (q_tt T)) (h3 : K 139 0 = 1) : j_go X d i 11 o5 o6 I T K := by
  have w : c_L_close_0_150 X (d + 50) (X.2 (i + 1)) I T = z_r 1 J (q_tt T) := by
    rw [e_L_close_0_150, h1]
    rfl
  obtain ⟨u5, u6, h⟩ := j_11 X d i o5 o6 I J K T _ 1 b hX hi w h2 h3 (fun c => absurd c (by decide))
  exact ⟨u5, u6, _, h, Nat.le_refl _, Nat.le_refl _⟩
theorem jy_12 (X : Sx) (d i : Nat) (o5 o6 : Option Value) (I J K : Ii) (T : Tt) (x : Int32) (hX : X.1 ≤ 3072) (hi : i + 6 ≤ X.1) (h1 : c_X11_label_0 X (d + 49) (X.2 (i + 1)) (X.2 (i + 2)) I T = z_r x J T) (h2 : c_X12_label_139 X (d + 50) (X.2 (i + 1)) (X.2 (i + 2)) J (q_tl T 150 0 x.toInt64) = z_r x K (q_tl T 150 0 x.toInt64)) (h3 : K 139 0 = 0) : j_go X d i 12 o5 o6 I T K := by
  have w : c_L_label_0_150 X (d + 50) (X.2 (i + 1)) (X.2 (i + 2)) I T = z_r 0 J (q_tl T 150 0 x.toInt64) := by
    rw [e_L_label_0_150, h1]
    exact (k_L_label_0_150_6 X (d + 49) _ _ x J T).trans (e_L_label_0_150_6 X (d + 49) _ _ x J T)
  obtain ⟨u5, u6, h⟩ := j_12 X d i o5 o6 I J K T _ 0 x hX hi w h2 h3 (fun _ => j_tl T 150 0 _)
  exact ⟨u5, u6, _, h, Nat.le_succ _, Nat.le_add_right _ _⟩
theorem jn_12_2 (X : Sx) (d i : Nat) (o5 o6 : Option Value) (I J K : Ii) (T : Tt) (b : Int32) (hX : X.1 ≤ 3072) (hi : i + 6 ≤ X.1) (h1 : c_X11_label_0 X (d + 49) (X.2 (i + 1)) (X.2 (i + 2)) I T = z_x 2 J T) (h2 : c_X12_label_139 X (d + 50) (X.2 (i + 1)) (X.2 (i + 2)) J (q_tt T) = z_r b K (q_tt T)) (h3 : K 139 0 = 1) : j_go X d i 12 o5 o6 I T K := by
  have w : c_L_label_0_150 X (d + 50) (X.2 (i + 1)) (X.2 (i + 2)) I T = z_r 1 J (q_tt T) := by
    rw [e_L_label_0_150, h1]
    rfl
  obtain ⟨u5, u6, h⟩ := j_12 X d i o5 o6 I J K T _ 1 b hX hi w h2 h3 (fun c => absurd c (by decide))
  exact ⟨u5, u6, _, h, Nat.le_refl _, Nat.le_refl _⟩
theorem jy_13 (X : Sx) (d i : Nat) (o5 o6 : Option Value) (I J K : Ii) (T : Tt) (x : Int32) (hX : X.1 ≤ 3072) (hi : i + 6 ≤ X.1) (h1 : c_X11_move_0 X (d + 49) (X.2 (i + 1)) (X.2 (i + 2)) I T = z_r x J T) (h2 : c_X12_move_139 X (d + 50) (X.2 (i + 1)) (X.2 (i + 2)) J (q_tl T 150 0 x.toInt64) = z_r x K (q_tl T 150 0 x.toInt64)) (h3 : K 139 0 = 0) : j_go X d i 13 o5 o6 I T K := by
  have w : c_L_move_0_150 X (d + 50) (X.2 (i + 1)) (X.2 (i + 2)) I T = z_r 0 J (q_tl T 150 0 x.toInt64) := by
    rw [e_L_move_0_150, h1]
    exact (k_L_move_0_150_6 X (d + 49) _ _ x J T).trans (e_L_move_0_150_6 X (d + 49) _ _ x J T)
  obtain ⟨u5, u6, h⟩ := j_13 X d i o5 o6 I J K T _ 0 x hX hi w h2 h3 (fun _ => j_tl T 150 0 _)
  exact ⟨u5, u6, _, h, Nat.le_succ _, Nat.le_add_right _ _⟩
theorem jn_13_2 (X : Sx) (d i : Nat) (o5 o6 : Option Value) (I J K : Ii) (T : Tt) (b : Int32) (hX : X.1 ≤ 3072) (hi : i + 6 ≤ X.1) (h1 : c_X11_move_0 X (d + 49) (X.2 (i + 1)) (X.2 (i + 2)) I T = z_x 2 J T) (h2 : c_X12_move_139 X (d + 50) (X.2 (i + 1)) (X.2 (i + 2)) J (q_tt T) = z_r b K (q_tt T)) (h3 : K 139 0 = 1) : j_go X d i 13 o5 o6 I T K := by
  have w : c_L_move_0_150 X (d + 50) (X.2 (i + 1)) (X.2 (i + 2)) I T = z_r 1 J (q_tt T) := by
    rw [e_L_move_0_150, h1]
    rfl
  obtain ⟨u5, u6, h⟩ := j_13 X d i o5 o6 I J K T _ 1 b hX hi w h2 h3 (fun c => absurd c (by decide))
  exact ⟨u5, u6, _, h, Nat.le_refl _, Nat.le_refl _⟩
theorem jy_14 (X : Sx) (d i : Nat) (o5 o6 : Option Value) (I J K : Ii) (T : Tt) (x : Int32) (hX : X.1 ≤ 3072) (hi : i + 6 ≤ X.1) (h1 : c_X11_years_0 X (d + 49) (X.2 (i + 1)) I T = z_r x J T) (h2 : c_X12_years_139 X (d + 50) (X.2 (i + 1)) J (q_tl T 150 0 x.toInt64) = z_r x K (q_tl T 150 0 x.toInt64)) (h3 : K 139 0 = 0) : j_go X d i 14 o5 o6 I T K := by
  have w : c_L_years_0_150 X (d + 50) (X.2 (i + 1)) I T = z_r 0 J (q_tl T 150 0 x.toInt64) := by
    rw [e_L_years_0_150, h1]
    exact (k_L_years_0_150_5 X (d + 49) _ x J T).trans (e_L_years_0_150_5 X (d + 49) _ x J T)
  obtain ⟨u5, u6, h⟩ := j_14 X d i o5 o6 I J K T _ 0 x hX hi w h2 h3 (fun _ => j_tl T 150 0 _)
  exact ⟨u5, u6, _, h, Nat.le_succ _, Nat.le_add_right _ _⟩
theorem jn_14_0 (X : Sx) (d i : Nat) (o5 o6 : Option Value) (I J K : Ii) (T : Tt) (b : Int32) (hX : X.1 ≤ 3072) (hi : i + 6 ≤ X.1) (h1 : c_X11_years_0 X (d + 49) (X.2 (i + 1)) I T = z_x 0 J T) (h2 : c_X12_years_139 X (d + 50) (X.2 (i + 1)) J (q_tt T) = z_r b K (q_tt T)) (h3 : K 139 0 = 1) : j_go X d i 14 o5 o6 I T K := by
  have w : c_L_years_0_150 X (d + 50) (X.2 (i + 1)) I T = z_r 1 J (q_tt T) := by
    rw [e_L_years_0_150, h1]
    rfl
  obtain ⟨u5, u6, h⟩ := j_14 X d i o5 o6 I J K T _ 1 b hX hi w h2 h3 (fun c => absurd c (by decide))
  exact ⟨u5, u6, _, h, Nat.le_refl _, Nat.le_refl _⟩
theorem jy_15 (X : Sx) (d i : Nat) (o5 o6 : Option Value) (I J K : Ii) (T : Tt) (x : Int32) (hX : X.1 ≤ 3072) (hi : i + 6 ≤ X.1) (h1 : c_X11_mixture_0 X (d + 49) (X.2 (i + 1)) (X.2 (i + 2)) (X.2 (i + 3)) I T = z_r x J T) (h2 : c_X12_mixture_139 X (d + 50) (X.2 (i + 1)) (X.2 (i + 2)) (X.2 (i + 3)) J (q_tl T 150 0 x.toInt64) = z_r x K (q_tl T 150 0 x.toInt64)) (h3 : K 139 0 = 0) : j_go X d i 15 o5 o6 I T K := by
  have w : c_L_mixture_0_150 X (d + 50) (X.2 (i + 1)) (X.2 (i + 2)) (X.2 (i + 3)) I T = z_r 0 J (q_tl T 150 0 x.toInt64) := by
    rw [e_L_mixture_0_150, h1]
    exact (k_L_mixture_0_150_7 X (d + 49) _ _ _ x J T).trans (e_L_mixture_0_150_7 X (d + 49) _ _ _ x J T)
  obtain ⟨u5, u6, h⟩ := j_15 X d i o5 o6 I J K T _ 0 x hX hi w h2 h3 (fun _ => j_tl T 150 0 _)
  exact ⟨u5, u6, _, h, Nat.le_succ _, Nat.le_add_right _ _⟩
theorem jn_15_0 (X : Sx) (d i : Nat) (o5 o6 : Option Value) (I J K : Ii) (T : Tt) (b : Int32) (hX : X.1 ≤ 3072) (hi : i + 6 ≤ X.1) (h1 : c_X11_mixture_0 X (d + 49) (X.2 (i + 1)) (X.2 (i + 2)) (X.2 (i + 3)) I T = z_x 0 J T) (h2 : c_X12_mixture_139 X (d + 50) (X.2 (i + 1)) (X.2 (i + 2)) (X.2 (i + 3)) J (q_tt T) = z_r b K (q_tt T)) (h3 : K 139 0 = 2) : j_go X d i 15 o5 o6 I T K := by
  have w : c_L_mixture_0_150 X (d + 50) (X.2 (i + 1)) (X.2 (i + 2)) (X.2 (i + 3)) I T = z_r 2 J (q_tt T) := by
    rw [e_L_mixture_0_150, h1]
    rfl
  obtain ⟨u5, u6, h⟩ := j_15 X d i o5 o6 I J K T _ 2 b hX hi w h2 h3 (fun c => absurd c (by decide))
  exact ⟨u5, u6, _, h, Nat.le_refl _, Nat.le_refl _⟩
theorem jn_15_2 (X : Sx) (d i : Nat) (o5 o6 : Option Value) (I J K : Ii) (T : Tt) (b : Int32) (hX : X.1 ≤ 3072) (hi : i + 6 ≤ X.1) (h1 : c_X11_mixture_0 X (d + 49) (X.2 (i + 1)) (X.2 (i + 2)) (X.2 (i + 3)) I T = z_x 2 J T) (h2 : c_X12_mixture_139 X (d + 50) (X.2 (i + 1)) (X.2 (i + 2)) (X.2 (i + 3)) J (q_tt T) = z_r b K (q_tt T)) (h3 : K 139 0 = 1) : j_go X d i 15 o5 o6 I T K := by
  have w : c_L_mixture_0_150 X (d + 50) (X.2 (i + 1)) (X.2 (i + 2)) (X.2 (i + 3)) I T = z_r 1 J (q_tt T) := by
    rw [e_L_mixture_0_150, h1]
    rfl
  obtain ⟨u5, u6, h⟩ := j_15 X d i o5 o6 I J K T _ 1 b hX hi w h2 h3 (fun c => absurd c (by decide))
  exact ⟨u5, u6, _, h, Nat.le_refl _, Nat.le_refl _⟩
theorem jy_16 (X : Sx) (d i : Nat) (o5 o6 : Option Value) (I J K : Ii) (T : Tt) (x : Int32) (hX : X.1 ≤ 3072) (hi : i + 6 ≤ X.1) (h1 : c_X11_best_0 X (d + 49) (X.2 (i + 1)) (X.2 (i + 2)) I T = z_r x J T) (h2 : c_X12_best_139 X (d + 50) (X.2 (i + 1)) (X.2 (i + 2)) J (q_tl T 150 0 x.toInt64) = z_r x K (q_tl T 150 0 x.toInt64)) (h3 : K 139 0 = 0) : j_go X d i 16 o5 o6 I T K := by
  have w : c_L_best_0_150 X (d + 50) (X.2 (i + 1)) (X.2 (i + 2)) I T = z_r 0 J (q_tl T 150 0 x.toInt64) := by
    rw [e_L_best_0_150, h1]
    exact (k_L_best_0_150_6 X (d + 49) _ _ x J T).trans (e_L_best_0_150_6 X (d + 49) _ _ x J T)
  obtain ⟨u5, u6, h⟩ := j_16 X d i o5 o6 I J K T _ 0 x hX hi w h2 h3 (fun _ => j_tl T 150 0 _)
  exact ⟨u5, u6, _, h, Nat.le_succ _, Nat.le_add_right _ _⟩
theorem jn_16_0 (X : Sx) (d i : Nat) (o5 o6 : Option Value) (I J K : Ii) (T : Tt) (b : Int32) (hX : X.1 ≤ 3072) (hi : i + 6 ≤ X.1) (h1 : c_X11_best_0 X (d + 49) (X.2 (i + 1)) (X.2 (i + 2)) I T = z_x 0 J T) (h2 : c_X12_best_139 X (d + 50) (X.2 (i + 1)) (X.2 (i + 2)) J (q_tt T) = z_r b K (q_tt T)) (h3 : K 139 0 = 2) : j_go X d i 16 o5 o6 I T K := by
  have w : c_L_best_0_150 X (d + 50) (X.2 (i + 1)) (X.2 (i + 2)) I T = z_r 2 J (q_tt T) := by
    rw [e_L_best_0_150, h1]
    rfl
  obtain ⟨u5, u6, h⟩ := j_16 X d i o5 o6 I J K T _ 2 b hX hi w h2 h3 (fun c => absurd c (by decide))
  exact ⟨u5, u6, _, h, Nat.le_refl _, Nat.le_refl _⟩
theorem jn_16_2 (X : Sx) (d i : Nat) (o5 o6 : Option Value) (I J K : Ii) (T : Tt) (b : Int32) (hX : X.1 ≤ 3072) (hi : i + 6 ≤ X.1) (h1 : c_X11_best_0 X (d + 49) (X.2 (i + 1)) (X.2 (i + 2)) I T = z_x 2 J T) (h2 : c_X12_best_139 X (d + 50) (X.2 (i + 1)) (X.2 (i + 2)) J (q_tt T) = z_r b K (q_tt T)) (h3 : K 139 0 = 1) : j_go X d i 16 o5 o6 I T K := by
  have w : c_L_best_0_150 X (d + 50) (X.2 (i + 1)) (X.2 (i + 2)) I T = z_r 1 J (q_tt T) := by
    rw [e_L_best_0_150, h1]
    rfl
  obtain ⟨u5, u6, h⟩ := j_16 X d i o5 o6 I J K T _ 1 b hX hi w h2 h3 (fun c => absurd c (by decide))
  exact ⟨u5, u6, _, h, Nat.le_refl _, Nat.le_refl _⟩
theorem jy_17 (X : Sx) (d i : Nat) (o5 o6 : Option Value) (I J K : Ii) (T : Tt) (b : Int32) (hX : X.1 ≤ 3072) (hi : i + 6 ≤ X.1) (h1 : c_X11_coalition_0 X (d + 50) I T = z_r b J T) (h2 : c_X12_coalition_139 X (d + 50) J T = z_r b K T) : j_go X d i 17 o5 o6 I T K := by
  obtain ⟨u5, u6, h⟩ := j_17 X d i o5 o6 I J K T b hX hi h1 h2
  exact ⟨u5, u6, T, h, Nat.le_succ _, Nat.le_add_right _ _⟩
theorem jy_18 (X : Sx) (d i : Nat) (o5 o6 : Option Value) (I J K : Ii) (T : Tt) (b : Int32) (hX : X.1 ≤ 3072) (hi : i + 6 ≤ X.1) (h1 : c_X11_agree_0 X (d + 50) (X.2 (i + 1)) I T = z_r b J T) (h2 : c_X12_agree_139 X (d + 50) (X.2 (i + 1)) J T = z_r b K T) : j_go X d i 18 o5 o6 I T K := by
  obtain ⟨u5, u6, h⟩ := j_18 X d i o5 o6 I J K T b hX hi h1 h2
  exact ⟨u5, u6, T, h, Nat.le_succ _, Nat.le_add_right _ _⟩
theorem jy_19 (X : Sx) (d i : Nat) (o5 o6 : Option Value) (I J K : Ii) (T : Tt) (x : Int32) (hX : X.1 ≤ 3072) (hi : i + 6 ≤ X.1) (h1 : c_X11_cover_0 X (d + 49) (X.2 (i + 1)) I T = z_r x J T) (h2 : c_X12_cover_139 X (d + 50) (X.2 (i + 1)) J (q_tl T 150 0 x.toInt64) = z_r x K (q_tl T 150 0 x.toInt64)) (h3 : K 139 0 = 0) : j_go X d i 19 o5 o6 I T K := by
  have w : c_L_cover_0_150 X (d + 50) (X.2 (i + 1)) I T = z_r 0 J (q_tl T 150 0 x.toInt64) := by
    rw [e_L_cover_0_150, h1]
    exact (k_L_cover_0_150_5 X (d + 49) _ x J T).trans (e_L_cover_0_150_5 X (d + 49) _ x J T)
  obtain ⟨u5, u6, h⟩ := j_19 X d i o5 o6 I J K T _ 0 x hX hi w h2 h3 (fun _ => j_tl T 150 0 _)
  exact ⟨u5, u6, _, h, Nat.le_succ _, Nat.le_add_right _ _⟩
theorem jn_19_0 (X : Sx) (d i : Nat) (o5 o6 : Option Value) (I J K : Ii) (T : Tt) (b : Int32) (hX : X.1 ≤ 3072) (hi : i + 6 ≤ X.1) (h1 : c_X11_cover_0 X (d + 49) (X.2 (i + 1)) I T = z_x 0 J T) (h2 : c_X12_cover_139 X (d + 50) (X.2 (i + 1)) J (q_tt T) = z_r b K (q_tt T)) (h3 : K 139 0 = 1) : j_go X d i 19 o5 o6 I T K := by
  have w : c_L_cover_0_150 X (d + 50) (X.2 (i + 1)) I T = z_r 1 J (q_tt T) := by
    rw [e_L_cover_0_150, h1]
    rfl
  obtain ⟨u5, u6, h⟩ := j_19 X d i o5 o6 I J K T _ 1 b hX hi w h2 h3 (fun c => absurd c (by decide))
  exact ⟨u5, u6, _, h, Nat.le_refl _, Nat.le_refl _⟩
theorem jy_20 (X : Sx) (d i : Nat) (o5 o6 : Option Value) (I J K : Ii) (T : Tt) (b : Int32) (hX : X.1 ≤ 3072) (hi : i + 6 ≤ X.1) (h1 : c_X11_plan_0 X (d + 50) I T = z_r b J T) (h2 : c_X12_plan_139 X (d + 50) J T = z_r b K T) : j_go X d i 20 o5 o6 I T K := by
  obtain ⟨u5, u6, h⟩ := j_20 X d i o5 o6 I J K T b hX hi h1 h2
  exact ⟨u5, u6, T, h, Nat.le_succ _, Nat.le_add_right _ _⟩
theorem jy_21 (X : Sx) (d i : Nat) (o5 o6 : Option Value) (I J K : Ii) (T : Tt) (b : Int32) (hX : X.1 ≤ 3072) (hi : i + 6 ≤ X.1) (h1 : c_X11_unmet_0 X (d + 50) I T = z_r b J T) (h2 : c_X12_unmet_139 X (d + 50) J T = z_r b K T) : j_go X d i 21 o5 o6 I T K := by
  obtain ⟨u5, u6, h⟩ := j_21 X d i o5 o6 I J K T b hX hi h1 h2
  exact ⟨u5, u6, T, h, Nat.le_succ _, Nat.le_add_right _ _⟩
theorem jy_22 (X : Sx) (d i : Nat) (o5 o6 : Option Value) (I J K : Ii) (T : Tt) (x : Int32) (hX : X.1 ≤ 3072) (hi : i + 6 ≤ X.1) (h1 : c_X11_tastes_0 X (d + 49) (j_b (X.2 (i + 1))) I T = z_r x J T) (h2 : c_X12_tastes_139 X (d + 50) (j_b (X.2 (i + 1))) J (q_tl T 150 0 x.toInt64) = z_r x K (q_tl T 150 0 x.toInt64)) (h3 : K 139 0 = 0) : j_go X d i 22 o5 o6 I T K := by
  have w : c_L_tastes_0_150 X (d + 50) (j_b (X.2 (i + 1))) I T = z_r 0 J (q_tl T 150 0 x.toInt64) := by
    rw [e_L_tastes_0_150, h1]
    exact (k_L_tastes_0_150_5 X (d + 49) _ x J T).trans (e_L_tastes_0_150_5 X (d + 49) _ x J T)
  obtain ⟨u5, u6, h⟩ := j_22 X d i o5 o6 I J K T _ 0 x hX hi w h2 h3 (fun _ => j_tl T 150 0 _)
  exact ⟨u5, u6, _, h, Nat.le_succ _, Nat.le_add_right _ _⟩
theorem jn_22_0 (X : Sx) (d i : Nat) (o5 o6 : Option Value) (I J K : Ii) (T : Tt) (b : Int32) (hX : X.1 ≤ 3072) (hi : i + 6 ≤ X.1) (h1 : c_X11_tastes_0 X (d + 49) (j_b (X.2 (i + 1))) I T = z_x 0 J T) (h2 : c_X12_tastes_139 X (d + 50) (j_b (X.2 (i + 1))) J (q_tt T) = z_r b K (q_tt T)) (h3 : K 139 0 = 1) : j_go X d i 22 o5 o6 I T K := by
  have w : c_L_tastes_0_150 X (d + 50) (j_b (X.2 (i + 1))) I T = z_r 1 J (q_tt T) := by
    rw [e_L_tastes_0_150, h1]
    rfl
  obtain ⟨u5, u6, h⟩ := j_22 X d i o5 o6 I J K T _ 1 b hX hi w h2 h3 (fun c => absurd c (by decide))
  exact ⟨u5, u6, _, h, Nat.le_refl _, Nat.le_refl _⟩
theorem jy_23 (X : Sx) (d i : Nat) (o5 o6 : Option Value) (I J K : Ii) (T : Tt) (x : Int32) (hX : X.1 ≤ 3072) (hi : i + 6 ≤ X.1) (h1 : c_X11_next_0 X (d + 49) I T = z_r x J T) (h2 : c_X12_next_139 X (d + 50) J (q_tl T 150 0 x.toInt64) = z_r x K (q_tl T 150 0 x.toInt64)) (h3 : K 139 0 = 0) : j_go X d i 23 o5 o6 I T K := by
  have w : c_L_next_0_150 X (d + 50) I T = z_r 0 J (q_tl T 150 0 x.toInt64) := by
    rw [e_L_next_0_150, h1]
    exact (k_L_next_0_150_4 X (d + 49)  x J T).trans (e_L_next_0_150_4 X (d + 49)  x J T)
  obtain ⟨u5, u6, h⟩ := j_23 X d i o5 o6 I J K T _ 0 x hX hi w h2 h3 (fun _ => j_tl T 150 0 _)
  exact ⟨u5, u6, _, h, Nat.le_succ _, Nat.le_add_right _ _⟩
theorem jn_23_0 (X : Sx) (d i : Nat) (o5 o6 : Option Value) (I J K : Ii) (T : Tt) (b : Int32) (hX : X.1 ≤ 3072) (hi : i + 6 ≤ X.1) (h1 : c_X11_next_0 X (d + 49) I T = z_x 0 J T) (h2 : c_X12_next_139 X (d + 50) J (q_tt T) = z_r b K (q_tt T)) (h3 : K 139 0 = 1) : j_go X d i 23 o5 o6 I T K := by
  have w : c_L_next_0_150 X (d + 50) I T = z_r 1 J (q_tt T) := by
    rw [e_L_next_0_150, h1]
    rfl
  obtain ⟨u5, u6, h⟩ := j_23 X d i o5 o6 I J K T _ 1 b hX hi w h2 h3 (fun c => absurd c (by decide))
  exact ⟨u5, u6, _, h, Nat.le_refl _, Nat.le_refl _⟩
theorem jy_24 (X : Sx) (d i : Nat) (o5 o6 : Option Value) (I J K : Ii) (T : Tt) (b : Int32) (hX : X.1 ≤ 3072) (hi : i + 6 ≤ X.1) (h1 : c_X11_harm_0 X (d + 50) I T = z_r b J T) (h2 : c_X12_harm_139 X (d + 50) J T = z_r b K T) : j_go X d i 24 o5 o6 I T K := by
  obtain ⟨u5, u6, h⟩ := j_24 X d i o5 o6 I J K T b hX hi h1 h2
  exact ⟨u5, u6, T, h, Nat.le_succ _, Nat.le_add_right _ _⟩
theorem jy_25 (X : Sx) (d i : Nat) (o5 o6 : Option Value) (I J K : Ii) (T : Tt) (x : Int32) (hX : X.1 ≤ 3072) (hi : i + 6 ≤ X.1) (h1 : c_X11_arranged_0 X (d + 49) (X.2 (i + 1)) I T = z_r x J T) (h2 : c_X12_arranged_139 X (d + 50) (X.2 (i + 1)) J (q_tl T 150 0 x.toInt64) = z_r x K (q_tl T 150 0 x.toInt64)) (h3 : K 139 0 = 0) : j_go X d i 25 o5 o6 I T K := by
  have w : c_L_arranged_0_150 X (d + 50) (X.2 (i + 1)) I T = z_r 0 J (q_tl T 150 0 x.toInt64) := by
    rw [e_L_arranged_0_150, h1]
    exact (k_L_arranged_0_150_5 X (d + 49) _ x J T).trans (e_L_arranged_0_150_5 X (d + 49) _ x J T)
  obtain ⟨u5, u6, h⟩ := j_25 X d i o5 o6 I J K T _ 0 x hX hi w h2 h3 (fun _ => j_tl T 150 0 _)
  exact ⟨u5, u6, _, h, Nat.le_succ _, Nat.le_add_right _ _⟩
theorem jn_25_2 (X : Sx) (d i : Nat) (o5 o6 : Option Value) (I J K : Ii) (T : Tt) (b : Int32) (hX : X.1 ≤ 3072) (hi : i + 6 ≤ X.1) (h1 : c_X11_arranged_0 X (d + 49) (X.2 (i + 1)) I T = z_x 2 J T) (h2 : c_X12_arranged_139 X (d + 50) (X.2 (i + 1)) J (q_tt T) = z_r b K (q_tt T)) (h3 : K 139 0 = 1) : j_go X d i 25 o5 o6 I T K := by
  have w : c_L_arranged_0_150 X (d + 50) (X.2 (i + 1)) I T = z_r 1 J (q_tt T) := by
    rw [e_L_arranged_0_150, h1]
    rfl
  obtain ⟨u5, u6, h⟩ := j_25 X d i o5 o6 I J K T _ 1 b hX hi w h2 h3 (fun c => absurd c (by decide))
  exact ⟨u5, u6, _, h, Nat.le_refl _, Nat.le_refl _⟩
theorem jy_26 (X : Sx) (d i : Nat) (o5 o6 : Option Value) (I J K : Ii) (T : Tt) (x : Int32) (hX : X.1 ≤ 3072) (hi : i + 6 ≤ X.1) (h1 : c_X11_falls_0 X (d + 49) (X.2 (i + 1)) I T = z_r x J T) (h2 : c_X12_falls_139 X (d + 50) (X.2 (i + 1)) J (q_tl T 150 0 x.toInt64) = z_r x K (q_tl T 150 0 x.toInt64)) (h3 : K 139 0 = 0) : j_go X d i 26 o5 o6 I T K := by
  have w : c_L_falls_0_150 X (d + 50) (X.2 (i + 1)) I T = z_r 0 J (q_tl T 150 0 x.toInt64) := by
    rw [e_L_falls_0_150, h1]
    exact (k_L_falls_0_150_5 X (d + 49) _ x J T).trans (e_L_falls_0_150_5 X (d + 49) _ x J T)
  obtain ⟨u5, u6, h⟩ := j_26 X d i o5 o6 I J K T _ 0 x hX hi w h2 h3 (fun _ => j_tl T 150 0 _)
  exact ⟨u5, u6, _, h, Nat.le_succ _, Nat.le_add_right _ _⟩
theorem jn_26_2 (X : Sx) (d i : Nat) (o5 o6 : Option Value) (I J K : Ii) (T : Tt) (b : Int32) (hX : X.1 ≤ 3072) (hi : i + 6 ≤ X.1) (h1 : c_X11_falls_0 X (d + 49) (X.2 (i + 1)) I T = z_x 2 J T) (h2 : c_X12_falls_139 X (d + 50) (X.2 (i + 1)) J (q_tt T) = z_r b K (q_tt T)) (h3 : K 139 0 = 1) : j_go X d i 26 o5 o6 I T K := by
  have w : c_L_falls_0_150 X (d + 50) (X.2 (i + 1)) I T = z_r 1 J (q_tt T) := by
    rw [e_L_falls_0_150, h1]
    rfl
  obtain ⟨u5, u6, h⟩ := j_26 X d i o5 o6 I J K T _ 1 b hX hi w h2 h3 (fun c => absurd c (by decide))
  exact ⟨u5, u6, _, h, Nat.le_refl _, Nat.le_refl _⟩
theorem jy_27 (X : Sx) (d i : Nat) (o5 o6 : Option Value) (I J K : Ii) (T : Tt) (b : Int32) (hX : X.1 ≤ 3072) (hi : i + 6 ≤ X.1) (h1 : c_X11_wins_0 X (d + 50) (X.2 (i + 1)) I T = z_r b J T) (h2 : c_X12_wins_139 X (d + 50) (X.2 (i + 1)) J T = z_r b K T) : j_go X d i 27 o5 o6 I T K := by
  obtain ⟨u5, u6, h⟩ := j_27 X d i o5 o6 I J K T b hX hi h1 h2
  exact ⟨u5, u6, T, h, Nat.le_succ _, Nat.le_add_right _ _⟩
theorem jy_28 (X : Sx) (d i : Nat) (o5 o6 : Option Value) (I J K : Ii) (T : Tt) (b : Int32) (hX : X.1 ≤ 3072) (hi : i + 6 ≤ X.1) (h1 : c_X11_smallest_0 X (d + 50) (j_b (X.2 (i + 1))) I T = z_r b J T) (h2 : c_X12_smallest_139 X (d + 50) (j_b (X.2 (i + 1))) J T = z_r b K T) : j_go X d i 28 o5 o6 I T K := by
  obtain ⟨u5, u6, h⟩ := j_28 X d i o5 o6 I J K T b hX hi h1 h2
  exact ⟨u5, u6, T, h, Nat.le_succ _, Nat.le_add_right _ _⟩
theorem jy_29 (X : Sx) (d i : Nat) (o5 o6 : Option Value) (I J K : Ii) (T : Tt) (b : Int32) (hX : X.1 ≤ 3072) (hi : i + 6 ≤ X.1) (h1 : c_X11_dummies_0 X (d + 50) I T = z_r b J T) (h2 : c_X12_dummies_139 X (d + 50) J T = z_r b K T) : j_go X d i 29 o5 o6 I T K := by
  obtain ⟨u5, u6, h⟩ := j_29 X d i o5 o6 I J K T b hX hi h1 h2
  exact ⟨u5, u6, T, h, Nat.le_succ _, Nat.le_add_right _ _⟩
theorem jy_30 (X : Sx) (d i : Nat) (o5 o6 : Option Value) (I J K : Ii) (T : Tt) (x : Int32) (hX : X.1 ≤ 3072) (hi : i + 6 ≤ X.1) (h1 : c_X11_war_0 X (d + 49) (X.2 (i + 1)) (X.2 (i + 2)) (X.2 (i + 3)) I T = z_r x J T) (h2 : c_X12_war_139 X (d + 50) (X.2 (i + 1)) (X.2 (i + 2)) (X.2 (i + 3)) J (q_tl T 150 0 x.toInt64) = z_r x K (q_tl T 150 0 x.toInt64)) (h3 : K 139 0 = 0) : j_go X d i 30 o5 o6 I T K := by
  have w : c_L_war_0_150 X (d + 50) (X.2 (i + 1)) (X.2 (i + 2)) (X.2 (i + 3)) I T = z_r 0 J (q_tl T 150 0 x.toInt64) := by
    rw [e_L_war_0_150, h1]
    exact (k_L_war_0_150_7 X (d + 49) _ _ _ x J T).trans (e_L_war_0_150_7 X (d + 49) _ _ _ x J T)
  obtain ⟨u5, u6, h⟩ := j_30 X d i o5 o6 I J K T _ 0 x hX hi w h2 h3 (fun _ => j_tl T 150 0 _)
  exact ⟨u5, u6, _, h, Nat.le_succ _, Nat.le_add_right _ _⟩
theorem jn_30_0 (X : Sx) (d i : Nat) (o5 o6 : Option Value) (I J K : Ii) (T : Tt) (b : Int32) (hX : X.1 ≤ 3072) (hi : i + 6 ≤ X.1) (h1 : c_X11_war_0 X (d + 49) (X.2 (i + 1)) (X.2 (i + 2)) (X.2 (i + 3)) I T = z_x 0 J T) (h2 : c_X12_war_139 X (d + 50) (X.2 (i + 1)) (X.2 (i + 2)) (X.2 (i + 3)) J (q_tt T) = z_r b K (q_tt T)) (h3 : K 139 0 = 2) : j_go X d i 30 o5 o6 I T K := by
  have w : c_L_war_0_150 X (d + 50) (X.2 (i + 1)) (X.2 (i + 2)) (X.2 (i + 3)) I T = z_r 2 J (q_tt T) := by
    rw [e_L_war_0_150, h1]
    rfl
  obtain ⟨u5, u6, h⟩ := j_30 X d i o5 o6 I J K T _ 2 b hX hi w h2 h3 (fun c => absurd c (by decide))
  exact ⟨u5, u6, _, h, Nat.le_refl _, Nat.le_refl _⟩
theorem jn_30_2 (X : Sx) (d i : Nat) (o5 o6 : Option Value) (I J K : Ii) (T : Tt) (b : Int32) (hX : X.1 ≤ 3072) (hi : i + 6 ≤ X.1) (h1 : c_X11_war_0 X (d + 49) (X.2 (i + 1)) (X.2 (i + 2)) (X.2 (i + 3)) I T = z_x 2 J T) (h2 : c_X12_war_139 X (d + 50) (X.2 (i + 1)) (X.2 (i + 2)) (X.2 (i + 3)) J (q_tt T) = z_r b K (q_tt T)) (h3 : K 139 0 = 1) : j_go X d i 30 o5 o6 I T K := by
  have w : c_L_war_0_150 X (d + 50) (X.2 (i + 1)) (X.2 (i + 2)) (X.2 (i + 3)) I T = z_r 1 J (q_tt T) := by
    rw [e_L_war_0_150, h1]
    rfl
  obtain ⟨u5, u6, h⟩ := j_30 X d i o5 o6 I J K T _ 1 b hX hi w h2 h3 (fun c => absurd c (by decide))
  exact ⟨u5, u6, _, h, Nat.le_refl _, Nat.le_refl _⟩
theorem jy_31 (X : Sx) (d i : Nat) (o5 o6 : Option Value) (I J K : Ii) (T : Tt) (x : Int32) (hX : X.1 ≤ 3072) (hi : i + 6 ≤ X.1) (h1 : c_X11_ahead_0 X (d + 49) (X.2 (i + 1)) (X.2 (i + 2)) (X.2 (i + 3)) I T = z_r x J T) (h2 : c_X12_ahead__139 X (d + 50) (X.2 (i + 1)) (X.2 (i + 2)) (X.2 (i + 3)) J (q_tl T 150 0 x.toInt64) = z_r x K (q_tl T 150 0 x.toInt64)) (h3 : K 139 0 = 0) : j_go X d i 31 o5 o6 I T K := by
  have w : c_L_ahead_0_150 X (d + 50) (X.2 (i + 1)) (X.2 (i + 2)) (X.2 (i + 3)) I T = z_r 0 J (q_tl T 150 0 x.toInt64) := by
    rw [e_L_ahead_0_150, h1]
    exact (k_L_ahead_0_150_7 X (d + 49) _ _ _ x J T).trans (e_L_ahead_0_150_7 X (d + 49) _ _ _ x J T)
  obtain ⟨u5, u6, h⟩ := j_31 X d i o5 o6 I J K T _ 0 x hX hi w h2 h3 (fun _ => j_tl T 150 0 _)
  exact ⟨u5, u6, _, h, Nat.le_succ _, Nat.le_add_right _ _⟩
theorem jn_31_0 (X : Sx) (d i : Nat) (o5 o6 : Option Value) (I J K : Ii) (T : Tt) (b : Int32) (hX : X.1 ≤ 3072) (hi : i + 6 ≤ X.1) (h1 : c_X11_ahead_0 X (d + 49) (X.2 (i + 1)) (X.2 (i + 2)) (X.2 (i + 3)) I T = z_x 0 J T) (h2 : c_X12_ahead__139 X (d + 50) (X.2 (i + 1)) (X.2 (i + 2)) (X.2 (i + 3)) J (q_tt T) = z_r b K (q_tt T)) (h3 : K 139 0 = 2) : j_go X d i 31 o5 o6 I T K := by
  have w : c_L_ahead_0_150 X (d + 50) (X.2 (i + 1)) (X.2 (i + 2)) (X.2 (i + 3)) I T = z_r 2 J (q_tt T) := by
    rw [e_L_ahead_0_150, h1]
    rfl
  obtain ⟨u5, u6, h⟩ := j_31 X d i o5 o6 I J K T _ 2 b hX hi w h2 h3 (fun c => absurd c (by decide))
  exact ⟨u5, u6, _, h, Nat.le_refl _, Nat.le_refl _⟩
theorem jn_31_2 (X : Sx) (d i : Nat) (o5 o6 : Option Value) (I J K : Ii) (T : Tt) (b : Int32) (hX : X.1 ≤ 3072) (hi : i + 6 ≤ X.1) (h1 : c_X11_ahead_0 X (d + 49) (X.2 (i + 1)) (X.2 (i + 2)) (X.2 (i + 3)) I T = z_x 2 J T) (h2 : c_X12_ahead__139 X (d + 50) (X.2 (i + 1)) (X.2 (i + 2)) (X.2 (i + 3)) J (q_tt T) = z_r b K (q_tt T)) (h3 : K 139 0 = 1) : j_go X d i 31 o5 o6 I T K := by
  have w : c_L_ahead_0_150 X (d + 50) (X.2 (i + 1)) (X.2 (i + 2)) (X.2 (i + 3)) I T = z_r 1 J (q_tt T) := by
    rw [e_L_ahead_0_150, h1]
    rfl
  obtain ⟨u5, u6, h⟩ := j_31 X d i o5 o6 I J K T _ 1 b hX hi w h2 h3 (fun c => absurd c (by decide))
  exact ⟨u5, u6, _, h, Nat.le_refl _, Nat.le_refl _⟩
theorem jn_31_3 (X : Sx) (d i : Nat) (o5 o6 : Option Value) (I J K : Ii) (T : Tt) (b : Int32) (hX : X.1 ≤ 3072) (hi : i + 6 ≤ X.1) (h1 : c_X11_ahead_0 X (d + 49) (X.2 (i + 1)) (X.2 (i + 2)) (X.2 (i + 3)) I T = z_x 3 J T) (h2 : c_X12_ahead__139 X (d + 50) (X.2 (i + 1)) (X.2 (i + 2)) (X.2 (i + 3)) J (q_tt T) = z_r b K (q_tt T)) (h3 : K 139 0 = 3) : j_go X d i 31 o5 o6 I T K := by
  have w : c_L_ahead_0_150 X (d + 50) (X.2 (i + 1)) (X.2 (i + 2)) (X.2 (i + 3)) I T = z_r 3 J (q_tt T) := by
    rw [e_L_ahead_0_150, h1]
    rfl
  obtain ⟨u5, u6, h⟩ := j_31 X d i o5 o6 I J K T _ 3 b hX hi w h2 h3 (fun c => absurd c (by decide))
  exact ⟨u5, u6, _, h, Nat.le_refl _, Nat.le_refl _⟩
theorem jy_32 (X : Sx) (d i : Nat) (o5 o6 : Option Value) (I J K : Ii) (T : Tt) (x : Int32) (hX : X.1 ≤ 3072) (hi : i + 6 ≤ X.1) (h1 : c_X11_spoils_0 X (d + 49) (X.2 (i + 1)) (X.2 (i + 2)) (X.2 (i + 3)) I T = z_r x J T) (h2 : c_X12_spoils_139 X (d + 50) (X.2 (i + 1)) (X.2 (i + 2)) (X.2 (i + 3)) J (q_tl T 150 0 x.toInt64) = z_r x K (q_tl T 150 0 x.toInt64)) (h3 : K 139 0 = 0) : j_go X d i 32 o5 o6 I T K := by
  have w : c_L_spoils_0_150 X (d + 50) (X.2 (i + 1)) (X.2 (i + 2)) (X.2 (i + 3)) I T = z_r 0 J (q_tl T 150 0 x.toInt64) := by
    rw [e_L_spoils_0_150, h1]
    exact (k_L_spoils_0_150_7 X (d + 49) _ _ _ x J T).trans (e_L_spoils_0_150_7 X (d + 49) _ _ _ x J T)
  obtain ⟨u5, u6, h⟩ := j_32 X d i o5 o6 I J K T _ 0 x hX hi w h2 h3 (fun _ => j_tl T 150 0 _)
  exact ⟨u5, u6, _, h, Nat.le_succ _, Nat.le_add_right _ _⟩
theorem jn_32_0 (X : Sx) (d i : Nat) (o5 o6 : Option Value) (I J K : Ii) (T : Tt) (b : Int32) (hX : X.1 ≤ 3072) (hi : i + 6 ≤ X.1) (h1 : c_X11_spoils_0 X (d + 49) (X.2 (i + 1)) (X.2 (i + 2)) (X.2 (i + 3)) I T = z_x 0 J T) (h2 : c_X12_spoils_139 X (d + 50) (X.2 (i + 1)) (X.2 (i + 2)) (X.2 (i + 3)) J (q_tt T) = z_r b K (q_tt T)) (h3 : K 139 0 = 2) : j_go X d i 32 o5 o6 I T K := by
  have w : c_L_spoils_0_150 X (d + 50) (X.2 (i + 1)) (X.2 (i + 2)) (X.2 (i + 3)) I T = z_r 2 J (q_tt T) := by
    rw [e_L_spoils_0_150, h1]
    rfl
  obtain ⟨u5, u6, h⟩ := j_32 X d i o5 o6 I J K T _ 2 b hX hi w h2 h3 (fun c => absurd c (by decide))
  exact ⟨u5, u6, _, h, Nat.le_refl _, Nat.le_refl _⟩
theorem jn_32_2 (X : Sx) (d i : Nat) (o5 o6 : Option Value) (I J K : Ii) (T : Tt) (b : Int32) (hX : X.1 ≤ 3072) (hi : i + 6 ≤ X.1) (h1 : c_X11_spoils_0 X (d + 49) (X.2 (i + 1)) (X.2 (i + 2)) (X.2 (i + 3)) I T = z_x 2 J T) (h2 : c_X12_spoils_139 X (d + 50) (X.2 (i + 1)) (X.2 (i + 2)) (X.2 (i + 3)) J (q_tt T) = z_r b K (q_tt T)) (h3 : K 139 0 = 1) : j_go X d i 32 o5 o6 I T K := by
  have w : c_L_spoils_0_150 X (d + 50) (X.2 (i + 1)) (X.2 (i + 2)) (X.2 (i + 3)) I T = z_r 1 J (q_tt T) := by
    rw [e_L_spoils_0_150, h1]
    rfl
  obtain ⟨u5, u6, h⟩ := j_32 X d i o5 o6 I J K T _ 1 b hX hi w h2 h3 (fun c => absurd c (by decide))
  exact ⟨u5, u6, _, h, Nat.le_refl _, Nat.le_refl _⟩
theorem jy_33 (X : Sx) (d i : Nat) (o5 o6 : Option Value) (I J K : Ii) (T : Tt) (x : Int32) (hX : X.1 ≤ 3072) (hi : i + 6 ≤ X.1) (h1 : c_X11_ripe_0 X (d + 49) (X.2 (i + 1)) (X.2 (i + 2)) (j_b (X.2 (i + 3))) I T = z_r x J T) (h2 : c_X12_ripe_139 X (d + 50) (X.2 (i + 1)) (X.2 (i + 2)) (j_b (X.2 (i + 3))) J (q_tl T 150 0 x.toInt64) = z_r x K (q_tl T 150 0 x.toInt64)) (h3 : K 139 0 = 0) : j_go X d i 33 o5 o6 I T K := by
  have w : c_L_ripe_0_150 X (d + 50) (X.2 (i + 1)) (X.2 (i + 2)) (j_b (X.2 (i + 3))) I T = z_r 0 J (q_tl T 150 0 x.toInt64) := by
    rw [e_L_ripe_0_150, h1]
    exact (k_L_ripe_0_150_7 X (d + 49) _ _ _ x J T).trans (e_L_ripe_0_150_7 X (d + 49) _ _ _ x J T)
  obtain ⟨u5, u6, h⟩ := j_33 X d i o5 o6 I J K T _ 0 x hX hi w h2 h3 (fun _ => j_tl T 150 0 _)
  exact ⟨u5, u6, _, h, Nat.le_succ _, Nat.le_add_right _ _⟩
theorem jn_33_2 (X : Sx) (d i : Nat) (o5 o6 : Option Value) (I J K : Ii) (T : Tt) (b : Int32) (hX : X.1 ≤ 3072) (hi : i + 6 ≤ X.1) (h1 : c_X11_ripe_0 X (d + 49) (X.2 (i + 1)) (X.2 (i + 2)) (j_b (X.2 (i + 3))) I T = z_x 2 J T) (h2 : c_X12_ripe_139 X (d + 50) (X.2 (i + 1)) (X.2 (i + 2)) (j_b (X.2 (i + 3))) J (q_tt T) = z_r b K (q_tt T)) (h3 : K 139 0 = 1) : j_go X d i 33 o5 o6 I T K := by
  have w : c_L_ripe_0_150 X (d + 50) (X.2 (i + 1)) (X.2 (i + 2)) (j_b (X.2 (i + 3))) I T = z_r 1 J (q_tt T) := by
    rw [e_L_ripe_0_150, h1]
    rfl
  obtain ⟨u5, u6, h⟩ := j_33 X d i o5 o6 I J K T _ 1 b hX hi w h2 h3 (fun c => absurd c (by decide))
  exact ⟨u5, u6, _, h, Nat.le_refl _, Nat.le_refl _⟩
theorem jy_34 (X : Sx) (d i : Nat) (o5 o6 : Option Value) (I J K : Ii) (T : Tt) (x : Int32) (hX : X.1 ≤ 3072) (hi : i + 6 ≤ X.1) (h1 : c_X11_goes_0 X (d + 49) (X.2 (i + 1)) I T = z_r x J T) (h2 : c_X12_goes_139 X (d + 50) (X.2 (i + 1)) J (q_tl T 150 0 x.toInt64) = z_r x K (q_tl T 150 0 x.toInt64)) (h3 : K 139 0 = 0) : j_go X d i 34 o5 o6 I T K := by
  have w : c_L_goes_0_150 X (d + 50) (X.2 (i + 1)) I T = z_r 0 J (q_tl T 150 0 x.toInt64) := by
    rw [e_L_goes_0_150, h1]
    exact (k_L_goes_0_150_5 X (d + 49) _ x J T).trans (e_L_goes_0_150_5 X (d + 49) _ x J T)
  obtain ⟨u5, u6, h⟩ := j_34 X d i o5 o6 I J K T _ 0 x hX hi w h2 h3 (fun _ => j_tl T 150 0 _)
  exact ⟨u5, u6, _, h, Nat.le_succ _, Nat.le_add_right _ _⟩
theorem jn_34_2 (X : Sx) (d i : Nat) (o5 o6 : Option Value) (I J K : Ii) (T : Tt) (b : Int32) (hX : X.1 ≤ 3072) (hi : i + 6 ≤ X.1) (h1 : c_X11_goes_0 X (d + 49) (X.2 (i + 1)) I T = z_x 2 J T) (h2 : c_X12_goes_139 X (d + 50) (X.2 (i + 1)) J (q_tt T) = z_r b K (q_tt T)) (h3 : K 139 0 = 1) : j_go X d i 34 o5 o6 I T K := by
  have w : c_L_goes_0_150 X (d + 50) (X.2 (i + 1)) I T = z_r 1 J (q_tt T) := by
    rw [e_L_goes_0_150, h1]
    rfl
  obtain ⟨u5, u6, h⟩ := j_34 X d i o5 o6 I J K T _ 1 b hX hi w h2 h3 (fun c => absurd c (by decide))
  exact ⟨u5, u6, _, h, Nat.le_refl _, Nat.le_refl _⟩
theorem jy_35 (X : Sx) (d i : Nat) (o5 o6 : Option Value) (I J K : Ii) (T : Tt) (b : Int32) (hX : X.1 ≤ 3072) (hi : i + 6 ≤ X.1) (h1 : c_X11_wrong_0 X (d + 50) (j_b (X.2 (i + 1))) I T = z_r b J T) (h2 : c_X12_wrong__139 X (d + 50) (j_b (X.2 (i + 1))) J T = z_r b K T) : j_go X d i 35 o5 o6 I T K := by
  obtain ⟨u5, u6, h⟩ := j_35 X d i o5 o6 I J K T b hX hi h1 h2
  exact ⟨u5, u6, T, h, Nat.le_succ _, Nat.le_add_right _ _⟩
theorem jy_36 (X : Sx) (d i : Nat) (o5 o6 : Option Value) (I J K : Ii) (T : Tt) (x : Int32) (hX : X.1 ≤ 3072) (hi : i + 6 ≤ X.1) (h1 : c_X11_whose_0 X (d + 49) (X.2 (i + 1)) I T = z_r x J T) (h2 : c_X12_whose_139 X (d + 50) (X.2 (i + 1)) J (q_tl T 150 0 x.toInt64) = z_r x K (q_tl T 150 0 x.toInt64)) (h3 : K 139 0 = 0) : j_go X d i 36 o5 o6 I T K := by
  have w : c_L_whose_0_150 X (d + 50) (X.2 (i + 1)) I T = z_r 0 J (q_tl T 150 0 x.toInt64) := by
    rw [e_L_whose_0_150, h1]
    exact (k_L_whose_0_150_5 X (d + 49) _ x J T).trans (e_L_whose_0_150_5 X (d + 49) _ x J T)
  obtain ⟨u5, u6, h⟩ := j_36 X d i o5 o6 I J K T _ 0 x hX hi w h2 h3 (fun _ => j_tl T 150 0 _)
  exact ⟨u5, u6, _, h, Nat.le_succ _, Nat.le_add_right _ _⟩
theorem jn_36_2 (X : Sx) (d i : Nat) (o5 o6 : Option Value) (I J K : Ii) (T : Tt) (b : Int32) (hX : X.1 ≤ 3072) (hi : i + 6 ≤ X.1) (h1 : c_X11_whose_0 X (d + 49) (X.2 (i + 1)) I T = z_x 2 J T) (h2 : c_X12_whose_139 X (d + 50) (X.2 (i + 1)) J (q_tt T) = z_r b K (q_tt T)) (h3 : K 139 0 = 1) : j_go X d i 36 o5 o6 I T K := by
  have w : c_L_whose_0_150 X (d + 50) (X.2 (i + 1)) I T = z_r 1 J (q_tt T) := by
    rw [e_L_whose_0_150, h1]
    rfl
  obtain ⟨u5, u6, h⟩ := j_36 X d i o5 o6 I J K T _ 1 b hX hi w h2 h3 (fun c => absurd c (by decide))
  exact ⟨u5, u6, _, h, Nat.le_refl _, Nat.le_refl _⟩
theorem jy_37 (X : Sx) (d i : Nat) (o5 o6 : Option Value) (I J K : Ii) (T : Tt) (x : Int32) (hX : X.1 ≤ 3072) (hi : i + 6 ≤ X.1) (h1 : c_X11_ring_0 X (d + 49) (X.2 (i + 1)) I T = z_r x J T) (h2 : c_X12_ring_139 X (d + 50) (X.2 (i + 1)) J (q_tl T 150 0 x.toInt64) = z_r x K (q_tl T 150 0 x.toInt64)) (h3 : K 139 0 = 0) : j_go X d i 37 o5 o6 I T K := by
  have w : c_L_ring_0_150 X (d + 50) (X.2 (i + 1)) I T = z_r 0 J (q_tl T 150 0 x.toInt64) := by
    rw [e_L_ring_0_150, h1]
    exact (k_L_ring_0_150_5 X (d + 49) _ x J T).trans (e_L_ring_0_150_5 X (d + 49) _ x J T)
  obtain ⟨u5, u6, h⟩ := j_37 X d i o5 o6 I J K T _ 0 x hX hi w h2 h3 (fun _ => j_tl T 150 0 _)
  exact ⟨u5, u6, _, h, Nat.le_succ _, Nat.le_add_right _ _⟩
theorem jn_37_2 (X : Sx) (d i : Nat) (o5 o6 : Option Value) (I J K : Ii) (T : Tt) (b : Int32) (hX : X.1 ≤ 3072) (hi : i + 6 ≤ X.1) (h1 : c_X11_ring_0 X (d + 49) (X.2 (i + 1)) I T = z_x 2 J T) (h2 : c_X12_ring_139 X (d + 50) (X.2 (i + 1)) J (q_tt T) = z_r b K (q_tt T)) (h3 : K 139 0 = 1) : j_go X d i 37 o5 o6 I T K := by
  have w : c_L_ring_0_150 X (d + 50) (X.2 (i + 1)) I T = z_r 1 J (q_tt T) := by
    rw [e_L_ring_0_150, h1]
    rfl
  obtain ⟨u5, u6, h⟩ := j_37 X d i o5 o6 I J K T _ 1 b hX hi w h2 h3 (fun c => absurd c (by decide))
  exact ⟨u5, u6, _, h, Nat.le_refl _, Nat.le_refl _⟩
theorem jy_38 (X : Sx) (d i : Nat) (o5 o6 : Option Value) (I J K : Ii) (T : Tt) (x : Int32) (hX : X.1 ≤ 3072) (hi : i + 6 ≤ X.1) (h1 : c_X11_asked_0 X (d + 49) (X.2 (i + 1)) I T = z_r x J T) (h2 : c_X12_asked_139 X (d + 50) (X.2 (i + 1)) J (q_tl T 150 0 x.toInt64) = z_r x K (q_tl T 150 0 x.toInt64)) (h3 : K 139 0 = 0) : j_go X d i 38 o5 o6 I T K := by
  have w : c_L_asked_0_150 X (d + 50) (X.2 (i + 1)) I T = z_r 0 J (q_tl T 150 0 x.toInt64) := by
    rw [e_L_asked_0_150, h1]
    exact (k_L_asked_0_150_5 X (d + 49) _ x J T).trans (e_L_asked_0_150_5 X (d + 49) _ x J T)
  obtain ⟨u5, u6, h⟩ := j_38 X d i o5 o6 I J K T _ 0 x hX hi w h2 h3 (fun _ => j_tl T 150 0 _)
  exact ⟨u5, u6, _, h, Nat.le_succ _, Nat.le_add_right _ _⟩
theorem jn_38_2 (X : Sx) (d i : Nat) (o5 o6 : Option Value) (I J K : Ii) (T : Tt) (b : Int32) (hX : X.1 ≤ 3072) (hi : i + 6 ≤ X.1) (h1 : c_X11_asked_0 X (d + 49) (X.2 (i + 1)) I T = z_x 2 J T) (h2 : c_X12_asked_139 X (d + 50) (X.2 (i + 1)) J (q_tt T) = z_r b K (q_tt T)) (h3 : K 139 0 = 1) : j_go X d i 38 o5 o6 I T K := by
  have w : c_L_asked_0_150 X (d + 50) (X.2 (i + 1)) I T = z_r 1 J (q_tt T) := by
    rw [e_L_asked_0_150, h1]
    rfl
  obtain ⟨u5, u6, h⟩ := j_38 X d i o5 o6 I J K T _ 1 b hX hi w h2 h3 (fun c => absurd c (by decide))
  exact ⟨u5, u6, _, h, Nat.le_refl _, Nat.le_refl _⟩
theorem jy_39 (X : Sx) (d i : Nat) (o5 o6 : Option Value) (I J K : Ii) (T : Tt) (x : Int32) (hX : X.1 ≤ 3072) (hi : i + 6 ≤ X.1) (h1 : c_X11_led_0 X (d + 49) (X.2 (i + 1)) I T = z_r x J T) (h2 : c_X12_led_139 X (d + 50) (X.2 (i + 1)) J (q_tl T 150 0 x.toInt64) = z_r x K (q_tl T 150 0 x.toInt64)) (h3 : K 139 0 = 0) : j_go X d i 39 o5 o6 I T K := by
  have w : c_L_led_0_150 X (d + 50) (X.2 (i + 1)) I T = z_r 0 J (q_tl T 150 0 x.toInt64) := by
    rw [e_L_led_0_150, h1]
    exact (k_L_led_0_150_5 X (d + 49) _ x J T).trans (e_L_led_0_150_5 X (d + 49) _ x J T)
  obtain ⟨u5, u6, h⟩ := j_39 X d i o5 o6 I J K T _ 0 x hX hi w h2 h3 (fun _ => j_tl T 150 0 _)
  exact ⟨u5, u6, _, h, Nat.le_succ _, Nat.le_add_right _ _⟩
theorem jn_39_2 (X : Sx) (d i : Nat) (o5 o6 : Option Value) (I J K : Ii) (T : Tt) (b : Int32) (hX : X.1 ≤ 3072) (hi : i + 6 ≤ X.1) (h1 : c_X11_led_0 X (d + 49) (X.2 (i + 1)) I T = z_x 2 J T) (h2 : c_X12_led_139 X (d + 50) (X.2 (i + 1)) J (q_tt T) = z_r b K (q_tt T)) (h3 : K 139 0 = 1) : j_go X d i 39 o5 o6 I T K := by
  have w : c_L_led_0_150 X (d + 50) (X.2 (i + 1)) I T = z_r 1 J (q_tt T) := by
    rw [e_L_led_0_150, h1]
    rfl
  obtain ⟨u5, u6, h⟩ := j_39 X d i o5 o6 I J K T _ 1 b hX hi w h2 h3 (fun c => absurd c (by decide))
  exact ⟨u5, u6, _, h, Nat.le_refl _, Nat.le_refl _⟩
theorem jy_40 (X : Sx) (d i : Nat) (o5 o6 : Option Value) (I J K : Ii) (T : Tt) (x : Int32) (hX : X.1 ≤ 3072) (hi : i + 6 ≤ X.1) (h1 : c_X11_trial_0 X (d + 49) (X.2 (i + 1)) (j_b (X.2 (i + 2))) I T = z_r x J T) (h2 : c_X12_trial_139 X (d + 50) (X.2 (i + 1)) (j_b (X.2 (i + 2))) J (q_tl T 150 0 x.toInt64) = z_r x K (q_tl T 150 0 x.toInt64)) (h3 : K 139 0 = 0) : j_go X d i 40 o5 o6 I T K := by
  have w : c_L_trial_0_150 X (d + 50) (X.2 (i + 1)) (j_b (X.2 (i + 2))) I T = z_r 0 J (q_tl T 150 0 x.toInt64) := by
    rw [e_L_trial_0_150, h1]
    exact (k_L_trial_0_150_6 X (d + 49) _ _ x J T).trans (e_L_trial_0_150_6 X (d + 49) _ _ x J T)
  obtain ⟨u5, u6, h⟩ := j_40 X d i o5 o6 I J K T _ 0 x hX hi w h2 h3 (fun _ => j_tl T 150 0 _)
  exact ⟨u5, u6, _, h, Nat.le_succ _, Nat.le_add_right _ _⟩
theorem jn_40_0 (X : Sx) (d i : Nat) (o5 o6 : Option Value) (I J K : Ii) (T : Tt) (b : Int32) (hX : X.1 ≤ 3072) (hi : i + 6 ≤ X.1) (h1 : c_X11_trial_0 X (d + 49) (X.2 (i + 1)) (j_b (X.2 (i + 2))) I T = z_x 0 J T) (h2 : c_X12_trial_139 X (d + 50) (X.2 (i + 1)) (j_b (X.2 (i + 2))) J (q_tt T) = z_r b K (q_tt T)) (h3 : K 139 0 = 1) : j_go X d i 40 o5 o6 I T K := by
  have w : c_L_trial_0_150 X (d + 50) (X.2 (i + 1)) (j_b (X.2 (i + 2))) I T = z_r 1 J (q_tt T) := by
    rw [e_L_trial_0_150, h1]
    rfl
  obtain ⟨u5, u6, h⟩ := j_40 X d i o5 o6 I J K T _ 1 b hX hi w h2 h3 (fun c => absurd c (by decide))
  exact ⟨u5, u6, _, h, Nat.le_refl _, Nat.le_refl _⟩
theorem jy_41 (X : Sx) (d i : Nat) (o5 o6 : Option Value) (I J K : Ii) (T : Tt) (x : Int32) (hX : X.1 ≤ 3072) (hi : i + 6 ≤ X.1) (h1 : c_X11_span_0 X (d + 49) (X.2 (i + 1)) (j_b (X.2 (i + 2))) I T = z_r x J T) (h2 : c_X12_span_139 X (d + 50) (X.2 (i + 1)) (j_b (X.2 (i + 2))) J (q_tl T 150 0 x.toInt64) = z_r x K (q_tl T 150 0 x.toInt64)) (h3 : K 139 0 = 0) : j_go X d i 41 o5 o6 I T K := by
  have w : c_L_span_0_150 X (d + 50) (X.2 (i + 1)) (j_b (X.2 (i + 2))) I T = z_r 0 J (q_tl T 150 0 x.toInt64) := by
    rw [e_L_span_0_150, h1]
    exact (k_L_span_0_150_6 X (d + 49) _ _ x J T).trans (e_L_span_0_150_6 X (d + 49) _ _ x J T)
  obtain ⟨u5, u6, h⟩ := j_41 X d i o5 o6 I J K T _ 0 x hX hi w h2 h3 (fun _ => j_tl T 150 0 _)
  exact ⟨u5, u6, _, h, Nat.le_succ _, Nat.le_add_right _ _⟩
theorem jn_41_0 (X : Sx) (d i : Nat) (o5 o6 : Option Value) (I J K : Ii) (T : Tt) (b : Int32) (hX : X.1 ≤ 3072) (hi : i + 6 ≤ X.1) (h1 : c_X11_span_0 X (d + 49) (X.2 (i + 1)) (j_b (X.2 (i + 2))) I T = z_x 0 J T) (h2 : c_X12_span_139 X (d + 50) (X.2 (i + 1)) (j_b (X.2 (i + 2))) J (q_tt T) = z_r b K (q_tt T)) (h3 : K 139 0 = 1) : j_go X d i 41 o5 o6 I T K := by
  have w : c_L_span_0_150 X (d + 50) (X.2 (i + 1)) (j_b (X.2 (i + 2))) I T = z_r 1 J (q_tt T) := by
    rw [e_L_span_0_150, h1]
    rfl
  obtain ⟨u5, u6, h⟩ := j_41 X d i o5 o6 I J K T _ 1 b hX hi w h2 h3 (fun c => absurd c (by decide))
  exact ⟨u5, u6, _, h, Nat.le_refl _, Nat.le_refl _⟩
theorem jy_42 (X : Sx) (d i : Nat) (o5 o6 : Option Value) (I J K : Ii) (T : Tt) (x : Int32) (hX : X.1 ≤ 3072) (hi : i + 6 ≤ X.1) (h1 : c_X11_log_0 X (d + 49) (X.2 (i + 1)) (X.2 (i + 2)) I T = z_r x J T) (h2 : c_X12_log_139 X (d + 50) (X.2 (i + 1)) (X.2 (i + 2)) J (q_tl T 150 0 x.toInt64) = z_r x K (q_tl T 150 0 x.toInt64)) (h3 : K 139 0 = 0) : j_go X d i 42 o5 o6 I T K := by
  have w : c_L_log_0_150 X (d + 50) (X.2 (i + 1)) (X.2 (i + 2)) I T = z_r 0 J (q_tl T 150 0 x.toInt64) := by
    rw [e_L_log_0_150, h1]
    exact (k_L_log_0_150_6 X (d + 49) _ _ x J T).trans (e_L_log_0_150_6 X (d + 49) _ _ x J T)
  obtain ⟨u5, u6, h⟩ := j_42 X d i o5 o6 I J K T _ 0 x hX hi w h2 h3 (fun _ => j_tl T 150 0 _)
  exact ⟨u5, u6, _, h, Nat.le_succ _, Nat.le_add_right _ _⟩
theorem jn_42_3 (X : Sx) (d i : Nat) (o5 o6 : Option Value) (I J K : Ii) (T : Tt) (b : Int32) (hX : X.1 ≤ 3072) (hi : i + 6 ≤ X.1) (h1 : c_X11_log_0 X (d + 49) (X.2 (i + 1)) (X.2 (i + 2)) I T = z_x 3 J T) (h2 : c_X12_log_139 X (d + 50) (X.2 (i + 1)) (X.2 (i + 2)) J (q_tt T) = z_r b K (q_tt T)) (h3 : K 139 0 = 1) : j_go X d i 42 o5 o6 I T K := by
  have w : c_L_log_0_150 X (d + 50) (X.2 (i + 1)) (X.2 (i + 2)) I T = z_r 1 J (q_tt T) := by
    rw [e_L_log_0_150, h1]
    rfl
  obtain ⟨u5, u6, h⟩ := j_42 X d i o5 o6 I J K T _ 1 b hX hi w h2 h3 (fun c => absurd c (by decide))
  exact ⟨u5, u6, _, h, Nat.le_refl _, Nat.le_refl _⟩
theorem jy_43 (X : Sx) (d i : Nat) (o5 o6 : Option Value) (I J K : Ii) (T : Tt) (b : Int32) (hX : X.1 ≤ 3072) (hi : i + 6 ≤ X.1) (h1 : c_X11_seed_0 X (d + 50) (X.2 (i + 1)) I T = z_r b J T) (h2 : c_X12_seed_139 X (d + 50) (X.2 (i + 1)) J T = z_r b K T) : j_go X d i 43 o5 o6 I T K := by
  obtain ⟨u5, u6, h⟩ := j_43 X d i o5 o6 I J K T b hX hi h1 h2
  exact ⟨u5, u6, T, h, Nat.le_succ _, Nat.le_add_right _ _⟩
theorem jy_44 (X : Sx) (d i : Nat) (o5 o6 : Option Value) (I J K : Ii) (T : Tt) (b : Int32) (hX : X.1 ≤ 3072) (hi : i + 6 ≤ X.1) (h1 : c_X11_undo_0 X (d + 50) I T = z_r b J T) (h2 : c_X12_undo_139 X (d + 50) J T = z_r b K T) : j_go X d i 44 o5 o6 I T K := by
  obtain ⟨u5, u6, h⟩ := j_44 X d i o5 o6 I J K T b hX hi h1 h2
  exact ⟨u5, u6, T, h, Nat.le_succ _, Nat.le_add_right _ _⟩
theorem jy_45 (X : Sx) (d i : Nat) (o5 o6 : Option Value) (I J K : Ii) (T : Tt) (hX : X.1 ≤ 3072) (hi : i + 6 ≤ X.1) (h1 : c_X11_image_0 X (d + 50) I T = z_v J T) (h2 : c_X12_image_139 X (d + 50) J T = z_v K T) : j_go X d i 45 o5 o6 I T K := by
  obtain ⟨u5, u6, h⟩ := j_45 X d i o5 o6 I J K T hX hi h1 h2
  exact ⟨u5, u6, T, h, Nat.le_succ _, Nat.le_add_right _ _⟩
theorem jy_46 (X : Sx) (d i : Nat) (o5 o6 : Option Value) (I J K : Ii) (T : Tt) (b : Int32) (hX : X.1 ≤ 3072) (hi : i + 6 ≤ X.1) (h1 : c_X11_back_0 X (d + 50) I T = z_r b J T) (h2 : c_X12_back_139 X (d + 50) J T = z_r b K T) : j_go X d i 46 o5 o6 I T K := by
  obtain ⟨u5, u6, h⟩ := j_46 X d i o5 o6 I J K T b hX hi h1 h2
  exact ⟨u5, u6, T, h, Nat.le_succ _, Nat.le_add_right _ _⟩
theorem jy_47 (X : Sx) (d i : Nat) (o5 o6 : Option Value) (I J K : Ii) (T : Tt) (b : Int32) (hX : X.1 ≤ 3072) (hi : i + 6 ≤ X.1) (h1 : c_X11_count_0 X (d + 50) (X.2 (i + 1)) I T = z_r b J T) (h2 : c_X12_count_139 X (d + 50) (X.2 (i + 1)) J T = z_r b K T) : j_go X d i 47 o5 o6 I T K := by
  obtain ⟨u5, u6, h⟩ := j_47 X d i o5 o6 I J K T b hX hi h1 h2
  exact ⟨u5, u6, T, h, Nat.le_succ _, Nat.le_add_right _ _⟩
