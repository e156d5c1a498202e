set_option maxRecDepth 100000 in
set_option maxHeartbeats 4000000 in
theorem c_RW_size (l : Launch) (G : ct_G) (f : dw_M) (sz : Nat) (r q n : Nat) (us : List Int) (sp : Int) (hrw : rw G f r q n us sp) : cn l y_RW_size w_RW_size (0) (0) G f sz [.ref r] (fun v f' => v = some (.int (iI (us.length : Int))) ∧ f' = f) (0) (0) := by
  refine cn_of (own := "TextDesk$Row") (nm := "size") (ds := "()I") (by decide) (Nat.le_of_ble_eq_true rfl) ?_
  intro p e s m args below meth c ls X hnm hr hlk hs0 hz hw hl
  have hx := X.1
  have hb := X.2.1
  have hl : lv_has ls 1 [(0, .ref r)] := hl
  obtain ⟨g, h0, h1, hu, hn, hg⟩ := hrw
  refine lv_aload_n hx hb d_RW_size_0 rfl (lv_at hl 0 rfl) ?_
  refine gf_RW_21_RW X hw h0 d_RW_size_1 ?_
  exact cn_iret hx hb hr hlk hw  (⟨rfl, rfl⟩) (Nat.le_refl _) (Nat.le_refl _) d_RW_size_4
set_option maxRecDepth 100000 in
set_option maxHeartbeats 4000000 in
theorem c_RW_get (l : Launch) (G : ct_G) (f : dw_M) (sz : Nat) (r q n : Nat) (us : List Int) (sp k : Int) (hk : iR k) (hrw : rw G f r q n us sp) : cn l y_RW_get w_RW_get (0) (0) G f sz [.ref r, .int (iI k)] (fun v f' => v = some (.int (iI (gt us k))) ∧ f' = f) (0) (0) := by
  refine cn_of (own := "TextDesk$Row") (nm := "get") (ds := "(I)I") (by decide) (Nat.le_of_ble_eq_true rfl) ?_
  intro p e s m args below meth c ls X hnm hr hlk hs0 hz hw hl
  have hx := X.1
  have hb := X.2.1
  have hl : lv_has ls 2 [(0, .ref r), (1, .int (iI k))] := hl
  obtain ⟨g, h0, h1, hu, hn, hg⟩ := hrw
  obtain ⟨hk1, hk2⟩ := hk
  refine lv_iload_n hx hb d_RW_get_0 rfl (lv_at hl 1 rfl) ?_
  refine di_if_lt (tgt := 30) hx hb d_RW_get_1 (by decide) ⟨by omega, by omega⟩ (fun bq1 => ?_) (fun bq1 => ?_)
  · refine lv_iconst (v := iI (-1)) hx hb d_RW_get_30 rfl ?_
    exact cn_iret hx hb hr hlk hw  (⟨by rw [gt_out (by omega)], rfl⟩) (Nat.le_refl _) (Nat.le_refl _) d_RW_get_31
  · refine lv_iload_n hx hb d_RW_get_4 rfl (lv_at hl 1 rfl) ?_
    refine lv_aload_n hx hb d_RW_get_5 rfl (lv_at hl 0 rfl) ?_
    refine gf_RW_21_RW X hw h0 d_RW_get_6 ?_
    refine di_icmp_ge (tgt := 30) hx hb d_RW_get_9 (by decide) ⟨by omega, by omega⟩ ⟨by omega, by omega⟩ (fun bq9 => ?_) (fun bq9 => ?_)
    · refine lv_iconst (v := iI (-1)) hx hb d_RW_get_30 rfl ?_
      exact cn_iret hx hb hr hlk hw  (⟨by rw [gt_out (by omega)], rfl⟩) (Nat.le_refl _) (Nat.le_refl _) d_RW_get_31
    · refine lv_iload_n hx hb d_RW_get_12 rfl (lv_at hl 1 rfl) ?_
      refine lv_aload_n hx hb d_RW_get_13 rfl (lv_at hl 0 rfl) ?_
      refine gf_RW_15_RW X hw h0 d_RW_get_14 ?_
      refine dw_alen hx hb X.K hw 0 h1 rfl d_RW_get_17 ?_
      refine di_icmp_ge (tgt := 30) hx hb d_RW_get_18 (by decide) ⟨by omega, by omega⟩ ⟨by omega, by omega⟩ (fun bq18 => ?_) (fun bq18 => ?_)
      · refine lv_iconst (v := iI (-1)) hx hb d_RW_get_30 rfl ?_
        exact cn_iret hx hb hr hlk hw  (⟨by rw [gt_out (by omega)], rfl⟩) (Nat.le_refl _) (Nat.le_refl _) d_RW_get_31
      · refine lv_aload_n hx hb d_RW_get_21 rfl (lv_at hl 0 rfl) ?_
        refine gf_RW_15_RW X hw h0 d_RW_get_22 ?_
        refine lv_iload_n hx hb d_RW_get_25 rfl (lv_at hl 1 rfl) ?_
        refine dw_iald hx hb X.K hw 0 h1 rfl (by omega) (by omega) (by omega) (getE us (by omega) (by omega) hg) d_RW_get_26 ?_
        refine lv_goto (tgt := 31) hx hb d_RW_get_27 (by decide) ?_
        exact cn_iret hx hb hr hlk hw  (⟨rfl, rfl⟩) (Nat.le_refl _) (Nat.le_refl _) d_RW_get_31
set_option maxRecDepth 100000 in
set_option maxHeartbeats 4000000 in
theorem c_RW_isFull (l : Launch) (G : ct_G) (f : dw_M) (sz : Nat) (r q n : Nat) (us : List Int) (sp : Int) (hrw : rw G f r q n us sp) : cn l y_RW_isFull w_RW_isFull (0) (0) G f sz [.ref r] (fun v f' => v = some (.int (iI (if n ≤ us.length then 1 else 0))) ∧ f' = f) (0) (0) := by
  refine cn_of (own := "TextDesk$Row") (nm := "isFull") (ds := "()Z") (by decide) (Nat.le_of_ble_eq_true rfl) ?_
  intro p e s m args below meth c ls X hnm hr hlk hs0 hz hw hl
  have hx := X.1
  have hb := X.2.1
  have hl : lv_has ls 1 [(0, .ref r)] := hl
  obtain ⟨g, h0, h1, hu, hn, hg⟩ := hrw
  refine lv_aload_n hx hb d_RW_isFull_0 rfl (lv_at hl 0 rfl) ?_
  refine gf_RW_21_RW X hw h0 d_RW_isFull_1 ?_
  refine lv_aload_n hx hb d_RW_isFull_4 rfl (lv_at hl 0 rfl) ?_
  refine gf_RW_15_RW X hw h0 d_RW_isFull_5 ?_
  refine dw_alen hx hb X.K hw 0 h1 rfl d_RW_isFull_8 ?_
  refine di_icmp_lt (tgt := 16) hx hb d_RW_isFull_9 (by decide) ⟨by omega, by omega⟩ ⟨by omega, by omega⟩ (fun bq9 => ?_) (fun bq9 => ?_)
  · refine lv_iconst (v := iI (0)) hx hb d_RW_isFull_16 rfl ?_
    exact cn_zret hx hb hr hlk hw rfl (⟨by rw [if_neg (by omega)], rfl⟩) (Nat.le_refl _) (Nat.le_refl _) d_RW_isFull_17
  · refine lv_iconst (v := iI (1)) hx hb d_RW_isFull_12 rfl ?_
    refine lv_goto (tgt := 17) hx hb d_RW_isFull_13 (by decide) ?_
    exact cn_zret hx hb hr hlk hw rfl (⟨by rw [if_pos (by omega)], rfl⟩) (Nat.le_refl _) (Nat.le_refl _) d_RW_isFull_17
set_option maxRecDepth 100000 in
set_option maxHeartbeats 4000000 in
theorem c_RW_hasSpilled (l : Launch) (G : ct_G) (f : dw_M) (sz : Nat) (r q n : Nat) (us : List Int) (sp : Int) (hsp : sp = 0 ∨ sp = 1) (hrw : rw G f r q n us sp) : cn l y_RW_hasSpilled w_RW_hasSpilled (0) (0) G f sz [.ref r] (fun v f' => v = some (.int (iI sp)) ∧ f' = f) (0) (0) := by
  refine cn_of (own := "TextDesk$Row") (nm := "hasSpilled") (ds := "()Z") (by decide) (Nat.le_of_ble_eq_true rfl) ?_
  intro p e s m args below meth c ls X hnm hr hlk hs0 hz hw hl
  have hx := X.1
  have hb := X.2.1
  have hl : lv_has ls 1 [(0, .ref r)] := hl
  obtain ⟨g, h0, h1, hu, hn, hg⟩ := hrw
  refine lv_aload_n hx hb d_RW_hasSpilled_0 rfl (lv_at hl 0 rfl) ?_
  refine gf_RW_25_RW X hw h0 d_RW_hasSpilled_1 ?_
  exact cn_zret hx hb hr hlk hw (b01 hsp) (⟨rfl, rfl⟩) (Nat.le_refl _) (Nat.le_refl _) d_RW_hasSpilled_4
set_option maxRecDepth 100000 in
set_option maxHeartbeats 4000000 in
theorem c_RW_append (l : Launch) (G : ct_G) (f : dw_M) (sz : Nat) (r q n : Nat) (us : List Int) (sp x : Int) (hrw : rw G f r q n us sp) : cn l y_RW_append w_RW_append (0) (0) G f sz [.ref r, .int (iI x)] (fun v f' => v = none ∧ rw G f' r q n (ap1 n us x) (ap2 n us sp) ∧ ∀ b, b ≠ r → b ≠ q → f' b = f b) (0) (0) := by
  refine cn_of (own := "TextDesk$Row") (nm := "append") (ds := "(I)V") (by decide) (Nat.le_of_ble_eq_true rfl) ?_
  intro p e s m args below meth c ls X hnm hr hlk hs0 hz hw hl
  have hx := X.1
  have hb := X.2.1
  have hl : lv_has ls 2 [(0, .ref r), (1, .int (iI x))] := hl
  obtain ⟨g, h0, h1, hu, hn, hg⟩ := hrw
  refine lv_aload_n hx hb d_RW_append_0 rfl (lv_at hl 0 rfl) ?_
  refine gf_RW_21_RW X hw h0 d_RW_append_1 ?_
  refine lv_aload_n hx hb d_RW_append_4 rfl (lv_at hl 0 rfl) ?_
  refine gf_RW_15_RW X hw h0 d_RW_append_5 ?_
  refine dw_alen hx hb X.K hw 0 h1 rfl d_RW_append_8 ?_
  refine di_icmp_lt (tgt := 18) hx hb d_RW_append_9 (by decide) ⟨by omega, by omega⟩ ⟨by omega, by omega⟩ (fun bq9 => ?_) (fun bq9 => ?_)
  · refine lv_aload_n hx hb d_RW_append_18 rfl (lv_at hl 0 rfl) ?_
    refine gf_RW_15_RW X hw h0 d_RW_append_19 ?_
    refine lv_aload_n hx hb d_RW_append_22 rfl (lv_at hl 0 rfl) ?_
    refine gf_RW_21_RW X hw h0 d_RW_append_23 ?_
    refine lv_iload_n hx hb d_RW_append_26 rfl (lv_at hl 1 rfl) ?_
    refine dw_iast hx hb X.K hw 0 h1 rfl (by omega) (by omega) (by omega) d_RW_append_27 (fun H locs hw => ?_)
    obtain ⟨f1, e_f1⟩ : ∃ g9 : dw_M, g9 = dw_up f q (.inl (G.2.1 0, n, .inl (upd g (us.length : Int).toNat (iI x)))) := ⟨_, rfl⟩
    rw [← e_f1] at hw
    have k_f1_r : f1 r = some (.inr (4, [.ref q, .int (iI ((us.length : Int))), .int (iI sp)])) := by rw [e_f1]; exact dw_keep h0 (dw_ne h0 h1 (by simp))
    have k_f1_q : f1 q = some (.inl (G.2.1 0, n, .inl (upd g (us.length : Int).toNat (iI x)))) := by rw [e_f1]; exact dw_up_self _ _ _
    refine lv_aload_n hx hb d_RW_append_28 rfl (lv_at hl 0 rfl) ?_
    refine lv_dup hx hb d_RW_append_29 rfl ?_
    refine gf_RW_21_RW X hw k_f1_r d_RW_append_30 ?_
    refine lv_iconst (v := iI (1)) hx hb d_RW_append_33 rfl ?_
    refine di_add hx hb d_RW_append_34 ?_
    refine pf_RW_21_RW X hw k_f1_r (rfl) (rfl) d_RW_append_35 (fun H locs hw => ?_)
    obtain ⟨f2, e_f2⟩ : ∃ g9 : dw_M, g9 = dw_up f1 r (.inr (4, [.ref q, .int (iI ((us.length : Int) + 1)), .int (iI sp)])) := ⟨_, rfl⟩
    rw [← e_f2] at hw
    have k_f2_q : f2 q = some (.inl (G.2.1 0, n, .inl (upd g us.length (iI x)))) := by rw [e_f2]; exact dw_keep k_f1_q (dw_ne k_f1_q k_f1_r (by simp))
    have k_f2_r : f2 r = some (.inr (4, [.ref q, .int (iI ((us.length : Int) + 1)), .int (iI sp)])) := by rw [e_f2]; exact dw_up_self _ _ _
    have hnew : rw G f2 r q n (us ++ [x]) sp := rw_push k_f2_r k_f2_q (by omega) hn hg
    exact cn_vret hx hb hr hlk hw  (⟨rfl, by rw [ap1, ap2, if_pos (by omega), if_pos (by omega)]; exact hnew, fun b h8 h9 => by rw [e_f2, dw_up_ne _ _ h8, e_f1, dw_up_ne _ _ h9]⟩) (Nat.le_refl _) (Nat.le_refl _) d_RW_append_38
  · refine lv_aload_n hx hb d_RW_append_12 rfl (lv_at hl 0 rfl) ?_
    refine lv_iconst (v := iI (1)) hx hb d_RW_append_13 rfl ?_
    refine pf_RW_25_RW X hw h0 (rfl) (rfl) d_RW_append_14 (fun H locs hw => ?_)
    obtain ⟨f1, e_f1⟩ : ∃ g9 : dw_M, g9 = dw_up f r (.inr (4, [.ref q, .int (iI ((us.length : Int))), .int (iI 1)])) := ⟨_, rfl⟩
    rw [← e_f1] at hw
    have k_f1_q : f1 q = some (.inl (G.2.1 0, n, .inl g)) := by rw [e_f1]; exact dw_keep h1 (dw_ne h1 h0 (by simp))
    have k_f1_r : f1 r = some (.inr (4, [.ref q, .int (iI ((us.length : Int))), .int (iI 1)])) := by rw [e_f1]; exact dw_up_self _ _ _
    exact cn_vret hx hb hr hlk hw  (⟨rfl, by rw [ap1, ap2, if_neg (by omega), if_neg (by omega)]; exact ⟨g, k_f1_r, k_f1_q, hu, hn, hg⟩, fun b h8 h9 => by rw [e_f1, dw_up_ne _ _ h8]⟩) (Nat.le_refl _) (Nat.le_refl _) d_RW_append_17
set_option maxRecDepth 100000 in
set_option maxHeartbeats 4000000 in
theorem c_RW_drop (l : Launch) (G : ct_G) (f : dw_M) (sz : Nat) (r q n : Nat) (us : List Int) (sp : Int) (hrw : rw G f r q n us sp) : cn l y_RW_drop w_RW_drop (0) (0) G f sz [.ref r] (fun v f' => v = none ∧ rw G f' r q n [] 0 ∧ ∀ b, b ≠ r → f' b = f b) (0) (0) := by
  refine cn_of (own := "TextDesk$Row") (nm := "drop") (ds := "()V") (by decide) (Nat.le_of_ble_eq_true rfl) ?_
  intro p e s m args below meth c ls X hnm hr hlk hs0 hz hw hl
  have hx := X.1
  have hb := X.2.1
  have hl : lv_has ls 1 [(0, .ref r)] := hl
  obtain ⟨g, h0, h1, hu, hn, hg⟩ := hrw
  refine lv_aload_n hx hb d_RW_drop_0 rfl (lv_at hl 0 rfl) ?_
  refine lv_iconst (v := iI (0)) hx hb d_RW_drop_1 rfl ?_
  refine pf_RW_21_RW X hw h0 (rfl) (rfl) d_RW_drop_2 (fun H locs hw => ?_)
  obtain ⟨f1, e_f1⟩ : ∃ g9 : dw_M, g9 = dw_up f r (.inr (4, [.ref q, .int (iI 0), .int (iI sp)])) := ⟨_, rfl⟩
  rw [← e_f1] at hw
  have k_f1_q : f1 q = some (.inl (G.2.1 0, n, .inl g)) := by rw [e_f1]; exact dw_keep h1 (dw_ne h1 h0 (by simp))
  have k_f1_r : f1 r = some (.inr (4, [.ref q, .int (iI 0), .int (iI sp)])) := by rw [e_f1]; exact dw_up_self _ _ _
  refine lv_aload_n hx hb d_RW_drop_5 rfl (lv_at hl 0 rfl) ?_
  refine lv_iconst (v := iI (0)) hx hb d_RW_drop_6 rfl ?_
  refine pf_RW_25_RW X hw k_f1_r (rfl) (rfl) d_RW_drop_7 (fun H locs hw => ?_)
  obtain ⟨f2, e_f2⟩ : ∃ g9 : dw_M, g9 = dw_up f1 r (.inr (4, [.ref q, .int (iI 0), .int (iI 0)])) := ⟨_, rfl⟩
  rw [← e_f2] at hw
  have k_f2_q : f2 q = some (.inl (G.2.1 0, n, .inl g)) := by rw [e_f2]; exact dw_keep k_f1_q (dw_ne k_f1_q k_f1_r (by simp))
  have k_f2_r : f2 r = some (.inr (4, [.ref q, .int (iI 0), .int (iI 0)])) := by rw [e_f2]; exact dw_up_self _ _ _
  exact cn_vret hx hb hr hlk hw  (⟨rfl, ⟨g, k_f2_r, k_f2_q, Nat.zero_le _, hn, fun k hk => absurd hk (Nat.not_lt_zero k)⟩, fun b h8 => by rw [e_f2, dw_up_ne _ _ h8, e_f1, dw_up_ne _ _ h8]⟩) (Nat.le_refl _) (Nat.le_refl _) d_RW_drop_10
