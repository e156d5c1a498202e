theorem sbl_stop {us : List Int} {fr to k : Int} (h0 : 0 ≤ fr) (h1 : to ≤ k) (h : k ≤ to ∨ k = fr) : sbl us fr k = sbl us fr to := by
  rcases h with h | h
  · rw [show k = to by omega]
  · rw [h, sbl_nil (Int.le_refl _) h0, sbl_nil (by omega) h0]
theorem rY.snoc {g : Nat → Int32} {T Y : List (List Int)} {u : List Int} (h : rY g T Y) : rY g (T ++ [u]) Y := ⟨h.1, fun i hi => by
  obtain ⟨j, h1, h2, h3⟩ := h.2 i hi
  refine ⟨j, by simp; omega, h2, ?_⟩
  rw [List.getD_eq_getElem?_getD, List.getElem?_append_left h1, ← List.getD_eq_getElem?_getD]
  exact h3⟩
theorem rT.snoc {gs gu g1 : Nat → Int32} {T : List (List Int)} {M : List Int} (h : rT gs gu T) (hc : T.length < 24) (hm : M.length ≤ 60) (hu : ∀ u ∈ M, 0 ≤ u ∧ u < 65536) (h60 : ∀ j, j < 60 * T.length → g1 j = gu j) (hn : ∀ j, j < M.length → g1 (60 * T.length + j) = iI (M.getD j 0)) : rT (upd gs (T.length : Int).toNat (iI (M.length : Int))) g1 (T ++ [M]) := by
  refine ⟨by simp; omega, fun i hi => ?_⟩
  simp only [List.length_append, List.length_singleton] at hi
  rw [Int.toNat_natCast]
  by_cases e : i = T.length
  · subst e
    have e1 : (T ++ [M]).getD T.length [] = M := by rw [List.getD_eq_getElem?_getD, List.getElem?_append_right (Nat.le_refl _)]; simp
    rw [e1]
    exact ⟨hm, hu, if_pos rfl, hn⟩
  · have hi2 : i < T.length := by omega
    have e1 : (T ++ [M]).getD i [] = T.getD i [] := by rw [List.getD_eq_getElem?_getD, List.getElem?_append_left hi2, ← List.getD_eq_getElem?_getD]
    obtain ⟨a1, a2, a3, a4⟩ := h.2 i hi2
    rw [e1]
    refine ⟨a1, a2, by unfold upd; rw [if_neg e]; exact a3, fun k hk => ?_⟩
    rw [h60 _ (by omega)]
    exact a4 k hk
set_option maxRecDepth 100000 in
set_option maxHeartbeats 4000000 in
theorem c_MD_out (l : Launch) (G : ct_G) (f : dw_M) (sz : Nat) (k lim : Int) (hk : iR k) (hm : iR lim) : cn l y_MD_out w_MD_out (0) (0) G f sz [.int (iI k), .int (iI lim)] (fun v f' => v = some (.int (iI (b2 (decide (k < 0 ∨ lim ≤ k))))) ∧ f' = f) (0) (0) := by
  refine cn_of (own := "TextDeskModel") (nm := "out") (ds := "(II)Z") (by decide) (Nat.le_of_ble_eq_true rfl) ?_
  intro p e s m args below meth c ls X hnm hr hlk hs0 hz hw hl
  have hx := X.1
  have hb := X.2.1
  have hl : lv_has ls 2 [(0, .int (iI k)), (1, .int (iI lim))] := hl
  obtain ⟨hk0, hk1⟩ := hk
  obtain ⟨hm0, hm1⟩ := hm
  refine lv_iload_n hx hb d_MD_out_0 rfl (lv_at hl 0 rfl) ?_
  refine di_if_lt (tgt := 9) hx hb d_MD_out_1 (by decide) ⟨by omega, by omega⟩ (fun bq1 => ?_) (fun bq1 => ?_)
  · refine lv_iconst (v := iI (1)) hx hb d_MD_out_9 rfl ?_
    refine lv_goto (tgt := 14) hx hb d_MD_out_10 (by decide) ?_
    exact cn_zret hx hb hr hlk hw rfl (⟨by rw [show decide (k < 0 ∨ lim ≤ k) = true from decide_eq_true (by omega)]; rfl, rfl⟩) (Nat.le_refl _) (Nat.le_refl _) d_MD_out_14
  · refine lv_iload_n hx hb d_MD_out_4 rfl (lv_at hl 0 rfl) ?_
    refine lv_iload_n hx hb d_MD_out_5 rfl (lv_at hl 1 rfl) ?_
    refine di_icmp_lt (tgt := 13) hx hb d_MD_out_6 (by decide) ⟨by omega, by omega⟩ ⟨by omega, by omega⟩ (fun bq6 => ?_) (fun bq6 => ?_)
    · refine lv_iconst (v := iI (0)) hx hb d_MD_out_13 rfl ?_
      exact cn_zret hx hb hr hlk hw rfl (⟨by rw [show decide (k < 0 ∨ lim ≤ k) = false from decide_eq_false (by omega)]; rfl, rfl⟩) (Nat.le_refl _) (Nat.le_refl _) d_MD_out_14
    · refine lv_iconst (v := iI (1)) hx hb d_MD_out_9 rfl ?_
      refine lv_goto (tgt := 14) hx hb d_MD_out_10 (by decide) ?_
      exact cn_zret hx hb hr hlk hw rfl (⟨by rw [show decide (k < 0 ∨ lim ≤ k) = true from decide_eq_true (by omega)]; rfl, rfl⟩) (Nat.le_refl _) (Nat.le_refl _) d_MD_out_14
set_option maxRecDepth 100000 in
set_option maxHeartbeats 4000000 in
theorem c_MD_high (l : Launch) (G : ct_G) (f : dw_M) (sz : Nat) (u : Int) (hu : iR u) : cn l y_MD_high w_MD_high (0) (0) G f sz [.int (iI u)] (fun v f' => v = some (.int (iI (b2 (hi u)))) ∧ f' = f) (0) (0) := by
  refine cn_of (own := "TextDeskModel") (nm := "high") (ds := "(I)Z") (by decide) (Nat.le_of_ble_eq_true rfl) ?_
  intro p e s m args below meth c ls X hnm hr hlk hs0 hz hw hl
  have hx := X.1
  have hb := X.2.1
  have hl : lv_has ls 1 [(0, .int (iI u))] := hl
  obtain ⟨hu0, hu1⟩ := hu
  refine lv_iload_n hx hb d_MD_high_0 rfl (lv_at hl 0 rfl) ?_
  refine lv_ldc (v := iI (55296)) hx hb X.own (X.hts _ mw_732) d_MD_high_1 ?_
  refine di_icmp_lt (tgt := 16) hx hb d_MD_high_3 (by decide) ⟨by omega, by omega⟩ ⟨by omega, by omega⟩ (fun bq3 => ?_) (fun bq3 => ?_)
  · refine lv_iconst (v := iI (0)) hx hb d_MD_high_16 rfl ?_
    exact cn_zret hx hb hr hlk hw rfl (⟨by rw [show hi u = false from decide_eq_false (by omega)]; rfl, rfl⟩) (Nat.le_refl _) (Nat.le_refl _) d_MD_high_17
  · refine lv_iload_n hx hb d_MD_high_6 rfl (lv_at hl 0 rfl) ?_
    refine lv_ldc (v := iI (56319)) hx hb X.own (X.hts _ mw_733) d_MD_high_7 ?_
    refine di_icmp_gt (tgt := 16) hx hb d_MD_high_9 (by decide) ⟨by omega, by omega⟩ ⟨by omega, by omega⟩ (fun bq9 => ?_) (fun bq9 => ?_)
    · refine lv_iconst (v := iI (0)) hx hb d_MD_high_16 rfl ?_
      exact cn_zret hx hb hr hlk hw rfl (⟨by rw [show hi u = false from decide_eq_false (by omega)]; rfl, rfl⟩) (Nat.le_refl _) (Nat.le_refl _) d_MD_high_17
    · refine lv_iconst (v := iI (1)) hx hb d_MD_high_12 rfl ?_
      refine lv_goto (tgt := 17) hx hb d_MD_high_13 (by decide) ?_
      exact cn_zret hx hb hr hlk hw rfl (⟨by rw [show hi u = true from decide_eq_true (by omega)]; rfl, rfl⟩) (Nat.le_refl _) (Nat.le_refl _) d_MD_high_17
set_option maxRecDepth 100000 in
set_option maxHeartbeats 4000000 in
theorem c_MD_low (l : Launch) (G : ct_G) (f : dw_M) (sz : Nat) (u : Int) (hu : iR u) : cn l y_MD_low w_MD_low (0) (0) G f sz [.int (iI u)] (fun v f' => v = some (.int (iI (b2 (lw u)))) ∧ f' = f) (0) (0) := by
  refine cn_of (own := "TextDeskModel") (nm := "low") (ds := "(I)Z") (by decide) (Nat.le_of_ble_eq_true rfl) ?_
  intro p e s m args below meth c ls X hnm hr hlk hs0 hz hw hl
  have hx := X.1
  have hb := X.2.1
  have hl : lv_has ls 1 [(0, .int (iI u))] := hl
  obtain ⟨hu0, hu1⟩ := hu
  refine lv_iload_n hx hb d_MD_low_0 rfl (lv_at hl 0 rfl) ?_
  refine lv_ldc (v := iI (56320)) hx hb X.own (X.hts _ mw_737) d_MD_low_1 ?_
  refine di_icmp_lt (tgt := 16) hx hb d_MD_low_3 (by decide) ⟨by omega, by omega⟩ ⟨by omega, by omega⟩ (fun bq3 => ?_) (fun bq3 => ?_)
  · refine lv_iconst (v := iI (0)) hx hb d_MD_low_16 rfl ?_
    exact cn_zret hx hb hr hlk hw rfl (⟨by rw [show lw u = false from decide_eq_false (by omega)]; rfl, rfl⟩) (Nat.le_refl _) (Nat.le_refl _) d_MD_low_17
  · refine lv_iload_n hx hb d_MD_low_6 rfl (lv_at hl 0 rfl) ?_
    refine lv_ldc (v := iI (57343)) hx hb X.own (X.hts _ mw_738) d_MD_low_7 ?_
    refine di_icmp_gt (tgt := 16) hx hb d_MD_low_9 (by decide) ⟨by omega, by omega⟩ ⟨by omega, by omega⟩ (fun bq9 => ?_) (fun bq9 => ?_)
    · refine lv_iconst (v := iI (0)) hx hb d_MD_low_16 rfl ?_
      exact cn_zret hx hb hr hlk hw rfl (⟨by rw [show lw u = false from decide_eq_false (by omega)]; rfl, rfl⟩) (Nat.le_refl _) (Nat.le_refl _) d_MD_low_17
    · refine lv_iconst (v := iI (1)) hx hb d_MD_low_12 rfl ?_
      refine lv_goto (tgt := 17) hx hb d_MD_low_13 (by decide) ?_
      exact cn_zret hx hb hr hlk hw rfl (⟨by rw [show lw u = true from decide_eq_true (by omega)]; rfl, rfl⟩) (Nat.le_refl _) (Nat.le_refl _) d_MD_low_17
set_option maxRecDepth 100000 in
set_option maxHeartbeats 4000000 in
theorem c_MD_thrown (l : Launch) (G : ct_G) (f : dw_M) (sz : Nat) (y : Nat) (th : Int) (T Y : List (List Int)) (B Z M C : List Int) (hL : mdL G f y th T Y B Z M C) : cn l y_MD_thrown w_MD_thrown (0) (0) G f sz [.ref y] (fun v f' => v = some (.int (iI th)) ∧ f' = f) (0) (0) := by
  refine cn_of (own := "TextDeskModel") (nm := "thrown") (ds := "()I") (by decide) (Nat.le_of_ble_eq_true rfl) ?_
  intro p e s m args below meth c ls X hnm hr hlk hs0 hz hw hl
  have hx := X.1
  have hb := X.2.1
  have hl : lv_has ls 1 [(0, .ref y)] := hl
  obtain ⟨si, un, bu, ma, bt, so, co, gsi, gun, gbu, gma, gbt, gso, gco, hM, hT, hB, hZ, hMa, hC, hY⟩ := id hL
  have hTl := hT.1
  have hBl := hB.1.1
  have hZl := hZ.1.1
  have hYl := hY.1
  have hCl := hC.1
  refine lv_aload_n hx hb d_MD_thrown_0 rfl (lv_at hl 0 rfl) ?_
  refine gf_MD_31_MD X hw hM.1 d_MD_thrown_1 ?_
  exact cn_iret hx hb hr hlk hw  (⟨rfl, rfl⟩) (Nat.le_refl _) (Nat.le_refl _) d_MD_thrown_4
set_option maxRecDepth 100000 in
set_option maxHeartbeats 4000000 in
theorem c_MD_fail (l : Launch) (G : ct_G) (f : dw_M) (sz : Nat) (y : Nat) (th : Int) (T Y : List (List Int)) (B Z M C : List Int) (u : Int) (hL : mdL G f y th T Y B Z M C) : cn l y_MD_fail w_MD_fail (0) (0) G f sz [.ref y, .int (iI u)] (fun v f' => v = some (.int (iI 0)) ∧ mdL G f' y u T Y B Z M C) (0) (0) := by
  refine cn_of (own := "TextDeskModel") (nm := "fail") (ds := "(I)I") (by decide) (Nat.le_of_ble_eq_true rfl) ?_
  intro p e s m args below meth c ls X hnm hr hlk hs0 hz hw hl
  have hx := X.1
  have hb := X.2.1
  have hl : lv_has ls 2 [(0, .ref y), (1, .int (iI u))] := hl
  obtain ⟨si, un, bu, ma, bt, so, co, gsi, gun, gbu, gma, gbt, gso, gco, hM, hT, hB, hZ, hMa, hC, hY⟩ := id hL
  have hTl := hT.1
  have hBl := hB.1.1
  have hZl := hZ.1.1
  have hYl := hY.1
  have hCl := hC.1
  refine lv_aload_n hx hb d_MD_fail_0 rfl (lv_at hl 0 rfl) ?_
  refine lv_iload_n hx hb d_MD_fail_1 rfl (lv_at hl 1 rfl) ?_
  refine pf_MD_31_MD X hw hM.1 rfl rfl d_MD_fail_2 (fun H locs hw => ?_)
  obtain ⟨f1, e_f1⟩ : ∃ g9 : dw_M, g9 = dw_up f y (.inr (6, [.int (iI u), .int (iI ((T.length : Int))), .ref si, .ref un, .int (iI ((B.length : Int))), .ref bu, .int (iI ((M.length : Int))), .ref ma, .int (iI ((Z.length : Int))), .ref bt, .int (iI ((Y.length : Int))), .ref so, .int (iI ((C.length : Int))), .ref co])) := ⟨_, rfl⟩
  rw [← e_f1] at hw
  have hM_f1 : mdS G f1 y u (T.length : Int) (B.length : Int) (M.length : Int) (Z.length : Int) (Y.length : Int) (C.length : Int) si un bu ma bt so co gsi gun gbu gma gbt gso gco := by rw [e_f1]; exact hM.obj u (T.length : Int) (B.length : Int) (M.length : Int) (Z.length : Int) (Y.length : Int) (C.length : Int)
  refine lv_iconst (v := iI (0)) hx hb d_MD_fail_5 rfl ?_
  exact cn_iret hx hb hr hlk hw  (⟨rfl, ⟨si, un, bu, ma, bt, so, co, _, _, _, _, _, _, _, hM_f1, hT, hB, hZ, hMa, hC, hY⟩⟩) (Nat.le_refl _) (Nat.le_refl _) d_MD_fail_6
set_option maxRecDepth 100000 in
set_option maxHeartbeats 4000000 in
theorem c_MD_isText (l : Launch) (G : ct_G) (f : dw_M) (sz : Nat) (y : Nat) (th : Int) (T Y : List (List Int)) (B Z M C : List Int) (k : Int) (hk : iR k) (hL : mdL G f y th T Y B Z M C) : cn l y_MD_isText w_MD_isText (1) (21) G f sz [.ref y, .int (iI k)] (fun v f' => v = some (.int (iI (b2 (decide (isT T k))))) ∧ f' = f) (0) (0) := by
  refine cn_of (own := "TextDeskModel") (nm := "isText") (ds := "(I)Z") (by decide) (Nat.le_of_ble_eq_true rfl) ?_
  intro p e s m args below meth c ls X hnm hr hlk hs0 hz hw hl
  have hx := X.1
  have hb := X.2.1
  have hl : lv_has ls 2 [(0, .ref y), (1, .int (iI k))] := hl
  obtain ⟨si, un, bu, ma, bt, so, co, gsi, gun, gbu, gma, gbt, gso, gco, hM, hT, hB, hZ, hMa, hC, hY⟩ := id hL
  have hTl := hT.1
  have hBl := hB.1.1
  have hZl := hZ.1.1
  have hYl := hY.1
  have hCl := hC.1
  obtain ⟨hk0, hk1⟩ := hk
  refine lv_iload_n hx hb d_MD_isText_0 rfl (lv_at hl 1 rfl) ?_
  refine lv_aload_n hx hb d_MD_isText_1 rfl (lv_at hl 0 rfl) ?_
  refine gf_MD_58_MD X hw hM.1 d_MD_isText_2 ?_
  refine cs_MD_61 X hz hw hl.1 (c_MD_out l G f _ k (T.length : Int) ⟨by omega, by omega⟩ ⟨by omega, by omega⟩) ⟨Nat.le_of_ble_eq_true rfl, Nat.le_of_ble_eq_true rfl⟩ ⟨by show 0 + 0 ≤ 0; omega, by show 0 + 0 ≤ 0; omega⟩ (Nat.le_of_ble_eq_true rfl) d_MD_isText_5 (fun v f9 H locs hp hw hsz9 hkp9 hdm9 => ?_)
  obtain ⟨rfl, hfe⟩ := hp
  rw [hfe] at hw
  refine W.eq (g2 := F0 m 8 ls [.int (iI (b2 (decide (k < 0 ∨ (T.length : Int) ≤ k))))]) rfl ?_
  have hb1 := b2_01 (decide (k < 0 ∨ (T.length : Int) ≤ k))
  refine di_if_ne (tgt := 15) hx hb d_MD_isText_8 (by decide) ⟨by omega, by omega⟩ (fun bq8 => ?_) (fun bq8 => ?_)
  · refine lv_iconst (v := iI (0)) hx hb d_MD_isText_15 rfl ?_
    exact cn_zret hx hb hr hlk hw rfl (⟨by rw [show decide (isT T k) = false from decide_eq_false (by have := of_decide_eq_true (b2_1 bq8); show ¬ (0 ≤ k ∧ k < (T.length : Int)); omega)]; rfl, rfl⟩) (Nat.le_refl _) (Nat.le_refl _) d_MD_isText_16
  · refine lv_iconst (v := iI (1)) hx hb d_MD_isText_11 rfl ?_
    refine lv_goto (tgt := 16) hx hb d_MD_isText_12 (by decide) ?_
    exact cn_zret hx hb hr hlk hw rfl (⟨by rw [show decide (isT T k) = true from decide_eq_true (by have := of_decide_eq_false (b2_0 (by omega) : decide (k < 0 ∨ (T.length : Int) ≤ k) = false); show 0 ≤ k ∧ k < (T.length : Int); omega)]; rfl, rfl⟩) (Nat.le_refl _) (Nat.le_refl _) d_MD_isText_16
set_option maxRecDepth 100000 in
set_option maxHeartbeats 4000000 in
theorem c_MD_unitOf (l : Launch) (G : ct_G) (f : dw_M) (sz : Nat) (y : Nat) (th : Int) (T Y : List (List Int)) (B Z M C : List Int) (t k : Int) (ht : isT T t) (hk : 0 ≤ k ∧ k < ((tt T t).length : Int)) (hL : mdL G f y th T Y B Z M C) : cn l y_MD_unitOf w_MD_unitOf (0) (0) G f sz [.ref y, .int (iI t), .int (iI k)] (fun v f' => v = some (.int (iI (gt (tt T t) k))) ∧ f' = f) (0) (0) := by
  refine cn_of (own := "TextDeskModel") (nm := "unitOf") (ds := "(II)I") (by decide) (Nat.le_of_ble_eq_true rfl) ?_
  intro p e s m args below meth c ls X hnm hr hlk hs0 hz hw hl
  have hx := X.1
  have hb := X.2.1
  have hl : lv_has ls 3 [(0, .ref y), (1, .int (iI t)), (2, .int (iI k))] := hl
  obtain ⟨si, un, bu, ma, bt, so, co, gsi, gun, gbu, gma, gbt, gso, gco, hM, hT, hB, hZ, hMa, hC, hY⟩ := id hL
  have hTl := hT.1
  have hBl := hB.1.1
  have hZl := hZ.1.1
  have hYl := hY.1
  have hCl := hC.1
  have hle := hT.len t
  obtain ⟨ht0, ht1⟩ := ht
  refine lv_aload_n hx hb d_MD_unitOf_0 rfl (lv_at hl 0 rfl) ?_
  refine gf_MD_13_MD X hw hM.1 d_MD_unitOf_1 ?_
  refine lv_bipush (v := iI (60)) hx hb d_MD_unitOf_4 rfl ?_
  refine lv_iload_n hx hb d_MD_unitOf_6 rfl (lv_at hl 1 rfl) ?_
  refine di_mul hx hb d_MD_unitOf_7 ?_
  refine lv_iload_n hx hb d_MD_unitOf_8 rfl (lv_at hl 2 rfl) ?_
  refine di_add hx hb d_MD_unitOf_9 ?_
  refine dw_iald hx hb X.K hw 0 hM.2.2.1 rfl (i := (60 * t) + k) (by omega) (by omega) (by omega) (hT.un ⟨ht0, ht1⟩ hk.1 hk.2) d_MD_unitOf_10 ?_
  exact cn_iret hx hb hr hlk hw  (⟨rfl, rfl⟩) (Nat.le_refl _) (Nat.le_refl _) d_MD_unitOf_11
set_option maxRecDepth 100000 in
set_option maxHeartbeats 4000000 in
theorem c_MD_make (l : Launch) (G : ct_G) (f : dw_M) (sz : Nat) (y : Nat) (th : Int) (T Y : List (List Int)) (B Z M C : List Int) (u : Int) (hm : M.length < 100000) (hL : mdL G f y th T Y B Z M C) : cn l y_MD_make w_MD_make (0) (0) G f sz [.ref y, .int (iI u)] (fun v f' => v = none ∧ mdL G f' y th T Y B Z (M ++ [u]) C) (0) (0) := by
  refine cn_of (own := "TextDeskModel") (nm := "make") (ds := "(I)V") (by decide) (Nat.le_of_ble_eq_true rfl) ?_
  intro p e s m args below meth c ls X hnm hr hlk hs0 hz hw hl
  have hx := X.1
  have hb := X.2.1
  have hl : lv_has ls 2 [(0, .ref y), (1, .int (iI u))] := hl
  obtain ⟨si, un, bu, ma, bt, so, co, gsi, gun, gbu, gma, gbt, gso, gco, hM, hT, hB, hZ, hMa, hC, hY⟩ := id hL
  have hTl := hT.1
  have hBl := hB.1.1
  have hZl := hZ.1.1
  have hYl := hY.1
  have hCl := hC.1
  have el : (((M ++ [u]).length : Nat) : Int) = (M.length : Int) + 1 := by simp
  refine lv_aload_n hx hb d_MD_make_0 rfl (lv_at hl 0 rfl) ?_
  refine gf_MD_55_MD X hw hM.1 d_MD_make_1 ?_
  refine lv_sipush (v := iI (200)) hx hb d_MD_make_4 rfl ?_
  refine di_icmp_ge (tgt := 20) hx hb d_MD_make_7 (by decide) ⟨by omega, by omega⟩ ⟨by omega, by omega⟩ (fun bq7 => ?_) (fun bq7 => ?_)
  · refine lv_aload_n hx hb d_MD_make_20 rfl (lv_at hl 0 rfl) ?_
    refine lv_dup hx hb d_MD_make_21 rfl ?_
    refine gf_MD_55_MD X hw hM.1 d_MD_make_22 ?_
    refine lv_iconst (v := iI (1)) hx hb d_MD_make_25 rfl ?_
    refine di_add hx hb d_MD_make_26 ?_
    refine pf_MD_55_MD X hw hM.1 rfl rfl d_MD_make_27 (fun H locs hw => ?_)
    obtain ⟨f1, e_f1⟩ : ∃ g9 : dw_M, g9 = dw_up f y (.inr (6, [.int (iI th), .int (iI ((T.length : Int))), .ref si, .ref un, .int (iI ((B.length : Int))), .ref bu, .int (iI ((M.length : Int) + 1)), .ref ma, .int (iI ((Z.length : Int))), .ref bt, .int (iI ((Y.length : Int))), .ref so, .int (iI ((C.length : Int))), .ref co])) := ⟨_, rfl⟩
    rw [← e_f1] at hw
    have hM_f1 : mdS G f1 y th (T.length : Int) (B.length : Int) ((M.length : Int) + 1) (Z.length : Int) (Y.length : Int) (C.length : Int) si un bu ma bt so co gsi gun gbu gma gbt gso gco := by rw [e_f1]; exact hM.obj th (T.length : Int) (B.length : Int) ((M.length : Int) + 1) (Z.length : Int) (Y.length : Int) (C.length : Int)
    exact cn_vret hx hb hr hlk hw  (⟨rfl, ⟨si, un, bu, ma, bt, so, co, _, _, _, _, _, _, _, (by rw [el]; exact hM_f1), hT, hB, hZ, (hMa.over (by omega) u), hC, hY⟩⟩) (Nat.le_refl _) (Nat.le_refl _) d_MD_make_30
  · refine lv_aload_n hx hb d_MD_make_10 rfl (lv_at hl 0 rfl) ?_
    refine gf_MD_19_MD X hw hM.1 d_MD_make_11 ?_
    refine lv_aload_n hx hb d_MD_make_14 rfl (lv_at hl 0 rfl) ?_
    refine gf_MD_55_MD X hw hM.1 d_MD_make_15 ?_
    refine lv_iload_n hx hb d_MD_make_18 rfl (lv_at hl 1 rfl) ?_
    refine dw_iast hx hb X.K hw 0 hM.2.2.2.2.1 rfl (i := (M.length : Int)) (by omega) (by omega) (by omega) d_MD_make_19 (fun H locs hw => ?_)
    obtain ⟨f2, e_f2⟩ : ∃ g9 : dw_M, g9 = dw_up f ma (.inl (G.2.1 0, 200, .inl (upd gma ((M.length : Int)).toNat (iI (u))))) := ⟨_, rfl⟩
    rw [← e_f2] at hw
    have hM_f2 : mdS G f2 y th (T.length : Int) (B.length : Int) (M.length : Int) (Z.length : Int) (Y.length : Int) (C.length : Int) si un bu ma bt so co gsi gun gbu (upd gma ((M.length : Int)).toNat (iI (u))) gbt gso gco := by rw [e_f2]; exact hM.w_ma _
    refine lv_aload_n hx hb d_MD_make_20 rfl (lv_at hl 0 rfl) ?_
    refine lv_dup hx hb d_MD_make_21 rfl ?_
    refine gf_MD_55_MD X hw hM_f2.1 d_MD_make_22 ?_
    refine lv_iconst (v := iI (1)) hx hb d_MD_make_25 rfl ?_
    refine di_add hx hb d_MD_make_26 ?_
    refine pf_MD_55_MD X hw hM_f2.1 rfl rfl d_MD_make_27 (fun H locs hw => ?_)
    obtain ⟨f3, e_f3⟩ : ∃ g9 : dw_M, g9 = dw_up f2 y (.inr (6, [.int (iI th), .int (iI ((T.length : Int))), .ref si, .ref un, .int (iI ((B.length : Int))), .ref bu, .int (iI ((M.length : Int) + 1)), .ref ma, .int (iI ((Z.length : Int))), .ref bt, .int (iI ((Y.length : Int))), .ref so, .int (iI ((C.length : Int))), .ref co])) := ⟨_, rfl⟩
    rw [← e_f3] at hw
    have hM_f3 : mdS G f3 y th (T.length : Int) (B.length : Int) ((M.length : Int) + 1) (Z.length : Int) (Y.length : Int) (C.length : Int) si un bu ma bt so co gsi gun gbu (upd gma ((M.length : Int)).toNat (iI (u))) gbt gso gco := by rw [e_f3]; exact hM_f2.obj th (T.length : Int) (B.length : Int) ((M.length : Int) + 1) (Z.length : Int) (Y.length : Int) (C.length : Int)
    exact cn_vret hx hb hr hlk hw  (⟨rfl, ⟨si, un, bu, ma, bt, so, co, _, _, _, _, _, _, _, (by rw [el]; exact hM_f3), hT, hB, hZ, (by rw [Int.toNat_natCast]; exact hMa.snoc u), hC, hY⟩⟩) (Nat.le_refl _) (Nat.le_refl _) d_MD_make_30
set_option maxRecDepth 100000 in
set_option maxHeartbeats 4000000 in
theorem c_MD_makePart (l : Launch) (G : ct_G) (f : dw_M) (sz : Nat) (y : Nat) (th : Int) (T Y : List (List Int)) (B Z M C : List Int) (t fr to : Int) (ht : isT T t) (hrg : 0 ≤ fr ∧ to ≤ ((tt T t).length : Int) ∧ -1000 ≤ to ∧ fr ≤ 1000) (hm : M.length < 1000) (hL : mdL G f y th T Y B Z M C) : cn l y_MD_makePart w_MD_makePart (1) (22) G f sz [.ref y, .int (iI t), .int (iI fr), .int (iI to)] (fun v f' => v = none ∧ mdL G f' y th T Y B Z (M ++ sbl (tt T t) fr to) C) (0) (0) := by
  refine cn_of (own := "TextDeskModel") (nm := "makePart") (ds := "(III)V") (by decide) (Nat.le_of_ble_eq_true rfl) ?_
  intro p e s m args below meth c ls X hnm hr hlk hs0 hz hw hl
  have hx := X.1
  have hb := X.2.1
  have hl : lv_has ls 5 [(0, .ref y), (1, .int (iI t)), (2, .int (iI fr)), (3, .int (iI to))] := hl
  obtain ⟨si, un, bu, ma, bt, so, co, gsi, gun, gbu, gma, gbt, gso, gco, hM, hT, hB, hZ, hMa, hC, hY⟩ := id hL
  have hTl := hT.1
  have hBl := hB.1.1
  have hZl := hZ.1.1
  have hYl := hY.1
  have hCl := hC.1
  have hle := hT.len t
  have hti := ht.1
  have htj := ht.2
  refine lv_iload_n hx hb d_MD_makePart_0 rfl (lv_at hl 2 rfl) ?_
  refine lv_istore (lv' := [(4, .int (iI fr)), (0, .ref y), (1, .int (iI t)), (2, .int (iI fr)), (3, .int (iI to))]) hx hb d_MD_makePart_1 hl (by decide) rfl (fun ls hl => ?_)
  have loop : ∀ (N : Nat) (k : Int) (Mk : List Int) (f1 : dw_M) (H : Heap) (locs : List Loc) (ls : Array Slot), (to - k).toNat < N → fr ≤ k → (k ≤ to ∨ k = fr) → Mk = M ++ sbl (tt T t) fr k → mdL G f1 y th T Y B Z Mk C → dw G.1 dk_cl (dw_A f sz) s.heap f1 H locs → lv_has ls 5 [(4, .int (iI k)), (0, .ref y), (1, .int (iI t)), (2, .int (iI fr)), (3, .int (iI to))] → W p l e { frames := 1, locals := 22, cells := 0, slots := 0 } s m args below meth c H locs (0) (0) (MQ below (ct_Q G f sz (fun v f' => v = none ∧ mdL G f' y th T Y B Z (M ++ sbl (tt T t) fr to) C)) args s (0) (0) (dw_A f sz)) (F0 m 3 ls []) := by
    intro N
    induction N with
    | zero => intros; omega
    | succ N ih =>
      intro k Mk f1 H locs ls hN hk0 hst hMk hL1 hw hl
      obtain ⟨si, un, bu, ma, bt, so, co, gsi, gun, gbu, gma, gbt, gso, gco, hM, hT, hB, hZ, hMa, hC, hY⟩ := id hL1
      refine lv_iload hx hb d_MD_makePart_3 (lv_at hl 0 rfl) ?_
      refine lv_iload_n hx hb d_MD_makePart_5 rfl (lv_at hl 4 rfl) ?_
      refine di_icmp_ge (tgt := 26) hx hb d_MD_makePart_6 (by decide) ⟨by omega, by omega⟩ ⟨by omega, by omega⟩ (fun bq6 => ?_) (fun bq6 => ?_)
      · exact cn_vret hx hb hr hlk hw  (⟨rfl, by rw [hMk, show sbl (tt T t) fr k = sbl (tt T t) fr to from sbl_stop (by omega) (by omega) hst] at hL1; exact hL1⟩) (Nat.le_refl _) (Nat.le_refl _) d_MD_makePart_26
      · refine lv_aload_n hx hb d_MD_makePart_9 rfl (lv_at hl 1 rfl) ?_
        refine lv_aload_n hx hb d_MD_makePart_10 rfl (lv_at hl 1 rfl) ?_
        refine lv_iload_n hx hb d_MD_makePart_11 rfl (lv_at hl 2 rfl) ?_
        refine lv_iload hx hb d_MD_makePart_12 (lv_at hl 0 rfl) ?_
        refine cs_MD_39 X hz hw hl.1 hM.1 (c_MD_unitOf l G f1 _ y th T Y B Z Mk C t k ht ⟨by omega, by omega⟩ ⟨si, un, bu, ma, bt, so, co, _, _, _, _, _, _, _, hM, hT, hB, hZ, hMa, hC, hY⟩) ⟨Nat.le_of_ble_eq_true rfl, Nat.le_of_ble_eq_true rfl⟩ ⟨by show 0 + 0 ≤ 0; omega, by show 0 + 0 ≤ 0; omega⟩ (Nat.le_of_ble_eq_true rfl) d_MD_makePart_14 (fun v f9 H locs hp hw hsz9 hkp9 hdm9 => ?_)
        obtain ⟨rfl, hfe⟩ := hp
        rw [hfe] at hw
        refine W.eq (g2 := F0 m 17 ls [.int (iI (gt (tt T t) k)), .ref y]) rfl ?_
        refine cs_MD_64 X hz hw hl.1 hM.1 (c_MD_make l G f1 _ y th T Y B Z Mk C (gt (tt T t) k) (by rw [hMk, List.length_append]; have := sbl_len (tt T t) fr k; omega) ⟨si, un, bu, ma, bt, so, co, _, _, _, _, _, _, _, hM, hT, hB, hZ, hMa, hC, hY⟩) ⟨Nat.le_of_ble_eq_true rfl, Nat.le_of_ble_eq_true rfl⟩ ⟨by show 0 + 0 ≤ 0; omega, by show 0 + 0 ≤ 0; omega⟩ (Nat.le_of_ble_eq_true rfl) d_MD_makePart_17 (fun v f2 H locs hp hw hsz9 hkp9 hdm9 => ?_)
        obtain ⟨rfl, hL_f2⟩ := hp
        refine W.eq (g2 := F0 m 20 ls []) rfl ?_
        obtain ⟨si, un, bu, ma, bt, so, co, gsi, gun, gbu, gma, gbt, gso, gco, hM, hT, hB, hZ, hMa, hC, hY⟩ := id hL_f2
        refine lv_iinc (v := iI (k + 1)) (lv' := [(4, .int (iI (k + 1))), (0, .ref y), (1, .int (iI t)), (2, .int (iI fr)), (3, .int (iI to))]) hx hb d_MD_makePart_20 hl (k := 0) rfl (iI_add _ _) (by decide) rfl (fun ls hl => ?_)
        refine lv_goto (tgt := 3) hx hb d_MD_makePart_23 (by decide) ?_
        exact ih (k + 1) (Mk ++ [gt (tt T t) k]) _ _ _ _ (by omega) (by omega) (Or.inl (by omega)) (by rw [hMk, sbl_snoc (by omega) (by omega) (by omega), gt_in (by omega) (by omega), List.append_assoc]) (hL_f2) hw (lv_sub hl [0, 1, 2, 3, 4] rfl)
  exact loop ((to - fr).toNat + 1) (fr) (M) _ _ _ _ (by omega) (by omega) (Or.inr rfl) (by rw [sbl_nil (Int.le_refl _) hrg.1, List.append_nil]) (hL) hw (lv_sub hl [0, 1, 2, 3, 4] rfl)
set_option maxRecDepth 100000 in
set_option maxHeartbeats 4000000 in
theorem c_MD_pair (l : Launch) (G : ct_G) (f : dw_M) (sz : Nat) (y : Nat) (th : Int) (T Y : List (List Int)) (B Z M C : List Int) (t k : Int) (ht : isT T t) (hk : 0 ≤ k ∧ k < ((tt T t).length : Int)) (hL : mdL G f y th T Y B Z M C) : cn l y_MD_pair w_MD_pair (1) (22) G f sz [.ref y, .int (iI t), .int (iI k)] (fun v f' => v = some (.int (iI (b2 (pr (tt T t) k)))) ∧ f' = f) (0) (0) := by
  refine cn_of (own := "TextDeskModel") (nm := "pair") (ds := "(II)Z") (by decide) (Nat.le_of_ble_eq_true rfl) ?_
  intro p e s m args below meth c ls X hnm hr hlk hs0 hz hw hl
  have hx := X.1
  have hb := X.2.1
  have hl : lv_has ls 3 [(0, .ref y), (1, .int (iI t)), (2, .int (iI k))] := hl
  obtain ⟨si, un, bu, ma, bt, so, co, gsi, gun, gbu, gma, gbt, gso, gco, hM, hT, hB, hZ, hMa, hC, hY⟩ := id hL
  have hTl := hT.1
  have hBl := hB.1.1
  have hZl := hZ.1.1
  have hYl := hY.1
  have hCl := hC.1
  have hle := hT.len t
  have hti := ht.1
  have htj := ht.2
  have hg1 := gt_rng (hT.rng t) k
  have hg2 := gt_rng (hT.rng t) (k + 1)
  refine lv_iload_n hx hb d_MD_pair_0 rfl (lv_at hl 2 rfl) ?_
  refine lv_iconst (v := iI (1)) hx hb d_MD_pair_1 rfl ?_
  refine di_add hx hb d_MD_pair_2 ?_
  refine lv_aload_n hx hb d_MD_pair_3 rfl (lv_at hl 0 rfl) ?_
  refine gf_MD_7_MD X hw hM.1 d_MD_pair_4 ?_
  refine lv_iload_n hx hb d_MD_pair_7 rfl (lv_at hl 1 rfl) ?_
  refine dw_iald hx hb X.K hw 0 hM.2.1 rfl (i := t) (by omega) (by omega) (by omega) (hT.sz ht) d_MD_pair_8 ?_
  refine di_icmp_ge (tgt := 42) hx hb d_MD_pair_9 (by decide) ⟨by omega, by omega⟩ ⟨by omega, by omega⟩ (fun bq9 => ?_) (fun bq9 => ?_)
  · refine lv_iconst (v := iI (0)) hx hb d_MD_pair_42 rfl ?_
    exact cn_zret hx hb hr hlk hw rfl (⟨by rw [show pr (tt T t) k = false from by rw [pr, gt_out (us := tt T t) (k := k + 1) (by omega)]; simp [lw]]; rfl, rfl⟩) (Nat.le_refl _) (Nat.le_refl _) d_MD_pair_43
  · refine lv_aload_n hx hb d_MD_pair_12 rfl (lv_at hl 0 rfl) ?_
    refine lv_iload_n hx hb d_MD_pair_13 rfl (lv_at hl 1 rfl) ?_
    refine lv_iload_n hx hb d_MD_pair_14 rfl (lv_at hl 2 rfl) ?_
    refine cs_MD_39 X hz hw hl.1 hM.1 (c_MD_unitOf l G f _ y th T Y B Z M C t k ht ⟨by omega, by omega⟩ ⟨si, un, bu, ma, bt, so, co, _, _, _, _, _, _, _, hM, hT, hB, hZ, hMa, hC, hY⟩) ⟨Nat.le_of_ble_eq_true rfl, Nat.le_of_ble_eq_true rfl⟩ ⟨by show 0 + 0 ≤ 0; omega, by show 0 + 0 ≤ 0; omega⟩ (Nat.le_of_ble_eq_true rfl) d_MD_pair_15 (fun v f9 H locs hp hw hsz9 hkp9 hdm9 => ?_)
    obtain ⟨rfl, hfe⟩ := hp
    rw [hfe] at hw
    refine W.eq (g2 := F0 m 18 ls [.int (iI (gt (tt T t) k))]) rfl ?_
    refine cs_MD_43 X hz hw hl.1 (c_MD_high l G f _ (gt (tt T t) k) ⟨by omega, by omega⟩) ⟨Nat.le_of_ble_eq_true rfl, Nat.le_of_ble_eq_true rfl⟩ ⟨by show 0 + 0 ≤ 0; omega, by show 0 + 0 ≤ 0; omega⟩ (Nat.le_of_ble_eq_true rfl) d_MD_pair_18 (fun v f9 H locs hp hw hsz9 hkp9 hdm9 => ?_)
    obtain ⟨rfl, hfe⟩ := hp
    rw [hfe] at hw
    refine W.eq (g2 := F0 m 21 ls [.int (iI (b2 (hi (gt (tt T t) k))))]) rfl ?_
    have hb1 := b2_01 (hi (gt (tt T t) k))
    refine di_if_eq (tgt := 42) hx hb d_MD_pair_21 (by decide) ⟨by omega, by omega⟩ (fun bq21 => ?_) (fun bq21 => ?_)
    · refine lv_iconst (v := iI (0)) hx hb d_MD_pair_42 rfl ?_
      exact cn_zret hx hb hr hlk hw rfl (⟨by rw [show pr (tt T t) k = false from by rw [pr, b2_0 bq21, Bool.false_and]]; rfl, rfl⟩) (Nat.le_refl _) (Nat.le_refl _) d_MD_pair_43
    · refine lv_aload_n hx hb d_MD_pair_24 rfl (lv_at hl 0 rfl) ?_
      refine lv_iload_n hx hb d_MD_pair_25 rfl (lv_at hl 1 rfl) ?_
      refine lv_iload_n hx hb d_MD_pair_26 rfl (lv_at hl 2 rfl) ?_
      refine lv_iconst (v := iI (1)) hx hb d_MD_pair_27 rfl ?_
      refine di_add hx hb d_MD_pair_28 ?_
      refine cs_MD_39 X hz hw hl.1 hM.1 (c_MD_unitOf l G f _ y th T Y B Z M C t (k + 1) ht ⟨by omega, by omega⟩ ⟨si, un, bu, ma, bt, so, co, _, _, _, _, _, _, _, hM, hT, hB, hZ, hMa, hC, hY⟩) ⟨Nat.le_of_ble_eq_true rfl, Nat.le_of_ble_eq_true rfl⟩ ⟨by show 0 + 0 ≤ 0; omega, by show 0 + 0 ≤ 0; omega⟩ (Nat.le_of_ble_eq_true rfl) d_MD_pair_29 (fun v f9 H locs hp hw hsz9 hkp9 hdm9 => ?_)
      obtain ⟨rfl, hfe⟩ := hp
      rw [hfe] at hw
      refine W.eq (g2 := F0 m 32 ls [.int (iI (gt (tt T t) (k + 1)))]) rfl ?_
      refine cs_MD_47 X hz hw hl.1 (c_MD_low l G f _ (gt (tt T t) (k + 1)) ⟨by omega, by omega⟩) ⟨Nat.le_of_ble_eq_true rfl, Nat.le_of_ble_eq_true rfl⟩ ⟨by show 0 + 0 ≤ 0; omega, by show 0 + 0 ≤ 0; omega⟩ (Nat.le_of_ble_eq_true rfl) d_MD_pair_32 (fun v f9 H locs hp hw hsz9 hkp9 hdm9 => ?_)
      obtain ⟨rfl, hfe⟩ := hp
      rw [hfe] at hw
      refine W.eq (g2 := F0 m 35 ls [.int (iI (b2 (lw (gt (tt T t) (k + 1)))))]) rfl ?_
      have hb2 := b2_01 (lw (gt (tt T t) (k + 1)))
      refine di_if_eq (tgt := 42) hx hb d_MD_pair_35 (by decide) ⟨by omega, by omega⟩ (fun bq35 => ?_) (fun bq35 => ?_)
      · refine lv_iconst (v := iI (0)) hx hb d_MD_pair_42 rfl ?_
        exact cn_zret hx hb hr hlk hw rfl (⟨by rw [show pr (tt T t) k = false from by rw [pr, b2_0 bq35, Bool.and_false]]; rfl, rfl⟩) (Nat.le_refl _) (Nat.le_refl _) d_MD_pair_43
      · refine lv_iconst (v := iI (1)) hx hb d_MD_pair_38 rfl ?_
        refine lv_goto (tgt := 43) hx hb d_MD_pair_39 (by decide) ?_
        exact cn_zret hx hb hr hlk hw rfl (⟨by rw [show pr (tt T t) k = true from by rw [pr, b2_1 bq21, b2_1 bq35]; rfl]; rfl, rfl⟩) (Nat.le_refl _) (Nat.le_refl _) d_MD_pair_43
set_option maxRecDepth 100000 in
set_option maxHeartbeats 4000000 in
theorem c_MD_characterAt (l : Launch) (G : ct_G) (f : dw_M) (sz : Nat) (y : Nat) (th : Int) (T Y : List (List Int)) (B Z M C : List Int) (t k : Int) (ht : isT T t) (hk : 0 ≤ k ∧ k < ((tt T t).length : Int)) (hL : mdL G f y th T Y B Z M C) : cn l y_MD_characterAt w_MD_characterAt (2) (44) G f sz [.ref y, .int (iI t), .int (iI k)] (fun v f' => v = some (.int (iI (chr (tt T t) k))) ∧ f' = f) (0) (0) := by
  refine cn_of (own := "TextDeskModel") (nm := "characterAt") (ds := "(II)I") (by decide) (Nat.le_of_ble_eq_true rfl) ?_
  intro p e s m args below meth c ls X hnm hr hlk hs0 hz hw hl
  have hx := X.1
  have hb := X.2.1
  have hl : lv_has ls 4 [(0, .ref y), (1, .int (iI t)), (2, .int (iI k))] := hl
  obtain ⟨si, un, bu, ma, bt, so, co, gsi, gun, gbu, gma, gbt, gso, gco, hM, hT, hB, hZ, hMa, hC, hY⟩ := id hL
  have hTl := hT.1
  have hBl := hB.1.1
  have hZl := hZ.1.1
  have hYl := hY.1
  have hCl := hC.1
  have hle := hT.len t
  have hti := ht.1
  have htj := ht.2
  have hb1 := b2_01 (pr (tt T t) k)
  refine lv_aload_n hx hb d_MD_characterAt_0 rfl (lv_at hl 0 rfl) ?_
  refine lv_iload_n hx hb d_MD_characterAt_1 rfl (lv_at hl 1 rfl) ?_
  refine lv_iload_n hx hb d_MD_characterAt_2 rfl (lv_at hl 2 rfl) ?_
  refine cs_MD_39 X hz hw hl.1 hM.1 (c_MD_unitOf l G f _ y th T Y B Z M C t k ht hk ⟨si, un, bu, ma, bt, so, co, _, _, _, _, _, _, _, hM, hT, hB, hZ, hMa, hC, hY⟩) ⟨Nat.le_of_ble_eq_true rfl, Nat.le_of_ble_eq_true rfl⟩ ⟨by show 0 + 0 ≤ 0; omega, by show 0 + 0 ≤ 0; omega⟩ (Nat.le_of_ble_eq_true rfl) d_MD_characterAt_3 (fun v f9 H locs hp hw hsz9 hkp9 hdm9 => ?_)
  obtain ⟨rfl, hfe⟩ := hp
  rw [hfe] at hw
  refine W.eq (g2 := F0 m 6 ls [.int (iI (gt (tt T t) k))]) rfl ?_
  refine lv_istore_n (lv' := [(3, .int (iI (gt (tt T t) k))), (0, .ref y), (1, .int (iI t)), (2, .int (iI k))]) hx hb d_MD_characterAt_6 rfl hl (by decide) rfl (fun ls hl => ?_)
  refine lv_aload_n hx hb d_MD_characterAt_7 rfl (lv_at hl 1 rfl) ?_
  refine lv_iload_n hx hb d_MD_characterAt_8 rfl (lv_at hl 2 rfl) ?_
  refine lv_iload_n hx hb d_MD_characterAt_9 rfl (lv_at hl 3 rfl) ?_
  refine cs_MD_50 X hz hw hl.1 hM.1 (c_MD_pair l G f _ y th T Y B Z M C t k ht hk ⟨si, un, bu, ma, bt, so, co, _, _, _, _, _, _, _, hM, hT, hB, hZ, hMa, hC, hY⟩) ⟨Nat.le_of_ble_eq_true rfl, Nat.le_of_ble_eq_true rfl⟩ ⟨by show 0 + 0 ≤ 0; omega, by show 0 + 0 ≤ 0; omega⟩ (Nat.le_of_ble_eq_true rfl) d_MD_characterAt_10 (fun v f9 H locs hp hw hsz9 hkp9 hdm9 => ?_)
  obtain ⟨rfl, hfe⟩ := hp
  rw [hfe] at hw
  refine W.eq (g2 := F0 m 13 ls [.int (iI (b2 (pr (tt T t) k)))]) rfl ?_
  refine di_if_eq (tgt := 42) hx hb d_MD_characterAt_13 (by decide) ⟨by omega, by omega⟩ (fun bq13 => ?_) (fun bq13 => ?_)
  · refine lv_iload_n hx hb d_MD_characterAt_42 rfl (lv_at hl 0 rfl) ?_
    exact cn_iret hx hb hr hlk hw  (⟨by rw [chr, if_neg (by rw [b2_0 bq13]; decide)], rfl⟩) (Nat.le_refl _) (Nat.le_refl _) d_MD_characterAt_43
  · have hpp := pr_hi (b2_1 bq13)
    have hk2 : k + 1 < ((tt T t).length : Int) := by
      by_cases q : k + 1 < ((tt T t).length : Int)
      · exact q
      · have h9 := hpp.2.1
        rw [gt_out (us := tt T t) (k := k + 1) (by omega)] at h9
        omega
    refine lv_ldc (v := iI (65536)) hx hb X.own (X.hts _ mw_697) d_MD_characterAt_16 ?_
    refine lv_iload_n hx hb d_MD_characterAt_18 rfl (lv_at hl 0 rfl) ?_
    refine lv_ldc (v := iI (55296)) hx hb X.own (X.hts _ mw_732) d_MD_characterAt_19 ?_
    refine di_sub hx hb d_MD_characterAt_21 ?_
    refine lv_sipush (v := iI (1024)) hx hb d_MD_characterAt_22 rfl ?_
    refine di_mul hx hb d_MD_characterAt_25 ?_
    refine di_add hx hb d_MD_characterAt_26 ?_
    refine lv_aload_n hx hb d_MD_characterAt_27 rfl (lv_at hl 1 rfl) ?_
    refine lv_iload_n hx hb d_MD_characterAt_28 rfl (lv_at hl 2 rfl) ?_
    refine lv_iload_n hx hb d_MD_characterAt_29 rfl (lv_at hl 3 rfl) ?_
    refine lv_iconst (v := iI (1)) hx hb d_MD_characterAt_30 rfl ?_
    refine di_add hx hb d_MD_characterAt_31 ?_
    refine cs_MD_39 X hz hw hl.1 hM.1 (c_MD_unitOf l G f _ y th T Y B Z M C t (k + 1) ht ⟨by omega, by omega⟩ ⟨si, un, bu, ma, bt, so, co, _, _, _, _, _, _, _, hM, hT, hB, hZ, hMa, hC, hY⟩) ⟨Nat.le_of_ble_eq_true rfl, Nat.le_of_ble_eq_true rfl⟩ ⟨by show 0 + 0 ≤ 0; omega, by show 0 + 0 ≤ 0; omega⟩ (Nat.le_of_ble_eq_true rfl) d_MD_characterAt_32 (fun v f9 H locs hp hw hsz9 hkp9 hdm9 => ?_)
    obtain ⟨rfl, hfe⟩ := hp
    rw [hfe] at hw
    refine W.eq (g2 := F0 m 35 ls [.int (iI (gt (tt T t) (k + 1))), .int (iI (65536 + (((gt (tt T t) k) - 55296) * 1024)))]) rfl ?_
    refine di_add hx hb d_MD_characterAt_35 ?_
    refine lv_ldc (v := iI (56320)) hx hb X.own (X.hts _ mw_737) d_MD_characterAt_36 ?_
    refine di_sub hx hb d_MD_characterAt_38 ?_
    refine lv_goto (tgt := 43) hx hb d_MD_characterAt_39 (by decide) ?_
    exact cn_iret hx hb hr hlk hw  (⟨by rw [chr, if_pos (b2_1 bq13)], rfl⟩) (Nat.le_refl _) (Nat.le_refl _) d_MD_characterAt_43
set_option maxRecDepth 100000 in
set_option maxHeartbeats 4000000 in
theorem c_MD_addMade (l : Launch) (G : ct_G) (f : dw_M) (sz : Nat) (y : Nat) (th : Int) (T Y : List (List Int)) (B Z M C : List Int) (hct : T.length < 24) (hm : M.length ≤ 60) (hu : ∀ u ∈ M, 0 ≤ u ∧ u < 65536) (hL : mdL G f y th T Y B Z M C) : cn l y_MD_addMade w_MD_addMade (0) (0) G f sz [.ref y] (fun v f' => v = some (.int (iI (T.length : Int))) ∧ mdL G f' y th (T ++ [M]) Y B Z M C) (0) (0) := by
  refine cn_of (own := "TextDeskModel") (nm := "addMade") (ds := "()I") (by decide) (Nat.le_of_ble_eq_true rfl) ?_
  intro p e s m args below meth c ls X hnm hr hlk hs0 hz hw hl
  have hx := X.1
  have hb := X.2.1
  have hl : lv_has ls 2 [(0, .ref y)] := hl
  obtain ⟨si, un, bu, ma, bt, so, co, gsi, gun, gbu, gma, gbt, gso, gco, hM, hT, hB, hZ, hMa, hC, hY⟩ := id hL
  have hTl := hT.1
  have hBl := hB.1.1
  have hZl := hZ.1.1
  have hYl := hY.1
  have hCl := hC.1
  refine lv_iconst (v := iI (0)) hx hb d_MD_addMade_0 rfl ?_
  refine lv_istore_n (lv' := [(1, .int (iI 0)), (0, .ref y)]) hx hb d_MD_addMade_1 rfl hl (by decide) rfl (fun ls hl => ?_)
  have loop : ∀ (N : Nat) (k : Int) (g1 : Nat → Int32) (f1 : dw_M) (H : Heap) (locs : List Loc) (ls : Array Slot), ((M.length : Int) - k).toNat < N → 0 ≤ k → k ≤ (M.length : Int) → mdS G f1 y th (T.length : Int) (B.length : Int) (M.length : Int) (Z.length : Int) (Y.length : Int) (C.length : Int) si un bu ma bt so co gsi g1 gbu gma gbt gso gco → (∀ j, j < 60 * T.length → g1 j = gun j) → (∀ j : Nat, (j : Int) < k → j < M.length → g1 (60 * T.length + j) = iI (M.getD j 0)) → dw G.1 dk_cl (dw_A f sz) s.heap f1 H locs → lv_has ls 2 [(1, .int (iI k)), (0, .ref y)] → W p l e { frames := 0, locals := 0, cells := 0, slots := 0 } s m args below meth c H locs (0) (0) (MQ below (ct_Q G f sz (fun v f' => v = some (.int (iI (T.length : Int))) ∧ mdL G f' y th (T ++ [M]) Y B Z M C)) args s (0) (0) (dw_A f sz)) (F0 m 2 ls []) := by
    intro N
    induction N with
    | zero => intros; omega
    | succ N ih =>
      intro k g1 f1 H locs ls hN hk0 hk1 hM1 h60 hnew hw hl
      refine lv_iload_n hx hb d_MD_addMade_2 rfl (lv_at hl 0 rfl) ?_
      refine lv_aload_n hx hb d_MD_addMade_3 rfl (lv_at hl 1 rfl) ?_
      refine gf_MD_55_MD X hw hM1.1 d_MD_addMade_4 ?_
      refine di_icmp_ge (tgt := 36) hx hb d_MD_addMade_7 (by decide) ⟨by omega, by omega⟩ ⟨by omega, by omega⟩ (fun bq7 => ?_) (fun bq7 => ?_)
      · have el : (((T ++ [M]).length : Nat) : Int) = (T.length : Int) + 1 := by simp
        refine lv_aload_n hx hb d_MD_addMade_36 rfl (lv_at hl 1 rfl) ?_
        refine gf_MD_7_MD X hw hM1.1 d_MD_addMade_37 ?_
        refine lv_aload_n hx hb d_MD_addMade_40 rfl (lv_at hl 1 rfl) ?_
        refine gf_MD_58_MD X hw hM1.1 d_MD_addMade_41 ?_
        refine lv_aload_n hx hb d_MD_addMade_44 rfl (lv_at hl 1 rfl) ?_
        refine gf_MD_55_MD X hw hM1.1 d_MD_addMade_45 ?_
        refine dw_iast hx hb X.K hw 0 hM1.2.1 rfl (i := (T.length : Int)) (by omega) (by omega) (by omega) d_MD_addMade_48 (fun H locs hw => ?_)
        obtain ⟨f1, e_f1⟩ : ∃ g9 : dw_M, g9 = dw_up f1 si (.inl (G.2.1 0, 24, .inl (upd gsi ((T.length : Int)).toNat (iI ((M.length : Int)))))) := ⟨_, rfl⟩
        rw [← e_f1] at hw
        have hM_f1 : mdS G f1 y th (T.length : Int) (B.length : Int) (M.length : Int) (Z.length : Int) (Y.length : Int) (C.length : Int) si un bu ma bt so co (upd gsi ((T.length : Int)).toNat (iI ((M.length : Int)))) g1 gbu gma gbt gso gco := by rw [e_f1]; exact hM1.w_si _
        refine lv_aload_n hx hb d_MD_addMade_49 rfl (lv_at hl 1 rfl) ?_
        refine lv_dup hx hb d_MD_addMade_50 rfl ?_
        refine gf_MD_58_MD X hw hM_f1.1 d_MD_addMade_51 ?_
        refine lv_iconst (v := iI (1)) hx hb d_MD_addMade_54 rfl ?_
        refine di_add hx hb d_MD_addMade_55 ?_
        refine pf_MD_58_MD X hw hM_f1.1 rfl rfl d_MD_addMade_56 (fun H locs hw => ?_)
        obtain ⟨f2, e_f2⟩ : ∃ g9 : dw_M, g9 = dw_up f1 y (.inr (6, [.int (iI th), .int (iI ((T.length : Int) + 1)), .ref si, .ref un, .int (iI ((B.length : Int))), .ref bu, .int (iI ((M.length : Int))), .ref ma, .int (iI ((Z.length : Int))), .ref bt, .int (iI ((Y.length : Int))), .ref so, .int (iI ((C.length : Int))), .ref co])) := ⟨_, rfl⟩
        rw [← e_f2] at hw
        have hM_f2 : mdS G f2 y th ((T.length : Int) + 1) (B.length : Int) (M.length : Int) (Z.length : Int) (Y.length : Int) (C.length : Int) si un bu ma bt so co (upd gsi ((T.length : Int)).toNat (iI ((M.length : Int)))) g1 gbu gma gbt gso gco := by rw [e_f2]; exact hM_f1.obj th ((T.length : Int) + 1) (B.length : Int) (M.length : Int) (Z.length : Int) (Y.length : Int) (C.length : Int)
        refine lv_aload_n hx hb d_MD_addMade_59 rfl (lv_at hl 1 rfl) ?_
        refine gf_MD_58_MD X hw hM_f2.1 d_MD_addMade_60 ?_
        refine lv_iconst (v := iI (1)) hx hb d_MD_addMade_63 rfl ?_
        refine di_sub hx hb d_MD_addMade_64 ?_
        exact cn_iret hx hb hr hlk hw  (⟨by rw [show (T.length : Int) + 1 - 1 = (T.length : Int) by omega], ⟨si, un, bu, ma, bt, so, co, _, _, _, _, _, _, _, (by rw [el]; exact hM_f2), (rT.snoc hT hct hm hu h60 (fun j hj => hnew j (by omega) hj)), hB, hZ, hMa, hC, (hY.snoc)⟩⟩) (Nat.le_refl _) (Nat.le_refl _) d_MD_addMade_65
      · refine lv_aload_n hx hb d_MD_addMade_10 rfl (lv_at hl 1 rfl) ?_
        refine gf_MD_13_MD X hw hM1.1 d_MD_addMade_11 ?_
        refine lv_bipush (v := iI (60)) hx hb d_MD_addMade_14 rfl ?_
        refine lv_aload_n hx hb d_MD_addMade_16 rfl (lv_at hl 1 rfl) ?_
        refine gf_MD_58_MD X hw hM1.1 d_MD_addMade_17 ?_
        refine di_mul hx hb d_MD_addMade_20 ?_
        refine lv_iload_n hx hb d_MD_addMade_21 rfl (lv_at hl 0 rfl) ?_
        refine di_add hx hb d_MD_addMade_22 ?_
        refine lv_aload_n hx hb d_MD_addMade_23 rfl (lv_at hl 1 rfl) ?_
        refine gf_MD_19_MD X hw hM1.1 d_MD_addMade_24 ?_
        refine lv_iload_n hx hb d_MD_addMade_27 rfl (lv_at hl 0 rfl) ?_
        refine dw_iald hx hb X.K hw 0 hM1.2.2.2.2.1 rfl (i := k) (by omega) (by omega) (by omega) (hMa.at (by omega) (by omega) (by omega)) d_MD_addMade_28 ?_
        refine dw_iast hx hb X.K hw 0 hM1.2.2.1 rfl (i := (60 * (T.length : Int)) + k) (by omega) (by omega) (by omega) d_MD_addMade_29 (fun H locs hw => ?_)
        obtain ⟨f3, e_f3⟩ : ∃ g9 : dw_M, g9 = dw_up f1 un (.inl (G.2.1 0, 1440, .inl (upd g1 ((60 * (T.length : Int)) + k).toNat (iI (gt M k))))) := ⟨_, rfl⟩
        rw [← e_f3] at hw
        have hM_f3 : mdS G f3 y th (T.length : Int) (B.length : Int) (M.length : Int) (Z.length : Int) (Y.length : Int) (C.length : Int) si un bu ma bt so co gsi (upd g1 ((60 * (T.length : Int)) + k).toNat (iI (gt M k))) gbu gma gbt gso gco := by rw [e_f3]; exact hM1.w_un _
        refine lv_iinc (v := iI (k + 1)) (lv' := [(1, .int (iI (k + 1))), (0, .ref y)]) hx hb d_MD_addMade_30 hl (k := 0) rfl (iI_add _ _) (by decide) rfl (fun ls hl => ?_)
        refine lv_goto (tgt := 2) hx hb d_MD_addMade_33 (by decide) ?_
        exact ih (k + 1) (upd g1 ((60 * (T.length : Int)) + k).toNat (iI (gt M k))) _ _ _ _ (by omega) (by omega) (by omega) (hM_f3) (fun j hj => by rw [upd, if_neg (by omega)]; exact h60 j hj) (fun j hj hj2 => by
          unfold upd
          by_cases q : j = k.toNat
          · subst q
            rw [if_pos (by omega), gt_in (by omega) (by omega)]
          · rw [if_neg (by omega)]; exact hnew j (by omega) hj2) hw (lv_sub hl [0, 1] rfl)
  exact loop (((M.length : Int) - 0).toNat + 1) (0) (gun) _ _ _ _ (by omega) (by omega) (by omega) (hM) (fun _ _ => rfl) (fun j h1 h2 => by omega) hw (lv_sub hl [0, 1] rfl)
