theorem nar_1 {us : List Int} (h : ∀ j : Int, 0 ≤ j → j < (us.length : Int) → gt us j < 256) : nar us = 1 := by
  unfold nar
  rw [if_pos]
  rw [List.all_eq_true]
  intro u hu
  obtain ⟨i, hi, e⟩ := mem_getD hu
  have h9 := h (i : Int) (by omega) (by omega)
  rw [gt_in (by omega) (by omega), Int.toNat_natCast, ← e] at h9
  exact decide_eq_true h9
def hasG (us : List Int) (gr k : Int) : Prop := ∃ j : Int, 0 ≤ j ∧ j < k ∧ gt us j = gr
theorem hasG.next {us : List Int} {gr k : Int} (h : hasG us gr k) : hasG us gr (k + 1) := by
  obtain ⟨j, h1, h2, h3⟩ := h
  exact ⟨j, h1, by omega, h3⟩
theorem nar_0 {us : List Int} {gr : Int} {k : Int} (h : hasG us gr k) (h1 : 256 ≤ gr ∧ k = (us.length : Int)) : nar us = 0 := by
  obtain ⟨j, h2, h3, h4⟩ := h
  unfold nar
  rw [if_neg]
  intro q
  rw [List.all_eq_true] at q
  have h5 := of_decide_eq_true (q _ (getD_mem (us := us) (k := j.toNat) (by omega)))
  rw [← gt_in h2 (by omega)] at h5
  omega
theorem sta_rng {w s : List Int} {p : Int} (h : sta w s p = true) : 0 ≤ p ∧ p + (s.length : Int) ≤ (w.length : Int) := ⟨(of_decide_eq_true h).1, (of_decide_eq_true h).2.1⟩
theorem sta_out {w s : List Int} {p : Int} (h : (w.length : Int) - s.length < p) : sta w s p = false := decide_eq_false (fun q => by have := q.2.1; omega)
theorem fst1_char (w s : List Int) : ∀ (n : Nat) (p : Int), (fst1 w s n p = -1 ∧ ∀ q : Int, p ≤ q → q < p + (n : Int) → sta w s q = false) ∨ (p ≤ fst1 w s n p ∧ sta w s (fst1 w s n p) = true ∧ ∀ q : Int, p ≤ q → q < fst1 w s n p → sta w s q = false)
  | 0, p => Or.inl ⟨rfl, fun q h1 h2 => by omega⟩
  | n + 1, p => by
    unfold fst1
    by_cases h : sta w s p = true
    · rw [if_pos h]
      exact Or.inr ⟨by omega, h, fun q h1 h2 => by omega⟩
    · rw [if_neg h]
      have hf : sta w s p = false := by revert h; cases sta w s p <;> simp
      rcases fst1_char w s n (p + 1) with ⟨h1, h2⟩ | ⟨h1, h2, h3⟩
      · refine Or.inl ⟨h1, fun q h4 h5 => ?_⟩
        by_cases e : q = p
        · rw [e]; exact hf
        · exact h2 q (by omega) (by omega)
      · refine Or.inr ⟨by omega, h2, fun q h4 h5 => ?_⟩
        by_cases e : q = p
        · rw [e]; exact hf
        · exact h3 q (by omega) h5
theorem frst_one {w s : List Int} {fr fo k : Int} (h : fo = -1 ∧ (∀ p : Int, 0 ≤ p → p < k → fr ≤ p → sta w s p = false) ∨ (0 ≤ fo ∧ fr ≤ fo ∧ fo < k ∧ sta w s fo = true ∧ ∀ p : Int, 0 ≤ p → p < fo → fr ≤ p → sta w s p = false)) (hk : (w.length : Int) < k) : frst w s fr = fo := by
  unfold frst
  obtain ⟨q0, hq0⟩ : ∃ z, z = (if fr < 0 then 0 else fr) := ⟨_, rfl⟩
  rw [← hq0]
  have hq1 : 0 ≤ q0 ∧ fr ≤ q0 ∧ (q0 = 0 ∨ q0 = fr) := by rw [hq0]; split <;> omega
  rcases fst1_char w s ((w.length : Int) - s.length - q0 + 1).toNat q0 with ⟨h1, h2⟩ | ⟨h1, h2, h3⟩
  · rcases h with ⟨h4, -⟩ | ⟨h4, h5, h6, h7, h8⟩
    · rw [h1, h4]
    · exfalso
      have h9 := sta_rng h7
      have := h2 fo (by omega) (by omega)
      rw [this] at h7
      cases h7
  · have h9 := sta_rng h2
    rcases h with ⟨h4, h5⟩ | ⟨h4, h5, h6, h7, h8⟩
    · exfalso
      have := h5 _ h9.1 (by omega) (by omega)
      rw [this] at h2
      cases h2
    · rcases Int.lt_trichotomy (fst1 w s ((w.length : Int) - s.length - q0 + 1).toNat q0) fo with q | q | q
      · exfalso
        have := h8 _ h9.1 q (by omega)
        rw [this] at h2
        cases h2
      · exact q
      · exfalso
        have := h3 fo (by omega) q
        rw [this] at h7
        cases h7
theorem lst1_char (w s : List Int) : ∀ (n : Nat) (p : Int), p < (n : Int) → (lst1 w s n p = -1 ∧ ∀ q : Int, 0 ≤ q → q ≤ p → sta w s q = false) ∨ (lst1 w s n p ≤ p ∧ sta w s (lst1 w s n p) = true ∧ ∀ q : Int, lst1 w s n p < q → q ≤ p → sta w s q = false)
  | 0, p, h => Or.inl ⟨rfl, fun q h1 h2 => by omega⟩
  | n + 1, p, h => by
    unfold lst1
    by_cases h0 : p < 0
    · rw [if_pos h0]
      exact Or.inl ⟨rfl, fun q h1 h2 => by omega⟩
    · rw [if_neg h0]
      by_cases h : sta w s p = true
      · rw [if_pos h]
        exact Or.inr ⟨by omega, h, fun q h1 h2 => by omega⟩
      · rw [if_neg h]
        have hf : sta w s p = false := by revert h; cases sta w s p <;> simp
        rcases lst1_char w s n (p - 1) (by omega) with ⟨h1, h2⟩ | ⟨h1, h2, h3⟩
        · refine Or.inl ⟨h1, fun q h4 h5 => ?_⟩
          by_cases e : q = p
          · rw [e]; exact hf
          · exact h2 q h4 (by omega)
        · refine Or.inr ⟨by omega, h2, fun q h4 h5 => ?_⟩
          by_cases e : q = p
          · rw [e]; exact hf
          · exact h3 q h4 (by omega)
theorem last_one {w s : List Int} {fr fo k : Int} (h : fo = -1 ∧ (∀ p : Int, 0 ≤ p → p < k → p ≤ fr → sta w s p = false) ∨ (0 ≤ fo ∧ fo ≤ fr ∧ fo < k ∧ sta w s fo = true ∧ ∀ p : Int, fo < p → p < k → p ≤ fr → sta w s p = false)) (hk : (w.length : Int) < k) : last w s fr = fo := by
  unfold last
  obtain ⟨q0, hq0⟩ : ∃ z, z = (if (w.length : Int) - s.length < fr then (w.length : Int) - s.length else fr) := ⟨_, rfl⟩
  rw [← hq0]
  have hq1 : q0 ≤ fr ∧ q0 ≤ (w.length : Int) - s.length ∧ (q0 = (w.length : Int) - s.length ∨ q0 = fr) := by rw [hq0]; split <;> omega
  rcases lst1_char w s (w.length + 1) q0 (by omega) with ⟨h1, h2⟩ | ⟨h1, h2, h3⟩
  · rcases h with ⟨h4, -⟩ | ⟨h4, h5, h6, h7, h8⟩
    · rw [h1, h4]
    · exfalso
      have h9 := sta_rng h7
      have := h2 fo (by omega) (by omega)
      rw [this] at h7
      cases h7
  · have h9 := sta_rng h2
    rcases h with ⟨h4, h5⟩ | ⟨h4, h5, h6, h7, h8⟩
    · exfalso
      have := h5 _ h9.1 (by omega) (by omega)
      rw [this] at h2
      cases h2
    · have h10 := sta_rng h7
      rcases Int.lt_trichotomy (lst1 w s (w.length + 1) q0) fo with q | q | q
      · exfalso
        have := h3 fo q (by omega)
        rw [this] at h7
        cases h7
      · exact q
      · exfalso
        have := h8 _ q (by omega) (by omega)
        rw [this] at h2
        cases h2
theorem rY.add {g : Nat → Int32} {T Y : List (List Int)} {k : Int} (h : rY g T Y) (hk : isT T k) (hl : Y.length < 16) : rY (upd g (Y.length : Int).toNat (iI k)) T (Y ++ [tt T k]) := by
  obtain ⟨h0, h1⟩ := hk
  refine ⟨by simp; omega, fun i hi => ?_⟩
  rw [Int.toNat_natCast]
  unfold upd
  by_cases e : i = Y.length
  · subst e
    refine ⟨k.toNat, by omega, by rw [if_pos rfl, show ((k.toNat : Nat) : Int) = k by omega], ?_⟩
    rw [List.getD_eq_getElem?_getD (l := Y ++ [tt T k]), List.getElem?_append_right (Nat.le_refl _)]
    simp [tt]
  · have hi2 : i < Y.length := by simp at hi; omega
    obtain ⟨j, h2, h3, h4⟩ := h.2 i hi2
    refine ⟨j, h2, by rw [if_neg e]; exact h3, ?_⟩
    rw [List.getD_eq_getElem?_getD (l := Y ++ [tt T k]), List.getElem?_append_left hi2, ← List.getD_eq_getElem?_getD]
    exact h4
theorem chr_big {us : List Int} (h : ∀ u ∈ us, 0 ≤ u ∧ u < 65536) (k : Int) : (pr us k = true → 65536 ≤ chr us k) ∧ (65536 ≤ chr us k → pr us k = true) := by
  have hg := gt_rng h k
  refine ⟨fun q => ?_, fun q => ?_⟩
  · have := pr_hi q
    unfold chr
    rw [if_pos q]
    omega
  · by_cases e : pr us k = true
    · exact e
    · unfold chr at q
      rw [if_neg e] at q
      omega
theorem gt_left {a b : List Int} {k : Int} (h : k < (a.length : Int)) : gt (a ++ b) k = gt a k := by
  unfold gt
  by_cases h0 : 0 ≤ k
  · rw [if_pos ⟨h0, by rw [List.length_append]; omega⟩, if_pos ⟨h0, h⟩, List.getD_eq_getElem?_getD, List.getElem?_append_left (by omega), ← List.getD_eq_getElem?_getD]
  · rw [if_neg (by omega), if_neg (by omega)]
theorem gt_snoc {a : List Int} {x : Int} : gt (a ++ [x]) (a.length : Int) = x := by
  rw [gt_in (by omega) (by simp only [List.length_append, List.length_singleton]; omega), Int.toNat_natCast, List.getD_eq_getElem?_getD, List.getElem?_append_right (Nat.le_refl _)]
  simp
set_option maxRecDepth 100000 in
set_option maxHeartbeats 4000000 in
theorem c_MD_narrow (l : Launch) (G : ct_G) (f : dw_M) (sz : Nat) (y : Nat) (th : Int) (T Y : List (List Int)) (B Z M C : List Int) (k0 : Int) (hk0 : iR k0) (hL : mdL G f y th T Y B Z M C) : cn l y_MD_narrow w_MD_narrow (2) (42) G f sz [.ref y, .int (iI k0)] (fun v f' => v = some (.int (iI (sp_narrow T Y B Z k0).2.1)) ∧ mdP G f' y (sp_narrow T Y B Z k0)) (0) (0) := by
  refine cn_of (own := "TextDeskModel") (nm := "narrow") (ds := "(I)Z") (by decide) (Nat.le_of_ble_eq_true rfl) ?_
  intro p e s m args below meth c ls X hnm hr hlk hs0 hz hw hl
  have hx := X.1
  have hb := X.2.1
  have hl : lv_has ls 4 [(0, .ref y), (1, .int (iI k0))] := hl
  obtain ⟨si, un, bu, ma, bt, so, co, gsi, gun, gbu, gma, gbt, gso, gco, hM, hT, hB, hZ, hMa, hC, hY⟩ := id hL
  have hTl := hT.1
  have hBl := hB.1.1
  have hZl := hZ.1.1
  have hYl := hY.1
  have hCl := hC.1
  obtain ⟨hk00, hk01⟩ := hk0
  refine lv_aload_n hx hb d_MD_narrow_0 rfl (lv_at hl 0 rfl) ?_
  refine lv_aload_n hx hb d_MD_narrow_1 rfl (lv_at hl 0 rfl) ?_
  refine lv_iload_n hx hb d_MD_narrow_2 rfl (lv_at hl 1 rfl) ?_
  refine cs_MD_71 X hz hw hl.1 hM.1 (c_MD_isText l G f _ y th T Y B Z M C k0 ⟨by omega, by omega⟩ ⟨si, un, bu, ma, bt, so, co, _, _, _, _, _, _, _, hM, hT, hB, hZ, hMa, hC, hY⟩) ⟨Nat.le_of_ble_eq_true rfl, Nat.le_of_ble_eq_true rfl⟩ ⟨by show 0 + 0 ≤ 0; omega, by show 0 + 0 ≤ 0; omega⟩ (Nat.le_of_ble_eq_true rfl) d_MD_narrow_3 (fun v f9 H locs hp hw hsz9 hkp9 hdm9 => ?_)
  obtain ⟨rfl, hfe⟩ := hp
  rw [hfe] at hw
  refine W.eq (g2 := F0 m 6 ls [.int (iI (b2 (decide (isT T k0)))), .ref y]) rfl ?_
  have hbt0 := b2_01 (decide (isT T k0))
  refine di_if_eq (tgt := 13) hx hb d_MD_narrow_6 (by decide) ⟨by omega, by omega⟩ (fun bq6 => ?_) (fun bq6 => ?_)
  · have nT : ¬ isT T k0 := of_decide_eq_false (b2_0 (by omega))
    refine lv_iconst (v := iI (1)) hx hb d_MD_narrow_13 rfl ?_
    refine pf_MD_31_MD X hw hM.1 rfl rfl d_MD_narrow_14 (fun H locs hw => ?_)
    obtain ⟨f1, e_f1⟩ : ∃ g9 : dw_M, g9 = dw_up f y (.inr (6, [.int (iI 1), .int (iI ((T.length : Int))), .ref si, .ref un, .int (iI ((B.length : Int))), .ref bu, .int (iI ((M.length : Int))), .ref ma, .int (iI ((Z.length : Int))), .ref bt, .int (iI ((Y.length : Int))), .ref so, .int (iI ((C.length : Int))), .ref co])) := ⟨_, rfl⟩
    rw [← e_f1] at hw
    have hM_f1 : mdS G f1 y 1 (T.length : Int) (B.length : Int) (M.length : Int) (Z.length : Int) (Y.length : Int) (C.length : Int) si un bu ma bt so co gsi gun gbu gma gbt gso gco := by rw [e_f1]; exact hM.obj 1 (T.length : Int) (B.length : Int) (M.length : Int) (Z.length : Int) (Y.length : Int) (C.length : Int)
    refine lv_aload_n hx hb d_MD_narrow_17 rfl (lv_at hl 0 rfl) ?_
    refine gf_MD_31_MD X hw hM_f1.1 d_MD_narrow_18 ?_
    refine di_if_le (tgt := 26) hx hb d_MD_narrow_21 (by decide) ⟨by decide, by decide⟩ (fun q9 => absurd q9 (by decide)) (fun _ => ?_)
    refine lv_iconst (v := iI (0)) hx hb d_MD_narrow_24 rfl ?_
    have e9 : sp_narrow T Y B Z k0 = (1, 0, T, Y, B, Z) := by rw [sp_narrow, if_pos (fun q => nT q)]
    exact cn_zret hx hb hr hlk hw rfl (⟨by rw [e9], by rw [e9]; exact mdP_of (M := M) (C := C) ⟨si, un, bu, ma, bt, so, co, _, _, _, _, _, _, _, hM_f1, hT, hB, hZ, hMa, hC, hY⟩⟩) (Nat.le_refl _) (Nat.le_refl _) d_MD_narrow_25
  · have hT0 : isT T k0 := of_decide_eq_true (b2_1 (by omega))
    have hT0a := hT0.1
    have hT0b := hT0.2
    have hT0l := hT.len k0
    refine lv_iconst (v := iI (0)) hx hb d_MD_narrow_9 rfl ?_
    refine lv_goto (tgt := 14) hx hb d_MD_narrow_10 (by decide) ?_
    refine pf_MD_31_MD X hw hM.1 rfl rfl d_MD_narrow_14 (fun H locs hw => ?_)
    obtain ⟨f2, e_f2⟩ : ∃ g9 : dw_M, g9 = dw_up f y (.inr (6, [.int (iI 0), .int (iI ((T.length : Int))), .ref si, .ref un, .int (iI ((B.length : Int))), .ref bu, .int (iI ((M.length : Int))), .ref ma, .int (iI ((Z.length : Int))), .ref bt, .int (iI ((Y.length : Int))), .ref so, .int (iI ((C.length : Int))), .ref co])) := ⟨_, rfl⟩
    rw [← e_f2] at hw
    have hM_f2 : mdS G f2 y 0 (T.length : Int) (B.length : Int) (M.length : Int) (Z.length : Int) (Y.length : Int) (C.length : Int) si un bu ma bt so co gsi gun gbu gma gbt gso gco := by rw [e_f2]; exact hM.obj 0 (T.length : Int) (B.length : Int) (M.length : Int) (Z.length : Int) (Y.length : Int) (C.length : Int)
    refine lv_aload_n hx hb d_MD_narrow_17 rfl (lv_at hl 0 rfl) ?_
    refine gf_MD_31_MD X hw hM_f2.1 d_MD_narrow_18 ?_
    refine di_if_le (tgt := 26) hx hb d_MD_narrow_21 (by decide) ⟨by decide, by decide⟩ (fun _ => ?_) (fun q9 => absurd q9 (by decide))
    refine lv_iconst (v := iI (0)) hx hb d_MD_narrow_26 rfl ?_
    refine lv_istore_n (lv' := [(2, .int (iI 0)), (0, .ref y), (1, .int (iI k0))]) hx hb d_MD_narrow_27 rfl hl (by decide) rfl (fun ls hl => ?_)
    refine lv_iconst (v := iI (0)) hx hb d_MD_narrow_28 rfl ?_
    refine lv_istore_n (lv' := [(3, .int (iI 0)), (2, .int (iI 0)), (0, .ref y), (1, .int (iI k0))]) hx hb d_MD_narrow_29 rfl hl (by decide) rfl (fun ls hl => ?_)
    have loop : ∀ (N : Nat) (k : Int) (gr : Int) (H : Heap) (locs : List Loc) (ls : Array Slot), (((tt T k0).length : Int) - k).toNat < N → 0 ≤ k → k ≤ ((tt T k0).length : Int) → 0 ≤ gr ∧ gr < 65536 → (∀ j : Int, 0 ≤ j → j < k → gt (tt T k0) j ≤ gr) → (gr = 0 ∨ hasG (tt T k0) gr k) → dw G.1 dk_cl (dw_A f sz) s.heap f2 H locs → lv_has ls 4 [(3, .int (iI k)), (2, .int (iI gr)), (0, .ref y), (1, .int (iI k0))] → W p l e { frames := 2, locals := 42, cells := 0, slots := 0 } s m args below meth c H locs (0) (0) (MQ below (ct_Q G f sz (fun v f' => v = some (.int (iI (sp_narrow T Y B Z k0).2.1)) ∧ mdP G f' y (sp_narrow T Y B Z k0))) args s (0) (0) (dw_A f sz)) (F0 m 30 ls []) := by
      intro N
      induction N with
      | zero => intros; omega
      | succ N ih =>
        intro k gr H locs ls hN hk0 hk1 hgr hall hex hw hl
        refine lv_iload_n hx hb d_MD_narrow_30 rfl (lv_at hl 0 rfl) ?_
        refine lv_aload_n hx hb d_MD_narrow_31 rfl (lv_at hl 2 rfl) ?_
        refine gf_MD_7_MD X hw hM_f2.1 d_MD_narrow_32 ?_
        refine lv_iload_n hx hb d_MD_narrow_35 rfl (lv_at hl 3 rfl) ?_
        refine dw_iald hx hb X.K hw 0 hM_f2.2.1 rfl (i := k0) (by omega) (by omega) (by omega) (hT.sz hT0) d_MD_narrow_36 ?_
        refine di_icmp_ge (tgt := 67) hx hb d_MD_narrow_37 (by decide) ⟨by omega, by omega⟩ ⟨by omega, by omega⟩ (fun bq37 => ?_) (fun bq37 => ?_)
        · have hk9 : k = ((tt T k0).length : Int) := by omega
          refine lv_iload_n hx hb d_MD_narrow_67 rfl (lv_at hl 1 rfl) ?_
          refine lv_sipush (v := iI (256)) hx hb d_MD_narrow_68 rfl ?_
          refine di_icmp_ge (tgt := 78) hx hb d_MD_narrow_71 (by decide) ⟨by omega, by omega⟩ ⟨by omega, by omega⟩ (fun bq71 => ?_) (fun bq71 => ?_)
          · refine lv_iconst (v := iI (0)) hx hb d_MD_narrow_78 rfl ?_
            have hna : nar (tt T k0) = 0 := nar_0 (hex.resolve_left (by omega)) (by omega)
            have e9 : sp_narrow T Y B Z k0 = (0, 0, T, Y, B, Z) := by rw [sp_narrow, if_neg (fun q => q hT0), hna]
            exact cn_zret hx hb hr hlk hw rfl (⟨by rw [e9], by rw [e9]; exact mdP_of (M := M) (C := C) ⟨si, un, bu, ma, bt, so, co, _, _, _, _, _, _, _, hM_f2, hT, hB, hZ, hMa, hC, hY⟩⟩) (Nat.le_refl _) (Nat.le_refl _) d_MD_narrow_79
          · refine lv_iconst (v := iI (1)) hx hb d_MD_narrow_74 rfl ?_
            refine lv_goto (tgt := 79) hx hb d_MD_narrow_75 (by decide) ?_
            have hna : nar (tt T k0) = 1 := nar_1 (fun j h0 h1 => by have := hall j h0 (by omega); omega)
            have e9 : sp_narrow T Y B Z k0 = (0, 1, T, Y, B, Z) := by rw [sp_narrow, if_neg (fun q => q hT0), hna]
            exact cn_zret hx hb hr hlk hw rfl (⟨by rw [e9], by rw [e9]; exact mdP_of (M := M) (C := C) ⟨si, un, bu, ma, bt, so, co, _, _, _, _, _, _, _, hM_f2, hT, hB, hZ, hMa, hC, hY⟩⟩) (Nat.le_refl _) (Nat.le_refl _) d_MD_narrow_79
        · have hg := gt_mem (hT.rng k0) hk0 (by omega : k < ((tt T k0).length : Int))
          refine lv_aload_n hx hb d_MD_narrow_40 rfl (lv_at hl 2 rfl) ?_
          refine lv_iload_n hx hb d_MD_narrow_41 rfl (lv_at hl 3 rfl) ?_
          refine lv_iload_n hx hb d_MD_narrow_42 rfl (lv_at hl 0 rfl) ?_
          refine cs_MD_39 X hz hw hl.1 hM_f2.1 (c_MD_unitOf l G f2 _ y 0 T Y B Z M C k0 k hT0 ⟨by omega, by omega⟩ ⟨si, un, bu, ma, bt, so, co, _, _, _, _, _, _, _, hM_f2, hT, hB, hZ, hMa, hC, hY⟩) ⟨Nat.le_of_ble_eq_true rfl, Nat.le_of_ble_eq_true rfl⟩ ⟨by show 0 + 0 ≤ 0; omega, by show 0 + 0 ≤ 0; omega⟩ (Nat.le_of_ble_eq_true rfl) d_MD_narrow_43 (fun v f9 H locs hp hw hsz9 hkp9 hdm9 => ?_)
          obtain ⟨rfl, hfe⟩ := hp
          rw [hfe] at hw
          refine W.eq (g2 := F0 m 46 ls [.int (iI (gt (tt T k0) k))]) rfl ?_
          refine lv_iload_n hx hb d_MD_narrow_46 rfl (lv_at hl 1 rfl) ?_
          refine di_icmp_le (tgt := 59) hx hb d_MD_narrow_47 (by decide) ⟨by omega, by omega⟩ ⟨by omega, by omega⟩ (fun bq47 => ?_) (fun bq47 => ?_)
          · refine lv_iload_n hx hb d_MD_narrow_59 rfl (lv_at hl 1 rfl) ?_
            refine lv_istore_n (lv' := [(2, .int (iI gr)), (3, .int (iI k)), (0, .ref y), (1, .int (iI k0))]) hx hb d_MD_narrow_60 rfl hl (by decide) rfl (fun ls hl => ?_)
            refine lv_iinc (v := iI (k + 1)) (lv' := [(3, .int (iI (k + 1))), (2, .int (iI gr)), (0, .ref y), (1, .int (iI k0))]) hx hb d_MD_narrow_61 hl (k := 1) rfl (iI_add _ _) (by decide) rfl (fun ls hl => ?_)
            refine lv_goto (tgt := 30) hx hb d_MD_narrow_64 (by decide) ?_
            exact ih (k + 1) (gr) _ _ _ (by omega) (by omega) (by omega) (by omega) (fun j h0 h1 => by
              by_cases q : j = k
              · rw [q]; omega
              · exact hall j h0 (by omega)) (hex.imp id hasG.next) hw (lv_sub hl [0, 1, 2, 3] rfl)
          · refine lv_aload_n hx hb d_MD_narrow_50 rfl (lv_at hl 2 rfl) ?_
            refine lv_iload_n hx hb d_MD_narrow_51 rfl (lv_at hl 3 rfl) ?_
            refine lv_iload_n hx hb d_MD_narrow_52 rfl (lv_at hl 0 rfl) ?_
            refine cs_MD_39 X hz hw hl.1 hM_f2.1 (c_MD_unitOf l G f2 _ y 0 T Y B Z M C k0 k hT0 ⟨by omega, by omega⟩ ⟨si, un, bu, ma, bt, so, co, _, _, _, _, _, _, _, hM_f2, hT, hB, hZ, hMa, hC, hY⟩) ⟨Nat.le_of_ble_eq_true rfl, Nat.le_of_ble_eq_true rfl⟩ ⟨by show 0 + 0 ≤ 0; omega, by show 0 + 0 ≤ 0; omega⟩ (Nat.le_of_ble_eq_true rfl) d_MD_narrow_53 (fun v f9 H locs hp hw hsz9 hkp9 hdm9 => ?_)
            obtain ⟨rfl, hfe⟩ := hp
            rw [hfe] at hw
            refine W.eq (g2 := F0 m 56 ls [.int (iI (gt (tt T k0) k))]) rfl ?_
            refine lv_goto (tgt := 60) hx hb d_MD_narrow_56 (by decide) ?_
            refine lv_istore_n (lv' := [(2, .int (iI (gt (tt T k0) k))), (3, .int (iI k)), (0, .ref y), (1, .int (iI k0))]) hx hb d_MD_narrow_60 rfl hl (by decide) rfl (fun ls hl => ?_)
            refine lv_iinc (v := iI (k + 1)) (lv' := [(3, .int (iI (k + 1))), (2, .int (iI (gt (tt T k0) k))), (0, .ref y), (1, .int (iI k0))]) hx hb d_MD_narrow_61 hl (k := 1) rfl (iI_add _ _) (by decide) rfl (fun ls hl => ?_)
            refine lv_goto (tgt := 30) hx hb d_MD_narrow_64 (by decide) ?_
            exact ih (k + 1) (gt (tt T k0) k) _ _ _ (by omega) (by omega) (by omega) (by omega) (fun j h0 h1 => by
              by_cases q : j = k
              · rw [q]; omega
              · have := hall j h0 (by omega); omega) (Or.inr ⟨k, by omega, by omega, rfl⟩) hw (lv_sub hl [0, 1, 2, 3] rfl)
    exact loop ((((tt T k0).length : Int) - 0).toNat + 1) (0) (0) _ _ _ (by omega) (by omega) (by omega) (by omega) (fun j h0 h1 => by omega) (Or.inl rfl) hw (lv_sub hl [0, 1, 2, 3] rfl)
set_option maxRecDepth 100000 in
set_option maxHeartbeats 4000000 in
theorem c_MD_hash (l : Launch) (G : ct_G) (f : dw_M) (sz : Nat) (y : Nat) (th : Int) (T Y : List (List Int)) (B Z M C : List Int) (k0 : Int) (hk0 : iR k0) (hL : mdL G f y th T Y B Z M C) : cn l y_MD_hash w_MD_hash (2) (42) G f sz [.ref y, .int (iI k0)] (fun v f' => v = some (.int (iI (sp_hash T Y B Z k0).2.1)) ∧ mdP G f' y (sp_hash T Y B Z k0)) (0) (0) := by
  refine cn_of (own := "TextDeskModel") (nm := "hash") (ds := "(I)I") (by decide) (Nat.le_of_ble_eq_true rfl) ?_
  intro p e s m args below meth c ls X hnm hr hlk hs0 hz hw hl
  have hx := X.1
  have hb := X.2.1
  have hl : lv_has ls 5 [(0, .ref y), (1, .int (iI k0))] := hl
  obtain ⟨si, un, bu, ma, bt, so, co, gsi, gun, gbu, gma, gbt, gso, gco, hM, hT, hB, hZ, hMa, hC, hY⟩ := id hL
  have hTl := hT.1
  have hBl := hB.1.1
  have hZl := hZ.1.1
  have hYl := hY.1
  have hCl := hC.1
  obtain ⟨hk00, hk01⟩ := hk0
  refine lv_aload_n hx hb d_MD_hash_0 rfl (lv_at hl 0 rfl) ?_
  refine lv_aload_n hx hb d_MD_hash_1 rfl (lv_at hl 0 rfl) ?_
  refine lv_iload_n hx hb d_MD_hash_2 rfl (lv_at hl 1 rfl) ?_
  refine cs_MD_71 X hz hw hl.1 hM.1 (c_MD_isText l G f _ y th T Y B Z M C k0 ⟨by omega, by omega⟩ ⟨si, un, bu, ma, bt, so, co, _, _, _, _, _, _, _, hM, hT, hB, hZ, hMa, hC, hY⟩) ⟨Nat.le_of_ble_eq_true rfl, Nat.le_of_ble_eq_true rfl⟩ ⟨by show 0 + 0 ≤ 0; omega, by show 0 + 0 ≤ 0; omega⟩ (Nat.le_of_ble_eq_true rfl) d_MD_hash_3 (fun v f9 H locs hp hw hsz9 hkp9 hdm9 => ?_)
  obtain ⟨rfl, hfe⟩ := hp
  rw [hfe] at hw
  refine W.eq (g2 := F0 m 6 ls [.int (iI (b2 (decide (isT T k0)))), .ref y]) rfl ?_
  have hbt0 := b2_01 (decide (isT T k0))
  refine di_if_eq (tgt := 13) hx hb d_MD_hash_6 (by decide) ⟨by omega, by omega⟩ (fun bq6 => ?_) (fun bq6 => ?_)
  · have nT : ¬ isT T k0 := of_decide_eq_false (b2_0 (by omega))
    refine lv_iconst (v := iI (1)) hx hb d_MD_hash_13 rfl ?_
    refine pf_MD_31_MD X hw hM.1 rfl rfl d_MD_hash_14 (fun H locs hw => ?_)
    obtain ⟨f1, e_f1⟩ : ∃ g9 : dw_M, g9 = dw_up f y (.inr (6, [.int (iI 1), .int (iI ((T.length : Int))), .ref si, .ref un, .int (iI ((B.length : Int))), .ref bu, .int (iI ((M.length : Int))), .ref ma, .int (iI ((Z.length : Int))), .ref bt, .int (iI ((Y.length : Int))), .ref so, .int (iI ((C.length : Int))), .ref co])) := ⟨_, rfl⟩
    rw [← e_f1] at hw
    have hM_f1 : mdS G f1 y 1 (T.length : Int) (B.length : Int) (M.length : Int) (Z.length : Int) (Y.length : Int) (C.length : Int) si un bu ma bt so co gsi gun gbu gma gbt gso gco := by rw [e_f1]; exact hM.obj 1 (T.length : Int) (B.length : Int) (M.length : Int) (Z.length : Int) (Y.length : Int) (C.length : Int)
    refine lv_iconst (v := iI (0)) hx hb d_MD_hash_17 rfl ?_
    refine lv_istore_n (lv' := [(2, .int (iI 0)), (0, .ref y), (1, .int (iI k0))]) hx hb d_MD_hash_18 rfl hl (by decide) rfl (fun ls hl => ?_)
    refine lv_iconst (v := iI (1)) hx hb d_MD_hash_19 rfl ?_
    refine lv_istore_n (lv' := [(3, .int (iI 1)), (2, .int (iI 0)), (0, .ref y), (1, .int (iI k0))]) hx hb d_MD_hash_20 rfl hl (by decide) rfl (fun ls hl => ?_)
    refine lv_aload_n hx hb d_MD_hash_21 rfl (lv_at hl 2 rfl) ?_
    refine gf_MD_31_MD X hw hM_f1.1 d_MD_hash_22 ?_
    refine di_if_le (tgt := 32) hx hb d_MD_hash_25 (by decide) ⟨by decide, by decide⟩ (fun q9 => absurd q9 (by decide)) (fun _ => ?_)
    refine lv_iconst (v := iI (-1)) hx hb d_MD_hash_28 rfl ?_
    refine lv_goto (tgt := 40) hx hb d_MD_hash_29 (by decide) ?_
    refine lv_istore (lv' := [(4, .int (iI ((-1)))), (3, .int (iI 1)), (2, .int (iI 0)), (0, .ref y), (1, .int (iI k0))]) hx hb d_MD_hash_40 hl (by decide) rfl (fun ls hl => ?_)
    refine lv_iload hx hb d_MD_hash_42 (lv_at hl 0 rfl) ?_
    refine di_if_lt (tgt := 70) hx hb d_MD_hash_44 (by decide) ⟨by decide, by decide⟩ (fun _ => ?_) (fun q9 => absurd q9 (by decide))
    refine lv_iload_n hx hb d_MD_hash_70 rfl (lv_at hl 2 rfl) ?_
    have e9 : sp_hash T Y B Z k0 = (1, 0, T, Y, B, Z) := by rw [sp_hash, if_pos (fun q => nT q)]
    exact cn_iret hx hb hr hlk hw  (⟨by rw [e9], by rw [e9]; exact mdP_of (M := M) (C := C) ⟨si, un, bu, ma, bt, so, co, _, _, _, _, _, _, _, hM_f1, hT, hB, hZ, hMa, hC, hY⟩⟩) (Nat.le_refl _) (Nat.le_refl _) d_MD_hash_71
  · have hT0 : isT T k0 := of_decide_eq_true (b2_1 (by omega))
    have hT0a := hT0.1
    have hT0b := hT0.2
    have hT0l := hT.len k0
    refine lv_iconst (v := iI (0)) hx hb d_MD_hash_9 rfl ?_
    refine lv_goto (tgt := 14) hx hb d_MD_hash_10 (by decide) ?_
    refine pf_MD_31_MD X hw hM.1 rfl rfl d_MD_hash_14 (fun H locs hw => ?_)
    obtain ⟨f2, e_f2⟩ : ∃ g9 : dw_M, g9 = dw_up f y (.inr (6, [.int (iI 0), .int (iI ((T.length : Int))), .ref si, .ref un, .int (iI ((B.length : Int))), .ref bu, .int (iI ((M.length : Int))), .ref ma, .int (iI ((Z.length : Int))), .ref bt, .int (iI ((Y.length : Int))), .ref so, .int (iI ((C.length : Int))), .ref co])) := ⟨_, rfl⟩
    rw [← e_f2] at hw
    have hM_f2 : mdS G f2 y 0 (T.length : Int) (B.length : Int) (M.length : Int) (Z.length : Int) (Y.length : Int) (C.length : Int) si un bu ma bt so co gsi gun gbu gma gbt gso gco := by rw [e_f2]; exact hM.obj 0 (T.length : Int) (B.length : Int) (M.length : Int) (Z.length : Int) (Y.length : Int) (C.length : Int)
    refine lv_iconst (v := iI (0)) hx hb d_MD_hash_17 rfl ?_
    refine lv_istore_n (lv' := [(2, .int (iI 0)), (0, .ref y), (1, .int (iI k0))]) hx hb d_MD_hash_18 rfl hl (by decide) rfl (fun ls hl => ?_)
    refine lv_iconst (v := iI (1)) hx hb d_MD_hash_19 rfl ?_
    refine lv_istore_n (lv' := [(3, .int (iI 1)), (2, .int (iI 0)), (0, .ref y), (1, .int (iI k0))]) hx hb d_MD_hash_20 rfl hl (by decide) rfl (fun ls hl => ?_)
    refine lv_aload_n hx hb d_MD_hash_21 rfl (lv_at hl 2 rfl) ?_
    refine gf_MD_31_MD X hw hM_f2.1 d_MD_hash_22 ?_
    refine di_if_le (tgt := 32) hx hb d_MD_hash_25 (by decide) ⟨by decide, by decide⟩ (fun _ => ?_) (fun q9 => absurd q9 (by decide))
    refine lv_aload_n hx hb d_MD_hash_32 rfl (lv_at hl 2 rfl) ?_
    refine gf_MD_7_MD X hw hM_f2.1 d_MD_hash_33 ?_
    refine lv_iload_n hx hb d_MD_hash_36 rfl (lv_at hl 3 rfl) ?_
    refine dw_iald hx hb X.K hw 0 hM_f2.2.1 rfl (i := k0) (by omega) (by omega) (by omega) (hT.sz hT0) d_MD_hash_37 ?_
    refine lv_iconst (v := iI (1)) hx hb d_MD_hash_38 rfl ?_
    refine di_sub hx hb d_MD_hash_39 ?_
    refine lv_istore (lv' := [(4, .int (iI (((tt T k0).length : Int) - 1))), (3, .int (iI 1)), (2, .int (iI 0)), (0, .ref y), (1, .int (iI k0))]) hx hb d_MD_hash_40 hl (by decide) rfl (fun ls hl => ?_)
    have loop : ∀ (N : Nat) (k : Int) (hh : Int) (by0 : Int) (H : Heap) (locs : List Loc) (ls : Array Slot), (k + 1).toNat < N → -1 ≤ k → k < ((tt T k0).length : Int) → hsh (tt T k0) = hsh ((tt T k0).take (k + 1).toNat) * by0 + hh → dw G.1 dk_cl (dw_A f sz) s.heap f2 H locs → lv_has ls 5 [(4, .int (iI k)), (2, .int (iI hh)), (3, .int (iI by0)), (0, .ref y), (1, .int (iI k0))] → W p l e { frames := 2, locals := 42, cells := 0, slots := 0 } s m args below meth c H locs (0) (0) (MQ below (ct_Q G f sz (fun v f' => v = some (.int (iI (sp_hash T Y B Z k0).2.1)) ∧ mdP G f' y (sp_hash T Y B Z k0))) args s (0) (0) (dw_A f sz)) (F0 m 42 ls []) := by
      intro N
      induction N with
      | zero => intros; omega
      | succ N ih =>
        intro k hh by0 H locs ls hN hk0 hk1 hhs hw hl
        refine lv_iload hx hb d_MD_hash_42 (lv_at hl 0 rfl) ?_
        refine di_if_lt (tgt := 70) hx hb d_MD_hash_44 (by decide) ⟨by omega, by omega⟩ (fun bq44 => ?_) (fun bq44 => ?_)
        · refine lv_iload_n hx hb d_MD_hash_70 rfl (lv_at hl 1 rfl) ?_
          have hh9 : hsh (tt T k0) = hh := by rw [hhs, show (k + 1).toNat = 0 by omega, List.take_zero]; simp [hsh]
          have e9 : sp_hash T Y B Z k0 = (0, hh, T, Y, B, Z) := by rw [sp_hash, if_neg (fun q => q hT0), hh9]
          exact cn_iret hx hb hr hlk hw  (⟨by rw [e9], by rw [e9]; exact mdP_of (M := M) (C := C) ⟨si, un, bu, ma, bt, so, co, _, _, _, _, _, _, _, hM_f2, hT, hB, hZ, hMa, hC, hY⟩⟩) (Nat.le_refl _) (Nat.le_refl _) d_MD_hash_71
        · have hk0' : 0 ≤ k := by omega
          refine lv_iload_n hx hb d_MD_hash_47 rfl (lv_at hl 1 rfl) ?_
          refine lv_iload_n hx hb d_MD_hash_48 rfl (lv_at hl 2 rfl) ?_
          refine lv_aload_n hx hb d_MD_hash_49 rfl (lv_at hl 3 rfl) ?_
          refine lv_iload_n hx hb d_MD_hash_50 rfl (lv_at hl 4 rfl) ?_
          refine lv_iload hx hb d_MD_hash_51 (lv_at hl 0 rfl) ?_
          refine cs_MD_39 X hz hw hl.1 hM_f2.1 (c_MD_unitOf l G f2 _ y 0 T Y B Z M C k0 k hT0 ⟨by omega, by omega⟩ ⟨si, un, bu, ma, bt, so, co, _, _, _, _, _, _, _, hM_f2, hT, hB, hZ, hMa, hC, hY⟩) ⟨Nat.le_of_ble_eq_true rfl, Nat.le_of_ble_eq_true rfl⟩ ⟨by show 0 + 0 ≤ 0; omega, by show 0 + 0 ≤ 0; omega⟩ (Nat.le_of_ble_eq_true rfl) d_MD_hash_53 (fun v f9 H locs hp hw hsz9 hkp9 hdm9 => ?_)
          obtain ⟨rfl, hfe⟩ := hp
          rw [hfe] at hw
          refine W.eq (g2 := F0 m 56 ls [.int (iI (gt (tt T k0) k)), .int (iI by0), .int (iI hh)]) rfl ?_
          refine di_mul hx hb d_MD_hash_56 ?_
          refine di_add hx hb d_MD_hash_57 ?_
          refine lv_istore_n (lv' := [(2, .int (iI (hh + (by0 * (gt (tt T k0) k))))), (4, .int (iI k)), (3, .int (iI by0)), (0, .ref y), (1, .int (iI k0))]) hx hb d_MD_hash_58 rfl hl (by decide) rfl (fun ls hl => ?_)
          refine lv_bipush (v := iI (31)) hx hb d_MD_hash_59 rfl ?_
          refine lv_iload_n hx hb d_MD_hash_61 rfl (lv_at hl 2 rfl) ?_
          refine di_mul hx hb d_MD_hash_62 ?_
          refine lv_istore_n (lv' := [(3, .int (iI (31 * by0))), (2, .int (iI (hh + (by0 * (gt (tt T k0) k))))), (4, .int (iI k)), (0, .ref y), (1, .int (iI k0))]) hx hb d_MD_hash_63 rfl hl (by decide) rfl (fun ls hl => ?_)
          refine lv_iinc (v := iI (k + (-1))) (lv' := [(4, .int (iI (k + (-1)))), (3, .int (iI (31 * by0))), (2, .int (iI (hh + (by0 * (gt (tt T k0) k))))), (0, .ref y), (1, .int (iI k0))]) hx hb d_MD_hash_64 hl (k := 2) rfl (iI_add _ _) (by decide) rfl (fun ls hl => ?_)
          refine lv_goto (tgt := 42) hx hb d_MD_hash_67 (by decide) ?_
          exact ih (k + (-1)) (hh + (by0 * gt (tt T k0) k)) (31 * by0) _ _ _ (by omega) (by omega) (by omega) (by
            rw [hhs, hsh_snoc hk0' (by omega), show (k + (-1) + 1).toNat = k.toNat by omega, Int.add_mul, Int.mul_assoc, Int.mul_comm 31 (_ * by0), Int.mul_assoc, Int.mul_comm by0 31, Int.mul_comm (gt (tt T k0) k) by0, Int.add_assoc, Int.add_comm (by0 * _) hh]) hw (lv_sub hl [0, 2, 1, 3, 4] rfl)
    exact loop ((((tt T k0).length : Int) - 1 + 1).toNat + 1) (((tt T k0).length : Int) - 1) (0) (1) _ _ _ (by omega) (by omega) (by omega) (by rw [Int.mul_one, Int.add_zero, List.take_of_length_le (by omega)]) hw (lv_sub hl [0, 2, 1, 3, 4] rfl)
set_option maxRecDepth 100000 in
set_option maxHeartbeats 4000000 in
theorem c_MD_difference (l : Launch) (G : ct_G) (f : dw_M) (sz : Nat) (y : Nat) (th : Int) (T Y : List (List Int)) (B Z M C : List Int) (ka kb : Int) (ha : isT T ka) (hb0 : isT T kb) (hL : mdL G f y th T Y B Z M C) : cn l y_MD_difference w_MD_difference (1) (22) G f sz [.ref y, .int (iI ka), .int (iI kb)] (fun v f' => v = some (.int (iI (dif (tt T ka) (tt T kb)))) ∧ f' = f) (0) (0) := by
  refine cn_of (own := "TextDeskModel") (nm := "difference") (ds := "(II)I") (by decide) (Nat.le_of_ble_eq_true rfl) ?_
  intro p e s m args below meth c ls X hnm hr hlk hs0 hz hw hl
  have hx := X.1
  have hb := X.2.1
  have hl : lv_has ls 4 [(0, .ref y), (1, .int (iI ka)), (2, .int (iI kb))] := hl
  obtain ⟨si, un, bu, ma, bt, so, co, gsi, gun, gbu, gma, gbt, gso, gco, hM, hT, hB, hZ, hMa, hC, hY⟩ := id hL
  have hTl := hT.1
  have hBl := hB.1.1
  have hZl := hZ.1.1
  have hYl := hY.1
  have hCl := hC.1
  have hla := hT.len ka
  have hlb := hT.len kb
  have ha0 := ha.1
  have ha1 := ha.2
  have hb1 := hb0.1
  have hb2 := hb0.2
  refine lv_iconst (v := iI (0)) hx hb d_MD_difference_0 rfl ?_
  refine lv_istore_n (lv' := [(3, .int (iI 0)), (0, .ref y), (1, .int (iI ka)), (2, .int (iI kb))]) hx hb d_MD_difference_1 rfl hl (by decide) rfl (fun ls hl => ?_)
  have loop : ∀ (N : Nat) (k : Int) (H : Heap) (locs : List Loc) (ls : Array Slot), (((tt T ka).length : Int) - k).toNat < N → 0 ≤ k → k ≤ ((tt T ka).length : Int) → k ≤ ((tt T kb).length : Int) → (∀ j : Nat, j < k.toNat → gt (tt T ka) j = gt (tt T kb) j) → dw G.1 dk_cl (dw_A f sz) s.heap f H locs → lv_has ls 4 [(3, .int (iI k)), (0, .ref y), (1, .int (iI ka)), (2, .int (iI kb))] → W p l e { frames := 1, locals := 22, cells := 0, slots := 0 } s m args below meth c H locs (0) (0) (MQ below (ct_Q G f sz (fun v f' => v = some (.int (iI (dif (tt T ka) (tt T kb)))) ∧ f' = f)) args s (0) (0) (dw_A f sz)) (F0 m 2 ls []) := by
    intro N
    induction N with
    | zero => intros; omega
    | succ N ih =>
      intro k H locs ls hN hk0 hk1 hk2 heq hw hl
      have hde := dif_eq (tt T ka) (tt T kb) k.toNat (by omega) (by omega) heq
      have hkk : ((k.toNat : Nat) : Int) = k := by omega
      rw [hkk] at hde
      have hga := gt_rng (hT.rng ka) k
      have hgb := gt_rng (hT.rng kb) k
      refine lv_iload_n hx hb d_MD_difference_2 rfl (lv_at hl 0 rfl) ?_
      refine lv_aload_n hx hb d_MD_difference_3 rfl (lv_at hl 1 rfl) ?_
      refine gf_MD_7_MD X hw hM.1 d_MD_difference_4 ?_
      refine lv_iload_n hx hb d_MD_difference_7 rfl (lv_at hl 2 rfl) ?_
      refine dw_iald hx hb X.K hw 0 hM.2.1 rfl (i := ka) (by omega) (by omega) (by omega) (hT.sz ha) d_MD_difference_8 ?_
      refine di_icmp_ge (tgt := 57) hx hb d_MD_difference_9 (by decide) ⟨by omega, by omega⟩ ⟨by omega, by omega⟩ (fun bq9 => ?_) (fun bq9 => ?_)
      · refine lv_aload_n hx hb d_MD_difference_57 rfl (lv_at hl 1 rfl) ?_
        refine gf_MD_7_MD X hw hM.1 d_MD_difference_58 ?_
        refine lv_iload_n hx hb d_MD_difference_61 rfl (lv_at hl 2 rfl) ?_
        refine dw_iald hx hb X.K hw 0 hM.2.1 rfl (i := ka) (by omega) (by omega) (by omega) (hT.sz ha) d_MD_difference_62 ?_
        refine lv_aload_n hx hb d_MD_difference_63 rfl (lv_at hl 1 rfl) ?_
        refine gf_MD_7_MD X hw hM.1 d_MD_difference_64 ?_
        refine lv_iload_n hx hb d_MD_difference_67 rfl (lv_at hl 3 rfl) ?_
        refine dw_iald hx hb X.K hw 0 hM.2.1 rfl (i := kb) (by omega) (by omega) (by omega) (hT.sz hb0) d_MD_difference_68 ?_
        refine di_sub hx hb d_MD_difference_69 ?_
        exact cn_iret hx hb hr hlk hw  (⟨by rw [hde.2 (by omega)], rfl⟩) (Nat.le_refl _) (Nat.le_refl _) d_MD_difference_70
      · refine lv_iload_n hx hb d_MD_difference_12 rfl (lv_at hl 0 rfl) ?_
        refine lv_aload_n hx hb d_MD_difference_13 rfl (lv_at hl 1 rfl) ?_
        refine gf_MD_7_MD X hw hM.1 d_MD_difference_14 ?_
        refine lv_iload_n hx hb d_MD_difference_17 rfl (lv_at hl 3 rfl) ?_
        refine dw_iald hx hb X.K hw 0 hM.2.1 rfl (i := kb) (by omega) (by omega) (by omega) (hT.sz hb0) d_MD_difference_18 ?_
        refine di_icmp_ge (tgt := 57) hx hb d_MD_difference_19 (by decide) ⟨by omega, by omega⟩ ⟨by omega, by omega⟩ (fun bq19 => ?_) (fun bq19 => ?_)
        · refine lv_aload_n hx hb d_MD_difference_57 rfl (lv_at hl 1 rfl) ?_
          refine gf_MD_7_MD X hw hM.1 d_MD_difference_58 ?_
          refine lv_iload_n hx hb d_MD_difference_61 rfl (lv_at hl 2 rfl) ?_
          refine dw_iald hx hb X.K hw 0 hM.2.1 rfl (i := ka) (by omega) (by omega) (by omega) (hT.sz ha) d_MD_difference_62 ?_
          refine lv_aload_n hx hb d_MD_difference_63 rfl (lv_at hl 1 rfl) ?_
          refine gf_MD_7_MD X hw hM.1 d_MD_difference_64 ?_
          refine lv_iload_n hx hb d_MD_difference_67 rfl (lv_at hl 3 rfl) ?_
          refine dw_iald hx hb X.K hw 0 hM.2.1 rfl (i := kb) (by omega) (by omega) (by omega) (hT.sz hb0) d_MD_difference_68 ?_
          refine di_sub hx hb d_MD_difference_69 ?_
          exact cn_iret hx hb hr hlk hw  (⟨by rw [hde.2 (by omega)], rfl⟩) (Nat.le_refl _) (Nat.le_refl _) d_MD_difference_70
        · refine lv_aload_n hx hb d_MD_difference_22 rfl (lv_at hl 1 rfl) ?_
          refine lv_iload_n hx hb d_MD_difference_23 rfl (lv_at hl 2 rfl) ?_
          refine lv_iload_n hx hb d_MD_difference_24 rfl (lv_at hl 0 rfl) ?_
          refine cs_MD_39 X hz hw hl.1 hM.1 (c_MD_unitOf l G f _ y th T Y B Z M C ka k ha ⟨by omega, by omega⟩ ⟨si, un, bu, ma, bt, so, co, _, _, _, _, _, _, _, hM, hT, hB, hZ, hMa, hC, hY⟩) ⟨Nat.le_of_ble_eq_true rfl, Nat.le_of_ble_eq_true rfl⟩ ⟨by show 0 + 0 ≤ 0; omega, by show 0 + 0 ≤ 0; omega⟩ (Nat.le_of_ble_eq_true rfl) d_MD_difference_25 (fun v f9 H locs hp hw hsz9 hkp9 hdm9 => ?_)
          obtain ⟨rfl, hfe⟩ := hp
          rw [hfe] at hw
          refine W.eq (g2 := F0 m 28 ls [.int (iI (gt (tt T ka) k))]) rfl ?_
          refine lv_aload_n hx hb d_MD_difference_28 rfl (lv_at hl 1 rfl) ?_
          refine lv_iload_n hx hb d_MD_difference_29 rfl (lv_at hl 3 rfl) ?_
          refine lv_iload_n hx hb d_MD_difference_30 rfl (lv_at hl 0 rfl) ?_
          refine cs_MD_39 X hz hw hl.1 hM.1 (c_MD_unitOf l G f _ y th T Y B Z M C kb k hb0 ⟨by omega, by omega⟩ ⟨si, un, bu, ma, bt, so, co, _, _, _, _, _, _, _, hM, hT, hB, hZ, hMa, hC, hY⟩) ⟨Nat.le_of_ble_eq_true rfl, Nat.le_of_ble_eq_true rfl⟩ ⟨by show 0 + 0 ≤ 0; omega, by show 0 + 0 ≤ 0; omega⟩ (Nat.le_of_ble_eq_true rfl) d_MD_difference_31 (fun v f9 H locs hp hw hsz9 hkp9 hdm9 => ?_)
          obtain ⟨rfl, hfe⟩ := hp
          rw [hfe] at hw
          refine W.eq (g2 := F0 m 34 ls [.int (iI (gt (tt T kb) k)), .int (iI (gt (tt T ka) k))]) rfl ?_
          refine di_icmp_eq (tgt := 51) hx hb d_MD_difference_34 (by decide) ⟨by omega, by omega⟩ ⟨by omega, by omega⟩ (fun bq34 => ?_) (fun bq34 => ?_)
          · refine lv_iinc (v := iI (k + 1)) (lv' := [(3, .int (iI (k + 1))), (0, .ref y), (1, .int (iI ka)), (2, .int (iI kb))]) hx hb d_MD_difference_51 hl (k := 0) rfl (iI_add _ _) (by decide) rfl (fun ls hl => ?_)
            refine lv_goto (tgt := 2) hx hb d_MD_difference_54 (by decide) ?_
            exact ih (k + 1) _ _ _ (by omega) (by omega) (by omega) (by omega) (fun j hj => by
              by_cases q : j = k.toNat
              · rw [q, hkk]; omega
              · exact heq j (by omega)) hw (lv_sub hl [0, 1, 2, 3] rfl)
          · refine lv_aload_n hx hb d_MD_difference_37 rfl (lv_at hl 1 rfl) ?_
            refine lv_iload_n hx hb d_MD_difference_38 rfl (lv_at hl 2 rfl) ?_
            refine lv_iload_n hx hb d_MD_difference_39 rfl (lv_at hl 0 rfl) ?_
            refine cs_MD_39 X hz hw hl.1 hM.1 (c_MD_unitOf l G f _ y th T Y B Z M C ka k ha ⟨by omega, by omega⟩ ⟨si, un, bu, ma, bt, so, co, _, _, _, _, _, _, _, hM, hT, hB, hZ, hMa, hC, hY⟩) ⟨Nat.le_of_ble_eq_true rfl, Nat.le_of_ble_eq_true rfl⟩ ⟨by show 0 + 0 ≤ 0; omega, by show 0 + 0 ≤ 0; omega⟩ (Nat.le_of_ble_eq_true rfl) d_MD_difference_40 (fun v f9 H locs hp hw hsz9 hkp9 hdm9 => ?_)
            obtain ⟨rfl, hfe⟩ := hp
            rw [hfe] at hw
            refine W.eq (g2 := F0 m 43 ls [.int (iI (gt (tt T ka) k))]) rfl ?_
            refine lv_aload_n hx hb d_MD_difference_43 rfl (lv_at hl 1 rfl) ?_
            refine lv_iload_n hx hb d_MD_difference_44 rfl (lv_at hl 3 rfl) ?_
            refine lv_iload_n hx hb d_MD_difference_45 rfl (lv_at hl 0 rfl) ?_
            refine cs_MD_39 X hz hw hl.1 hM.1 (c_MD_unitOf l G f _ y th T Y B Z M C kb k hb0 ⟨by omega, by omega⟩ ⟨si, un, bu, ma, bt, so, co, _, _, _, _, _, _, _, hM, hT, hB, hZ, hMa, hC, hY⟩) ⟨Nat.le_of_ble_eq_true rfl, Nat.le_of_ble_eq_true rfl⟩ ⟨by show 0 + 0 ≤ 0; omega, by show 0 + 0 ≤ 0; omega⟩ (Nat.le_of_ble_eq_true rfl) d_MD_difference_46 (fun v f9 H locs hp hw hsz9 hkp9 hdm9 => ?_)
            obtain ⟨rfl, hfe⟩ := hp
            rw [hfe] at hw
            refine W.eq (g2 := F0 m 49 ls [.int (iI (gt (tt T kb) k)), .int (iI (gt (tt T ka) k))]) rfl ?_
            refine di_sub hx hb d_MD_difference_49 ?_
            exact cn_iret hx hb hr hlk hw  (⟨by rw [hde.1 (by omega) (by omega) (by omega)], rfl⟩) (Nat.le_refl _) (Nat.le_refl _) d_MD_difference_50
  exact loop ((((tt T ka).length : Int) - 0).toNat + 1) (0) _ _ _ (by omega) (by omega) (by omega) (by omega) (fun j hj => by omega) hw (lv_sub hl [0, 1, 2, 3] rfl)
set_option maxRecDepth 100000 in
set_option maxHeartbeats 4000000 in
theorem c_MD_compare (l : Launch) (G : ct_G) (f : dw_M) (sz : Nat) (y : Nat) (th : Int) (T Y : List (List Int)) (B Z M C : List Int) (ka : Int) (kb : Int) (hka : iR ka) (hkb : iR kb) (hL : mdL G f y th T Y B Z M C) : cn l y_MD_compare w_MD_compare (2) (45) G f sz [.ref y, .int (iI ka), .int (iI kb)] (fun v f' => v = some (.int (iI (sp_compare T Y B Z ka kb).2.1)) ∧ mdP G f' y (sp_compare T Y B Z ka kb)) (0) (0) := by
  refine cn_of (own := "TextDeskModel") (nm := "compare") (ds := "(II)I") (by decide) (Nat.le_of_ble_eq_true rfl) ?_
  intro p e s m args below meth c ls X hnm hr hlk hs0 hz hw hl
  have hx := X.1
  have hb := X.2.1
  have hl : lv_has ls 3 [(0, .ref y), (1, .int (iI ka)), (2, .int (iI kb))] := hl
  obtain ⟨si, un, bu, ma, bt, so, co, gsi, gun, gbu, gma, gbt, gso, gco, hM, hT, hB, hZ, hMa, hC, hY⟩ := id hL
  have hTl := hT.1
  have hBl := hB.1.1
  have hZl := hZ.1.1
  have hYl := hY.1
  have hCl := hC.1
  obtain ⟨hka0, hka1⟩ := hka
  obtain ⟨hkb0, hkb1⟩ := hkb
  refine lv_aload_n hx hb d_MD_compare_0 rfl (lv_at hl 0 rfl) ?_
  refine lv_aload_n hx hb d_MD_compare_1 rfl (lv_at hl 0 rfl) ?_
  refine lv_iload_n hx hb d_MD_compare_2 rfl (lv_at hl 1 rfl) ?_
  refine cs_MD_71 X hz hw hl.1 hM.1 (c_MD_isText l G f _ y th T Y B Z M C ka ⟨by omega, by omega⟩ ⟨si, un, bu, ma, bt, so, co, _, _, _, _, _, _, _, hM, hT, hB, hZ, hMa, hC, hY⟩) ⟨Nat.le_of_ble_eq_true rfl, Nat.le_of_ble_eq_true rfl⟩ ⟨by show 0 + 0 ≤ 0; omega, by show 0 + 0 ≤ 0; omega⟩ (Nat.le_of_ble_eq_true rfl) d_MD_compare_3 (fun v f9 H locs hp hw hsz9 hkp9 hdm9 => ?_)
  obtain ⟨rfl, hfe⟩ := hp
  rw [hfe] at hw
  refine W.eq (g2 := F0 m 6 ls [.int (iI (b2 (decide (isT T ka)))), .ref y]) rfl ?_
  have hbt0 := b2_01 (decide (isT T ka))
  refine di_if_eq (tgt := 21) hx hb d_MD_compare_6 (by decide) ⟨by omega, by omega⟩ (fun bq6 => ?_) (fun bq6 => ?_)
  · have nT : ¬ isT T ka := of_decide_eq_false (b2_0 (by omega))
    refine lv_iconst (v := iI (1)) hx hb d_MD_compare_21 rfl ?_
    refine pf_MD_31_MD X hw hM.1 rfl rfl d_MD_compare_22 (fun H locs hw => ?_)
    obtain ⟨f1, e_f1⟩ : ∃ g9 : dw_M, g9 = dw_up f y (.inr (6, [.int (iI 1), .int (iI ((T.length : Int))), .ref si, .ref un, .int (iI ((B.length : Int))), .ref bu, .int (iI ((M.length : Int))), .ref ma, .int (iI ((Z.length : Int))), .ref bt, .int (iI ((Y.length : Int))), .ref so, .int (iI ((C.length : Int))), .ref co])) := ⟨_, rfl⟩
    rw [← e_f1] at hw
    have hM_f1 : mdS G f1 y 1 (T.length : Int) (B.length : Int) (M.length : Int) (Z.length : Int) (Y.length : Int) (C.length : Int) si un bu ma bt so co gsi gun gbu gma gbt gso gco := by rw [e_f1]; exact hM.obj 1 (T.length : Int) (B.length : Int) (M.length : Int) (Z.length : Int) (Y.length : Int) (C.length : Int)
    refine lv_aload_n hx hb d_MD_compare_25 rfl (lv_at hl 0 rfl) ?_
    refine gf_MD_31_MD X hw hM_f1.1 d_MD_compare_26 ?_
    refine di_if_le (tgt := 36) hx hb d_MD_compare_29 (by decide) ⟨by decide, by decide⟩ (fun q9 => absurd q9 (by decide)) (fun _ => ?_)
    refine lv_iconst (v := iI (0)) hx hb d_MD_compare_32 rfl ?_
    refine lv_goto (tgt := 42) hx hb d_MD_compare_33 (by decide) ?_
    have e9 : sp_compare T Y B Z ka kb = (1, 0, T, Y, B, Z) := by rw [sp_compare, if_pos (fun q => nT q.1)]
    exact cn_iret hx hb hr hlk hw  (⟨by rw [e9], by rw [e9]; exact mdP_of (M := M) (C := C) ⟨si, un, bu, ma, bt, so, co, _, _, _, _, _, _, _, hM_f1, hT, hB, hZ, hMa, hC, hY⟩⟩) (Nat.le_refl _) (Nat.le_refl _) d_MD_compare_42
  · have hT0 : isT T ka := of_decide_eq_true (b2_1 (by omega))
    have hT0a := hT0.1
    have hT0b := hT0.2
    have hT0l := hT.len ka
    refine lv_aload_n hx hb d_MD_compare_9 rfl (lv_at hl 0 rfl) ?_
    refine lv_iload_n hx hb d_MD_compare_10 rfl (lv_at hl 2 rfl) ?_
    refine cs_MD_71 X hz hw hl.1 hM.1 (c_MD_isText l G f _ y th T Y B Z M C kb ⟨by omega, by omega⟩ ⟨si, un, bu, ma, bt, so, co, _, _, _, _, _, _, _, hM, hT, hB, hZ, hMa, hC, hY⟩) ⟨Nat.le_of_ble_eq_true rfl, Nat.le_of_ble_eq_true rfl⟩ ⟨by show 0 + 0 ≤ 0; omega, by show 0 + 0 ≤ 0; omega⟩ (Nat.le_of_ble_eq_true rfl) d_MD_compare_11 (fun v f9 H locs hp hw hsz9 hkp9 hdm9 => ?_)
    obtain ⟨rfl, hfe⟩ := hp
    rw [hfe] at hw
    refine W.eq (g2 := F0 m 14 ls [.int (iI (b2 (decide (isT T kb)))), .ref y]) rfl ?_
    have hbt1 := b2_01 (decide (isT T kb))
    refine di_if_eq (tgt := 21) hx hb d_MD_compare_14 (by decide) ⟨by omega, by omega⟩ (fun bq14 => ?_) (fun bq14 => ?_)
    · have nT : ¬ isT T kb := of_decide_eq_false (b2_0 (by omega))
      refine lv_iconst (v := iI (1)) hx hb d_MD_compare_21 rfl ?_
      refine pf_MD_31_MD X hw hM.1 rfl rfl d_MD_compare_22 (fun H locs hw => ?_)
      obtain ⟨f2, e_f2⟩ : ∃ g9 : dw_M, g9 = dw_up f y (.inr (6, [.int (iI 1), .int (iI ((T.length : Int))), .ref si, .ref un, .int (iI ((B.length : Int))), .ref bu, .int (iI ((M.length : Int))), .ref ma, .int (iI ((Z.length : Int))), .ref bt, .int (iI ((Y.length : Int))), .ref so, .int (iI ((C.length : Int))), .ref co])) := ⟨_, rfl⟩
      rw [← e_f2] at hw
      have hM_f2 : mdS G f2 y 1 (T.length : Int) (B.length : Int) (M.length : Int) (Z.length : Int) (Y.length : Int) (C.length : Int) si un bu ma bt so co gsi gun gbu gma gbt gso gco := by rw [e_f2]; exact hM.obj 1 (T.length : Int) (B.length : Int) (M.length : Int) (Z.length : Int) (Y.length : Int) (C.length : Int)
      refine lv_aload_n hx hb d_MD_compare_25 rfl (lv_at hl 0 rfl) ?_
      refine gf_MD_31_MD X hw hM_f2.1 d_MD_compare_26 ?_
      refine di_if_le (tgt := 36) hx hb d_MD_compare_29 (by decide) ⟨by decide, by decide⟩ (fun q9 => absurd q9 (by decide)) (fun _ => ?_)
      refine lv_iconst (v := iI (0)) hx hb d_MD_compare_32 rfl ?_
      refine lv_goto (tgt := 42) hx hb d_MD_compare_33 (by decide) ?_
      have e9 : sp_compare T Y B Z ka kb = (1, 0, T, Y, B, Z) := by rw [sp_compare, if_pos (fun q => nT q.2)]
      exact cn_iret hx hb hr hlk hw  (⟨by rw [e9], by rw [e9]; exact mdP_of (M := M) (C := C) ⟨si, un, bu, ma, bt, so, co, _, _, _, _, _, _, _, hM_f2, hT, hB, hZ, hMa, hC, hY⟩⟩) (Nat.le_refl _) (Nat.le_refl _) d_MD_compare_42
    · have hT1 : isT T kb := of_decide_eq_true (b2_1 (by omega))
      have hT1a := hT1.1
      have hT1b := hT1.2
      have hT1l := hT.len kb
      refine lv_iconst (v := iI (0)) hx hb d_MD_compare_17 rfl ?_
      refine lv_goto (tgt := 22) hx hb d_MD_compare_18 (by decide) ?_
      refine pf_MD_31_MD X hw hM.1 rfl rfl d_MD_compare_22 (fun H locs hw => ?_)
      obtain ⟨f3, e_f3⟩ : ∃ g9 : dw_M, g9 = dw_up f y (.inr (6, [.int (iI 0), .int (iI ((T.length : Int))), .ref si, .ref un, .int (iI ((B.length : Int))), .ref bu, .int (iI ((M.length : Int))), .ref ma, .int (iI ((Z.length : Int))), .ref bt, .int (iI ((Y.length : Int))), .ref so, .int (iI ((C.length : Int))), .ref co])) := ⟨_, rfl⟩
      rw [← e_f3] at hw
      have hM_f3 : mdS G f3 y 0 (T.length : Int) (B.length : Int) (M.length : Int) (Z.length : Int) (Y.length : Int) (C.length : Int) si un bu ma bt so co gsi gun gbu gma gbt gso gco := by rw [e_f3]; exact hM.obj 0 (T.length : Int) (B.length : Int) (M.length : Int) (Z.length : Int) (Y.length : Int) (C.length : Int)
      refine lv_aload_n hx hb d_MD_compare_25 rfl (lv_at hl 0 rfl) ?_
      refine gf_MD_31_MD X hw hM_f3.1 d_MD_compare_26 ?_
      refine di_if_le (tgt := 36) hx hb d_MD_compare_29 (by decide) ⟨by decide, by decide⟩ (fun _ => ?_) (fun q9 => absurd q9 (by decide))
      refine lv_aload_n hx hb d_MD_compare_36 rfl (lv_at hl 0 rfl) ?_
      refine lv_iload_n hx hb d_MD_compare_37 rfl (lv_at hl 1 rfl) ?_
      refine lv_iload_n hx hb d_MD_compare_38 rfl (lv_at hl 2 rfl) ?_
      refine cs_MD_93 X hz hw hl.1 hM_f3.1 (c_MD_difference l G f3 _ y 0 T Y B Z M C ka kb hT0 hT1 ⟨si, un, bu, ma, bt, so, co, _, _, _, _, _, _, _, hM_f3, hT, hB, hZ, hMa, hC, hY⟩) ⟨Nat.le_of_ble_eq_true rfl, Nat.le_of_ble_eq_true rfl⟩ ⟨by show 0 + 0 ≤ 0; omega, by show 0 + 0 ≤ 0; omega⟩ (Nat.le_of_ble_eq_true rfl) d_MD_compare_39 (fun v f9 H locs hp hw hsz9 hkp9 hdm9 => ?_)
      obtain ⟨rfl, hfe⟩ := hp
      rw [hfe] at hw
      refine W.eq (g2 := F0 m 42 ls [.int (iI (dif (tt T ka) (tt T kb)))]) rfl ?_
      have e9 : sp_compare T Y B Z ka kb = (0, dif (tt T ka) (tt T kb), T, Y, B, Z) := by rw [sp_compare, if_neg (fun q => q ⟨hT0, hT1⟩)]
      exact cn_iret hx hb hr hlk hw  (⟨by rw [e9], by rw [e9]; exact mdP_of (M := M) (C := C) ⟨si, un, bu, ma, bt, so, co, _, _, _, _, _, _, _, hM_f3, hT, hB, hZ, hMa, hC, hY⟩⟩) (Nat.le_refl _) (Nat.le_refl _) d_MD_compare_42
set_option maxRecDepth 100000 in
set_option maxHeartbeats 4000000 in
theorem c_MD_find (l : Launch) (G : ct_G) (f : dw_M) (sz : Nat) (y : Nat) (th : Int) (T Y : List (List Int)) (B Z M C : List Int) (ka : Int) (kb : Int) (fr : Int) (hka : iR ka) (hkb : iR kb) (hfr : iR fr) (lb : Bool) (hL : mdL G f y th T Y B Z M C) : cn l y_MD_find w_MD_find (2) (47) G f sz [.ref y, .int (iI ka), .int (iI kb), .int (iI fr), .int (iI (b2 lb))] (fun v f' => v = some (.int (iI (sp_find T Y B Z ka kb fr lb).2.1)) ∧ mdP G f' y (sp_find T Y B Z ka kb fr lb)) (0) (0) := by
  refine cn_of (own := "TextDeskModel") (nm := "find") (ds := "(IIIZ)I") (by decide) (Nat.le_of_ble_eq_true rfl) ?_
  intro p e s m args below meth c ls X hnm hr hlk hs0 hz hw hl
  have hx := X.1
  have hb := X.2.1
  have hl : lv_has ls 8 [(0, .ref y), (1, .int (iI ka)), (2, .int (iI kb)), (3, .int (iI fr)), (4, .int (iI (b2 lb)))] := hl
  obtain ⟨si, un, bu, ma, bt, so, co, gsi, gun, gbu, gma, gbt, gso, gco, hM, hT, hB, hZ, hMa, hC, hY⟩ := id hL
  have hTl := hT.1
  have hBl := hB.1.1
  have hZl := hZ.1.1
  have hYl := hY.1
  have hCl := hC.1
  obtain ⟨hka0, hka1⟩ := hka
  obtain ⟨hkb0, hkb1⟩ := hkb
  obtain ⟨hfr0, hfr1⟩ := hfr
  refine lv_aload_n hx hb d_MD_find_0 rfl (lv_at hl 0 rfl) ?_
  refine lv_aload_n hx hb d_MD_find_1 rfl (lv_at hl 0 rfl) ?_
  refine lv_iload_n hx hb d_MD_find_2 rfl (lv_at hl 1 rfl) ?_
  refine cs_MD_71 X hz hw hl.1 hM.1 (c_MD_isText l G f _ y th T Y B Z M C ka ⟨by omega, by omega⟩ ⟨si, un, bu, ma, bt, so, co, _, _, _, _, _, _, _, hM, hT, hB, hZ, hMa, hC, hY⟩) ⟨Nat.le_of_ble_eq_true rfl, Nat.le_of_ble_eq_true rfl⟩ ⟨by show 0 + 0 ≤ 0; omega, by show 0 + 0 ≤ 0; omega⟩ (Nat.le_of_ble_eq_true rfl) d_MD_find_3 (fun v f9 H locs hp hw hsz9 hkp9 hdm9 => ?_)
  obtain ⟨rfl, hfe⟩ := hp
  rw [hfe] at hw
  refine W.eq (g2 := F0 m 6 ls [.int (iI (b2 (decide (isT T ka)))), .ref y]) rfl ?_
  have hbt0 := b2_01 (decide (isT T ka))
  refine di_if_eq (tgt := 21) hx hb d_MD_find_6 (by decide) ⟨by omega, by omega⟩ (fun bq6 => ?_) (fun bq6 => ?_)
  · have nT : ¬ isT T ka := of_decide_eq_false (b2_0 (by omega))
    refine lv_iconst (v := iI (1)) hx hb d_MD_find_21 rfl ?_
    refine pf_MD_31_MD X hw hM.1 rfl rfl d_MD_find_22 (fun H locs hw => ?_)
    obtain ⟨f1, e_f1⟩ : ∃ g9 : dw_M, g9 = dw_up f y (.inr (6, [.int (iI 1), .int (iI ((T.length : Int))), .ref si, .ref un, .int (iI ((B.length : Int))), .ref bu, .int (iI ((M.length : Int))), .ref ma, .int (iI ((Z.length : Int))), .ref bt, .int (iI ((Y.length : Int))), .ref so, .int (iI ((C.length : Int))), .ref co])) := ⟨_, rfl⟩
    rw [← e_f1] at hw
    have hM_f1 : mdS G f1 y 1 (T.length : Int) (B.length : Int) (M.length : Int) (Z.length : Int) (Y.length : Int) (C.length : Int) si un bu ma bt so co gsi gun gbu gma gbt gso gco := by rw [e_f1]; exact hM.obj 1 (T.length : Int) (B.length : Int) (M.length : Int) (Z.length : Int) (Y.length : Int) (C.length : Int)
    refine lv_aload_n hx hb d_MD_find_25 rfl (lv_at hl 0 rfl) ?_
    refine gf_MD_31_MD X hw hM_f1.1 d_MD_find_26 ?_
    refine di_if_le (tgt := 34) hx hb d_MD_find_29 (by decide) ⟨by decide, by decide⟩ (fun q9 => absurd q9 (by decide)) (fun _ => ?_)
    refine lv_iconst (v := iI (0)) hx hb d_MD_find_32 rfl ?_
    have e9 : sp_find T Y B Z ka kb fr lb = (1, 0, T, Y, B, Z) := by rw [sp_find, if_pos (fun q => nT q.1)]
    exact cn_iret hx hb hr hlk hw  (⟨by rw [e9], by rw [e9]; exact mdP_of (M := M) (C := C) ⟨si, un, bu, ma, bt, so, co, _, _, _, _, _, _, _, hM_f1, hT, hB, hZ, hMa, hC, hY⟩⟩) (Nat.le_refl _) (Nat.le_refl _) d_MD_find_33
  · have hT0 : isT T ka := of_decide_eq_true (b2_1 (by omega))
    have hT0a := hT0.1
    have hT0b := hT0.2
    have hT0l := hT.len ka
    refine lv_aload_n hx hb d_MD_find_9 rfl (lv_at hl 0 rfl) ?_
    refine lv_iload_n hx hb d_MD_find_10 rfl (lv_at hl 2 rfl) ?_
    refine cs_MD_71 X hz hw hl.1 hM.1 (c_MD_isText l G f _ y th T Y B Z M C kb ⟨by omega, by omega⟩ ⟨si, un, bu, ma, bt, so, co, _, _, _, _, _, _, _, hM, hT, hB, hZ, hMa, hC, hY⟩) ⟨Nat.le_of_ble_eq_true rfl, Nat.le_of_ble_eq_true rfl⟩ ⟨by show 0 + 0 ≤ 0; omega, by show 0 + 0 ≤ 0; omega⟩ (Nat.le_of_ble_eq_true rfl) d_MD_find_11 (fun v f9 H locs hp hw hsz9 hkp9 hdm9 => ?_)
    obtain ⟨rfl, hfe⟩ := hp
    rw [hfe] at hw
    refine W.eq (g2 := F0 m 14 ls [.int (iI (b2 (decide (isT T kb)))), .ref y]) rfl ?_
    have hbt1 := b2_01 (decide (isT T kb))
    refine di_if_eq (tgt := 21) hx hb d_MD_find_14 (by decide) ⟨by omega, by omega⟩ (fun bq14 => ?_) (fun bq14 => ?_)
    · have nT : ¬ isT T kb := of_decide_eq_false (b2_0 (by omega))
      refine lv_iconst (v := iI (1)) hx hb d_MD_find_21 rfl ?_
      refine pf_MD_31_MD X hw hM.1 rfl rfl d_MD_find_22 (fun H locs hw => ?_)
      obtain ⟨f2, e_f2⟩ : ∃ g9 : dw_M, g9 = dw_up f y (.inr (6, [.int (iI 1), .int (iI ((T.length : Int))), .ref si, .ref un, .int (iI ((B.length : Int))), .ref bu, .int (iI ((M.length : Int))), .ref ma, .int (iI ((Z.length : Int))), .ref bt, .int (iI ((Y.length : Int))), .ref so, .int (iI ((C.length : Int))), .ref co])) := ⟨_, rfl⟩
      rw [← e_f2] at hw
      have hM_f2 : mdS G f2 y 1 (T.length : Int) (B.length : Int) (M.length : Int) (Z.length : Int) (Y.length : Int) (C.length : Int) si un bu ma bt so co gsi gun gbu gma gbt gso gco := by rw [e_f2]; exact hM.obj 1 (T.length : Int) (B.length : Int) (M.length : Int) (Z.length : Int) (Y.length : Int) (C.length : Int)
      refine lv_aload_n hx hb d_MD_find_25 rfl (lv_at hl 0 rfl) ?_
      refine gf_MD_31_MD X hw hM_f2.1 d_MD_find_26 ?_
      refine di_if_le (tgt := 34) hx hb d_MD_find_29 (by decide) ⟨by decide, by decide⟩ (fun q9 => absurd q9 (by decide)) (fun _ => ?_)
      refine lv_iconst (v := iI (0)) hx hb d_MD_find_32 rfl ?_
      have e9 : sp_find T Y B Z ka kb fr lb = (1, 0, T, Y, B, Z) := by rw [sp_find, if_pos (fun q => nT q.2)]
      exact cn_iret hx hb hr hlk hw  (⟨by rw [e9], by rw [e9]; exact mdP_of (M := M) (C := C) ⟨si, un, bu, ma, bt, so, co, _, _, _, _, _, _, _, hM_f2, hT, hB, hZ, hMa, hC, hY⟩⟩) (Nat.le_refl _) (Nat.le_refl _) d_MD_find_33
    · have hT1 : isT T kb := of_decide_eq_true (b2_1 (by omega))
      have hT1a := hT1.1
      have hT1b := hT1.2
      have hT1l := hT.len kb
      refine lv_iconst (v := iI (0)) hx hb d_MD_find_17 rfl ?_
      refine lv_goto (tgt := 22) hx hb d_MD_find_18 (by decide) ?_
      refine pf_MD_31_MD X hw hM.1 rfl rfl d_MD_find_22 (fun H locs hw => ?_)
      obtain ⟨f3, e_f3⟩ : ∃ g9 : dw_M, g9 = dw_up f y (.inr (6, [.int (iI 0), .int (iI ((T.length : Int))), .ref si, .ref un, .int (iI ((B.length : Int))), .ref bu, .int (iI ((M.length : Int))), .ref ma, .int (iI ((Z.length : Int))), .ref bt, .int (iI ((Y.length : Int))), .ref so, .int (iI ((C.length : Int))), .ref co])) := ⟨_, rfl⟩
      rw [← e_f3] at hw
      have hM_f3 : mdS G f3 y 0 (T.length : Int) (B.length : Int) (M.length : Int) (Z.length : Int) (Y.length : Int) (C.length : Int) si un bu ma bt so co gsi gun gbu gma gbt gso gco := by rw [e_f3]; exact hM.obj 0 (T.length : Int) (B.length : Int) (M.length : Int) (Z.length : Int) (Y.length : Int) (C.length : Int)
      refine lv_aload_n hx hb d_MD_find_25 rfl (lv_at hl 0 rfl) ?_
      refine gf_MD_31_MD X hw hM_f3.1 d_MD_find_26 ?_
      refine di_if_le (tgt := 34) hx hb d_MD_find_29 (by decide) ⟨by decide, by decide⟩ (fun _ => ?_) (fun q9 => absurd q9 (by decide))
      refine lv_iconst (v := iI (-1)) hx hb d_MD_find_34 rfl ?_
      refine lv_istore (lv' := [(5, .int (iI ((-1)))), (0, .ref y), (1, .int (iI ka)), (2, .int (iI kb)), (3, .int (iI fr)), (4, .int (iI (b2 lb)))]) hx hb d_MD_find_35 hl (by decide) rfl (fun ls hl => ?_)
      refine lv_iconst (v := iI (0)) hx hb d_MD_find_37 rfl ?_
      refine lv_istore (lv' := [(6, .int (iI 0)), (5, .int (iI ((-1)))), (0, .ref y), (1, .int (iI ka)), (2, .int (iI kb)), (3, .int (iI fr)), (4, .int (iI (b2 lb)))]) hx hb d_MD_find_38 hl (by decide) rfl (fun ls hl => ?_)
      cases lb with
      | false =>
        have loop : ∀ (N : Nat) (k : Int) (fo : Int) (H : Heap) (locs : List Loc) (ls : Array Slot), (((tt T ka).length : Int) + 1 - k).toNat < N → 0 ≤ k → k ≤ ((tt T ka).length : Int) + 1 → -1 ≤ fo ∧ fo ≤ 1000 → (fo = -1 ∧ (∀ p : Int, 0 ≤ p → p < k → fr ≤ p → sta (tt T ka) (tt T kb) p = false) ∨ (0 ≤ fo ∧ fr ≤ fo ∧ fo < k ∧ sta (tt T ka) (tt T kb) fo = true ∧ ∀ p : Int, 0 ≤ p → p < fo → fr ≤ p → sta (tt T ka) (tt T kb) p = false)) → dw G.1 dk_cl (dw_A f sz) s.heap f3 H locs → lv_has ls 8 [(6, .int (iI k)), (5, .int (iI fo)), (0, .ref y), (1, .int (iI ka)), (2, .int (iI kb)), (3, .int (iI fr)), (4, .int (iI (b2 false)))] → W p l e { frames := 2, locals := 47, cells := 0, slots := 0 } s m args below meth c H locs (0) (0) (MQ below (ct_Q G f sz (fun v f' => v = some (.int (iI (sp_find T Y B Z ka kb fr false).2.1)) ∧ mdP G f' y (sp_find T Y B Z ka kb fr false))) args s (0) (0) (dw_A f sz)) (F0 m 40 ls []) := by
          intro N
          induction N with
          | zero => intros; omega
          | succ N ih =>
            intro k fo H locs ls hN hk0 hk1 hfo hinv hw hl
            refine lv_iload hx hb d_MD_find_40 (lv_at hl 0 rfl) ?_
            refine lv_aload_n hx hb d_MD_find_42 rfl (lv_at hl 2 rfl) ?_
            refine gf_MD_7_MD X hw hM_f3.1 d_MD_find_43 ?_
            refine lv_iload_n hx hb d_MD_find_46 rfl (lv_at hl 3 rfl) ?_
            refine dw_iald hx hb X.K hw 0 hM_f3.2.1 rfl (i := ka) (by omega) (by omega) (by omega) (hT.sz hT0) d_MD_find_47 ?_
            refine di_icmp_gt (tgt := 114) hx hb d_MD_find_48 (by decide) ⟨by omega, by omega⟩ ⟨by omega, by omega⟩ (fun bq48 => ?_) (fun bq48 => ?_)
            · refine lv_iload hx hb d_MD_find_114 (lv_at hl 1 rfl) ?_
              have hres : frst (tt T ka) (tt T kb) fr = fo := frst_one hinv (by omega)
              have e9 : sp_find T Y B Z ka kb fr false = (0, fo, T, Y, B, Z) := by rw [sp_find, if_neg (fun q => q ⟨hT0, hT1⟩), if_neg (by decide), hres]
              exact cn_iret hx hb hr hlk hw  (⟨by rw [e9], by rw [e9]; exact mdP_of (M := M) (C := C) ⟨si, un, bu, ma, bt, so, co, _, _, _, _, _, _, _, hM_f3, hT, hB, hZ, hMa, hC, hY⟩⟩) (Nat.le_refl _) (Nat.le_refl _) d_MD_find_116
            · refine lv_iload hx hb d_MD_find_51 (lv_at hl 6 rfl) ?_
              refine di_if_eq (tgt := 70) hx hb d_MD_find_53 (by decide) ⟨by decide, by decide⟩ (fun _ => ?_) (fun q9 => absurd q9 (by decide))
              refine lv_iload hx hb d_MD_find_70 (lv_at hl 0 rfl) ?_
              refine lv_iload_n hx hb d_MD_find_72 rfl (lv_at hl 5 rfl) ?_
              refine di_icmp_lt (tgt := 85) hx hb d_MD_find_73 (by decide) ⟨by omega, by omega⟩ ⟨by omega, by omega⟩ (fun bq73 => ?_) (fun bq73 => ?_)
              · refine lv_iconst (v := iI (0)) hx hb d_MD_find_85 rfl ?_
                refine lv_istore (lv' := [(7, .int (iI 0)), (6, .int (iI k)), (5, .int (iI fo)), (0, .ref y), (1, .int (iI ka)), (2, .int (iI kb)), (3, .int (iI fr)), (4, .int (iI (b2 false)))]) hx hb d_MD_find_86 hl (by decide) rfl (fun ls hl => ?_)
                refine lv_iload hx hb d_MD_find_88 (lv_at hl 0 rfl) ?_
                refine di_if_eq (tgt := 108) hx hb d_MD_find_90 (by decide) ⟨by decide, by decide⟩ (fun _ => ?_) (fun q9 => absurd q9 (by decide))
                refine lv_iinc (v := iI (k + 1)) (lv' := [(6, .int (iI (k + 1))), (7, .int (iI 0)), (5, .int (iI fo)), (0, .ref y), (1, .int (iI ka)), (2, .int (iI kb)), (3, .int (iI fr)), (4, .int (iI (b2 false)))]) hx hb d_MD_find_108 hl (k := 1) rfl (iI_add _ _) (by decide) rfl (fun ls hl => ?_)
                refine lv_goto (tgt := 40) hx hb d_MD_find_111 (by decide) ?_
                exact ih (k + 1) (fo) _ _ _ (by omega) (by omega) (by omega) (by omega) (hinv.imp (fun q => ⟨q.1, fun p h0 h1 h2 => q.2 p h0 (by omega) h2⟩) (fun q => ⟨q.1, q.2.1, by omega, q.2.2.2⟩)) hw (lv_sub hl [0, 2, 3, 4, 5, 6, 7] rfl)
              · refine lv_iload hx hb d_MD_find_76 (lv_at hl 1 rfl) ?_
                refine di_if_ge (tgt := 85) hx hb d_MD_find_78 (by decide) ⟨by omega, by omega⟩ (fun bq78 => ?_) (fun bq78 => ?_)
                · refine lv_iconst (v := iI (0)) hx hb d_MD_find_85 rfl ?_
                  refine lv_istore (lv' := [(7, .int (iI 0)), (6, .int (iI k)), (5, .int (iI fo)), (0, .ref y), (1, .int (iI ka)), (2, .int (iI kb)), (3, .int (iI fr)), (4, .int (iI (b2 false)))]) hx hb d_MD_find_86 hl (by decide) rfl (fun ls hl => ?_)
                  refine lv_iload hx hb d_MD_find_88 (lv_at hl 0 rfl) ?_
                  refine di_if_eq (tgt := 108) hx hb d_MD_find_90 (by decide) ⟨by decide, by decide⟩ (fun _ => ?_) (fun q9 => absurd q9 (by decide))
                  refine lv_iinc (v := iI (k + 1)) (lv' := [(6, .int (iI (k + 1))), (7, .int (iI 0)), (5, .int (iI fo)), (0, .ref y), (1, .int (iI ka)), (2, .int (iI kb)), (3, .int (iI fr)), (4, .int (iI (b2 false)))]) hx hb d_MD_find_108 hl (k := 1) rfl (iI_add _ _) (by decide) rfl (fun ls hl => ?_)
                  refine lv_goto (tgt := 40) hx hb d_MD_find_111 (by decide) ?_
                  exact ih (k + 1) (fo) _ _ _ (by omega) (by omega) (by omega) (by omega) (hinv.elim (fun q => by omega) (fun q => Or.inr ⟨q.1, q.2.1, by omega, q.2.2.2⟩)) hw (lv_sub hl [0, 2, 3, 4, 5, 6, 7] rfl)
                · refine lv_iconst (v := iI (1)) hx hb d_MD_find_81 rfl ?_
                  refine lv_goto (tgt := 86) hx hb d_MD_find_82 (by decide) ?_
                  refine lv_istore (lv' := [(7, .int (iI 1)), (6, .int (iI k)), (5, .int (iI fo)), (0, .ref y), (1, .int (iI ka)), (2, .int (iI kb)), (3, .int (iI fr)), (4, .int (iI (b2 false)))]) hx hb d_MD_find_86 hl (by decide) rfl (fun ls hl => ?_)
                  refine lv_iload hx hb d_MD_find_88 (lv_at hl 0 rfl) ?_
                  refine di_if_eq (tgt := 108) hx hb d_MD_find_90 (by decide) ⟨by decide, by decide⟩ (fun q9 => absurd q9 (by decide)) (fun _ => ?_)
                  refine lv_aload_n hx hb d_MD_find_93 rfl (lv_at hl 3 rfl) ?_
                  refine lv_iload_n hx hb d_MD_find_94 rfl (lv_at hl 4 rfl) ?_
                  refine lv_iload_n hx hb d_MD_find_95 rfl (lv_at hl 5 rfl) ?_
                  refine lv_iload hx hb d_MD_find_96 (lv_at hl 1 rfl) ?_
                  refine cs_MD_82 X hz hw hl.1 hM_f3.1 (c_MD_stands l G f3 _ y 0 T Y B Z M C ka kb k hT0 hT1 ⟨by omega, by omega⟩ ⟨si, un, bu, ma, bt, so, co, _, _, _, _, _, _, _, hM_f3, hT, hB, hZ, hMa, hC, hY⟩) ⟨Nat.le_of_ble_eq_true rfl, Nat.le_of_ble_eq_true rfl⟩ ⟨by show 0 + 0 ≤ 0; omega, by show 0 + 0 ≤ 0; omega⟩ (Nat.le_of_ble_eq_true rfl) d_MD_find_98 (fun v f9 H locs hp hw hsz9 hkp9 hdm9 => ?_)
                  obtain ⟨rfl, hfe⟩ := hp
                  rw [hfe] at hw
                  refine W.eq (g2 := F0 m 101 ls [.int (iI (b2 (sta (tt T ka) (tt T kb) k)))]) rfl ?_
                  have hb01 := b2_01 (sta (tt T ka) (tt T kb) k)
                  refine di_if_eq (tgt := 108) hx hb d_MD_find_101 (by decide) ⟨by omega, by omega⟩ (fun bq101 => ?_) (fun bq101 => ?_)
                  · have hns := b2_0 bq101
                    refine lv_iinc (v := iI (k + 1)) (lv' := [(6, .int (iI (k + 1))), (7, .int (iI 1)), (5, .int (iI fo)), (0, .ref y), (1, .int (iI ka)), (2, .int (iI kb)), (3, .int (iI fr)), (4, .int (iI (b2 false)))]) hx hb d_MD_find_108 hl (k := 1) rfl (iI_add _ _) (by decide) rfl (fun ls hl => ?_)
                    refine lv_goto (tgt := 40) hx hb d_MD_find_111 (by decide) ?_
                    exact ih (k + 1) (fo) _ _ _ (by omega) (by omega) (by omega) (by omega) (hinv.imp (fun q => ⟨q.1, fun p h0 h1 h2 => by
                      by_cases e9 : p = k
                      · rw [e9]; exact hns
                      · exact q.2 p h0 (by omega) h2⟩) (fun q => ⟨q.1, q.2.1, by omega, q.2.2.2⟩)) hw (lv_sub hl [0, 2, 3, 4, 5, 6, 7] rfl)
                  · have hss := b2_1 bq101
                    refine lv_iload hx hb d_MD_find_104 (lv_at hl 1 rfl) ?_
                    refine lv_istore (lv' := [(5, .int (iI k)), (7, .int (iI 1)), (6, .int (iI k)), (0, .ref y), (1, .int (iI ka)), (2, .int (iI kb)), (3, .int (iI fr)), (4, .int (iI (b2 false)))]) hx hb d_MD_find_106 hl (by decide) rfl (fun ls hl => ?_)
                    refine lv_iinc (v := iI (k + 1)) (lv' := [(6, .int (iI (k + 1))), (5, .int (iI k)), (7, .int (iI 1)), (0, .ref y), (1, .int (iI ka)), (2, .int (iI kb)), (3, .int (iI fr)), (4, .int (iI (b2 false)))]) hx hb d_MD_find_108 hl (k := 2) rfl (iI_add _ _) (by decide) rfl (fun ls hl => ?_)
                    refine lv_goto (tgt := 40) hx hb d_MD_find_111 (by decide) ?_
                    exact ih (k + 1) (k) _ _ _ (by omega) (by omega) (by omega) (by omega) (Or.inr ⟨by omega, by omega, by omega, hss, hinv.elim (fun q p h0 h1 h2 => q.2 p h0 h1 h2) (fun q => by omega)⟩) hw (lv_sub hl [0, 1, 3, 4, 5, 6, 7] rfl)
        exact loop ((((tt T ka).length : Int) + 1 - 0).toNat + 1) (0) (-1) _ _ _ (by omega) (by omega) (by omega) (by omega) (Or.inl ⟨rfl, fun p h0 h1 h2 => by omega⟩) hw (lv_sub hl [0, 1, 2, 3, 4, 5, 6] rfl)
      | true =>
        have loop : ∀ (N : Nat) (k : Int) (fo : Int) (H : Heap) (locs : List Loc) (ls : Array Slot), (((tt T ka).length : Int) + 1 - k).toNat < N → 0 ≤ k → k ≤ ((tt T ka).length : Int) + 1 → -1 ≤ fo ∧ fo ≤ 1000 → (fo = -1 ∧ (∀ p : Int, 0 ≤ p → p < k → p ≤ fr → sta (tt T ka) (tt T kb) p = false) ∨ (0 ≤ fo ∧ fo ≤ fr ∧ fo < k ∧ sta (tt T ka) (tt T kb) fo = true ∧ ∀ p : Int, fo < p → p < k → p ≤ fr → sta (tt T ka) (tt T kb) p = false)) → dw G.1 dk_cl (dw_A f sz) s.heap f3 H locs → lv_has ls 8 [(6, .int (iI k)), (5, .int (iI fo)), (0, .ref y), (1, .int (iI ka)), (2, .int (iI kb)), (3, .int (iI fr)), (4, .int (iI (b2 true)))] → W p l e { frames := 2, locals := 47, cells := 0, slots := 0 } s m args below meth c H locs (0) (0) (MQ below (ct_Q G f sz (fun v f' => v = some (.int (iI (sp_find T Y B Z ka kb fr true).2.1)) ∧ mdP G f' y (sp_find T Y B Z ka kb fr true))) args s (0) (0) (dw_A f sz)) (F0 m 40 ls []) := by
          intro N
          induction N with
          | zero => intros; omega
          | succ N ih =>
            intro k fo H locs ls hN hk0 hk1 hfo hinv hw hl
            refine lv_iload hx hb d_MD_find_40 (lv_at hl 0 rfl) ?_
            refine lv_aload_n hx hb d_MD_find_42 rfl (lv_at hl 2 rfl) ?_
            refine gf_MD_7_MD X hw hM_f3.1 d_MD_find_43 ?_
            refine lv_iload_n hx hb d_MD_find_46 rfl (lv_at hl 3 rfl) ?_
            refine dw_iald hx hb X.K hw 0 hM_f3.2.1 rfl (i := ka) (by omega) (by omega) (by omega) (hT.sz hT0) d_MD_find_47 ?_
            refine di_icmp_gt (tgt := 114) hx hb d_MD_find_48 (by decide) ⟨by omega, by omega⟩ ⟨by omega, by omega⟩ (fun bq48 => ?_) (fun bq48 => ?_)
            · refine lv_iload hx hb d_MD_find_114 (lv_at hl 1 rfl) ?_
              have hres : last (tt T ka) (tt T kb) fr = fo := last_one hinv (by omega)
              have e9 : sp_find T Y B Z ka kb fr true = (0, fo, T, Y, B, Z) := by rw [sp_find, if_neg (fun q => q ⟨hT0, hT1⟩), if_pos rfl, hres]
              exact cn_iret hx hb hr hlk hw  (⟨by rw [e9], by rw [e9]; exact mdP_of (M := M) (C := C) ⟨si, un, bu, ma, bt, so, co, _, _, _, _, _, _, _, hM_f3, hT, hB, hZ, hMa, hC, hY⟩⟩) (Nat.le_refl _) (Nat.le_refl _) d_MD_find_116
            · refine lv_iload hx hb d_MD_find_51 (lv_at hl 6 rfl) ?_
              refine di_if_eq (tgt := 70) hx hb d_MD_find_53 (by decide) ⟨by decide, by decide⟩ (fun q9 => absurd q9 (by decide)) (fun _ => ?_)
              refine lv_iload hx hb d_MD_find_56 (lv_at hl 0 rfl) ?_
              refine lv_iload_n hx hb d_MD_find_58 rfl (lv_at hl 5 rfl) ?_
              refine di_icmp_gt (tgt := 66) hx hb d_MD_find_59 (by decide) ⟨by omega, by omega⟩ ⟨by omega, by omega⟩ (fun bq59 => ?_) (fun bq59 => ?_)
              · refine lv_iconst (v := iI (0)) hx hb d_MD_find_66 rfl ?_
                refine lv_goto (tgt := 86) hx hb d_MD_find_67 (by decide) ?_
                refine lv_istore (lv' := [(7, .int (iI 0)), (6, .int (iI k)), (5, .int (iI fo)), (0, .ref y), (1, .int (iI ka)), (2, .int (iI kb)), (3, .int (iI fr)), (4, .int (iI (b2 true)))]) hx hb d_MD_find_86 hl (by decide) rfl (fun ls hl => ?_)
                refine lv_iload hx hb d_MD_find_88 (lv_at hl 0 rfl) ?_
                refine di_if_eq (tgt := 108) hx hb d_MD_find_90 (by decide) ⟨by decide, by decide⟩ (fun _ => ?_) (fun q9 => absurd q9 (by decide))
                refine lv_iinc (v := iI (k + 1)) (lv' := [(6, .int (iI (k + 1))), (7, .int (iI 0)), (5, .int (iI fo)), (0, .ref y), (1, .int (iI ka)), (2, .int (iI kb)), (3, .int (iI fr)), (4, .int (iI (b2 true)))]) hx hb d_MD_find_108 hl (k := 1) rfl (iI_add _ _) (by decide) rfl (fun ls hl => ?_)
                refine lv_goto (tgt := 40) hx hb d_MD_find_111 (by decide) ?_
                exact ih (k + 1) (fo) _ _ _ (by omega) (by omega) (by omega) (by omega) (hinv.imp (fun q => ⟨q.1, fun p h0 h1 h2 => q.2 p h0 (by omega) h2⟩) (fun q => ⟨q.1, q.2.1, by omega, q.2.2.2.1, fun p h0 h1 h2 => q.2.2.2.2 p h0 (by omega) h2⟩)) hw (lv_sub hl [0, 2, 3, 4, 5, 6, 7] rfl)
              · refine lv_iconst (v := iI (1)) hx hb d_MD_find_62 rfl ?_
                refine lv_goto (tgt := 86) hx hb d_MD_find_63 (by decide) ?_
                refine lv_istore (lv' := [(7, .int (iI 1)), (6, .int (iI k)), (5, .int (iI fo)), (0, .ref y), (1, .int (iI ka)), (2, .int (iI kb)), (3, .int (iI fr)), (4, .int (iI (b2 true)))]) hx hb d_MD_find_86 hl (by decide) rfl (fun ls hl => ?_)
                refine lv_iload hx hb d_MD_find_88 (lv_at hl 0 rfl) ?_
                refine di_if_eq (tgt := 108) hx hb d_MD_find_90 (by decide) ⟨by decide, by decide⟩ (fun q9 => absurd q9 (by decide)) (fun _ => ?_)
                refine lv_aload_n hx hb d_MD_find_93 rfl (lv_at hl 3 rfl) ?_
                refine lv_iload_n hx hb d_MD_find_94 rfl (lv_at hl 4 rfl) ?_
                refine lv_iload_n hx hb d_MD_find_95 rfl (lv_at hl 5 rfl) ?_
                refine lv_iload hx hb d_MD_find_96 (lv_at hl 1 rfl) ?_
                refine cs_MD_82 X hz hw hl.1 hM_f3.1 (c_MD_stands l G f3 _ y 0 T Y B Z M C ka kb k hT0 hT1 ⟨by omega, by omega⟩ ⟨si, un, bu, ma, bt, so, co, _, _, _, _, _, _, _, hM_f3, hT, hB, hZ, hMa, hC, hY⟩) ⟨Nat.le_of_ble_eq_true rfl, Nat.le_of_ble_eq_true rfl⟩ ⟨by show 0 + 0 ≤ 0; omega, by show 0 + 0 ≤ 0; omega⟩ (Nat.le_of_ble_eq_true rfl) d_MD_find_98 (fun v f9 H locs hp hw hsz9 hkp9 hdm9 => ?_)
                obtain ⟨rfl, hfe⟩ := hp
                rw [hfe] at hw
                refine W.eq (g2 := F0 m 101 ls [.int (iI (b2 (sta (tt T ka) (tt T kb) k)))]) rfl ?_
                have hb01 := b2_01 (sta (tt T ka) (tt T kb) k)
                refine di_if_eq (tgt := 108) hx hb d_MD_find_101 (by decide) ⟨by omega, by omega⟩ (fun bq101 => ?_) (fun bq101 => ?_)
                · have hns := b2_0 bq101
                  refine lv_iinc (v := iI (k + 1)) (lv' := [(6, .int (iI (k + 1))), (7, .int (iI 1)), (5, .int (iI fo)), (0, .ref y), (1, .int (iI ka)), (2, .int (iI kb)), (3, .int (iI fr)), (4, .int (iI (b2 true)))]) hx hb d_MD_find_108 hl (k := 1) rfl (iI_add _ _) (by decide) rfl (fun ls hl => ?_)
                  refine lv_goto (tgt := 40) hx hb d_MD_find_111 (by decide) ?_
                  exact ih (k + 1) (fo) _ _ _ (by omega) (by omega) (by omega) (by omega) (hinv.imp (fun q => ⟨q.1, fun p h0 h1 h2 => by
                    by_cases e9 : p = k
                    · rw [e9]; exact hns
                    · exact q.2 p h0 (by omega) h2⟩) (fun q => ⟨q.1, q.2.1, by omega, q.2.2.2.1, fun p h0 h1 h2 => by
                    by_cases e9 : p = k
                    · rw [e9]; exact hns
                    · exact q.2.2.2.2 p h0 (by omega) h2⟩)) hw (lv_sub hl [0, 2, 3, 4, 5, 6, 7] rfl)
                · have hss := b2_1 bq101
                  refine lv_iload hx hb d_MD_find_104 (lv_at hl 1 rfl) ?_
                  refine lv_istore (lv' := [(5, .int (iI k)), (7, .int (iI 1)), (6, .int (iI k)), (0, .ref y), (1, .int (iI ka)), (2, .int (iI kb)), (3, .int (iI fr)), (4, .int (iI (b2 true)))]) hx hb d_MD_find_106 hl (by decide) rfl (fun ls hl => ?_)
                  refine lv_iinc (v := iI (k + 1)) (lv' := [(6, .int (iI (k + 1))), (5, .int (iI k)), (7, .int (iI 1)), (0, .ref y), (1, .int (iI ka)), (2, .int (iI kb)), (3, .int (iI fr)), (4, .int (iI (b2 true)))]) hx hb d_MD_find_108 hl (k := 2) rfl (iI_add _ _) (by decide) rfl (fun ls hl => ?_)
                  refine lv_goto (tgt := 40) hx hb d_MD_find_111 (by decide) ?_
                  exact ih (k + 1) (k) _ _ _ (by omega) (by omega) (by omega) (by omega) (Or.inr ⟨by omega, by omega, by omega, hss, fun p h0 h1 h2 => by omega⟩) hw (lv_sub hl [0, 1, 3, 4, 5, 6, 7] rfl)
        exact loop ((((tt T ka).length : Int) + 1 - 0).toNat + 1) (0) (-1) _ _ _ (by omega) (by omega) (by omega) (by omega) (Or.inl ⟨rfl, fun p h0 h1 h2 => by omega⟩) hw (lv_sub hl [0, 1, 2, 3, 4, 5, 6] rfl)
set_option maxRecDepth 100000 in
set_option maxHeartbeats 4000000 in
theorem c_MD_symbol (l : Launch) (G : ct_G) (f : dw_M) (sz : Nat) (y : Nat) (th : Int) (T Y : List (List Int)) (B Z M C : List Int) (k0 : Int) (hk0 : iR k0) (hL : mdL G f y th T Y B Z M C) : cn l y_MD_symbol w_MD_symbol (2) (45) G f sz [.ref y, .int (iI k0)] (fun v f' => v = some (.int (iI (sp_symbol T Y B Z k0).2.1)) ∧ mdP G f' y (sp_symbol T Y B Z k0)) (0) (0) := by
  refine cn_of (own := "TextDeskModel") (nm := "symbol") (ds := "(I)I") (by decide) (Nat.le_of_ble_eq_true rfl) ?_
  intro p e s m args below meth c ls X hnm hr hlk hs0 hz hw hl
  have hx := X.1
  have hb := X.2.1
  have hl : lv_has ls 4 [(0, .ref y), (1, .int (iI k0))] := hl
  obtain ⟨si, un, bu, ma, bt, so, co, gsi, gun, gbu, gma, gbt, gso, gco, hM, hT, hB, hZ, hMa, hC, hY⟩ := id hL
  have hTl := hT.1
  have hBl := hB.1.1
  have hZl := hZ.1.1
  have hYl := hY.1
  have hCl := hC.1
  obtain ⟨hk00, hk01⟩ := hk0
  refine lv_aload_n hx hb d_MD_symbol_0 rfl (lv_at hl 0 rfl) ?_
  refine lv_aload_n hx hb d_MD_symbol_1 rfl (lv_at hl 0 rfl) ?_
  refine lv_iload_n hx hb d_MD_symbol_2 rfl (lv_at hl 1 rfl) ?_
  refine cs_MD_71 X hz hw hl.1 hM.1 (c_MD_isText l G f _ y th T Y B Z M C k0 ⟨by omega, by omega⟩ ⟨si, un, bu, ma, bt, so, co, _, _, _, _, _, _, _, hM, hT, hB, hZ, hMa, hC, hY⟩) ⟨Nat.le_of_ble_eq_true rfl, Nat.le_of_ble_eq_true rfl⟩ ⟨by show 0 + 0 ≤ 0; omega, by show 0 + 0 ≤ 0; omega⟩ (Nat.le_of_ble_eq_true rfl) d_MD_symbol_3 (fun v f9 H locs hp hw hsz9 hkp9 hdm9 => ?_)
  obtain ⟨rfl, hfe⟩ := hp
  rw [hfe] at hw
  refine W.eq (g2 := F0 m 6 ls [.int (iI (b2 (decide (isT T k0)))), .ref y]) rfl ?_
  have hbt0 := b2_01 (decide (isT T k0))
  refine di_if_eq (tgt := 13) hx hb d_MD_symbol_6 (by decide) ⟨by omega, by omega⟩ (fun bq6 => ?_) (fun bq6 => ?_)
  · have nT : ¬ isT T k0 := of_decide_eq_false (b2_0 (by omega))
    refine lv_iconst (v := iI (1)) hx hb d_MD_symbol_13 rfl ?_
    refine pf_MD_31_MD X hw hM.1 rfl rfl d_MD_symbol_14 (fun H locs hw => ?_)
    obtain ⟨f1, e_f1⟩ : ∃ g9 : dw_M, g9 = dw_up f y (.inr (6, [.int (iI 1), .int (iI ((T.length : Int))), .ref si, .ref un, .int (iI ((B.length : Int))), .ref bu, .int (iI ((M.length : Int))), .ref ma, .int (iI ((Z.length : Int))), .ref bt, .int (iI ((Y.length : Int))), .ref so, .int (iI ((C.length : Int))), .ref co])) := ⟨_, rfl⟩
    rw [← e_f1] at hw
    have hM_f1 : mdS G f1 y 1 (T.length : Int) (B.length : Int) (M.length : Int) (Z.length : Int) (Y.length : Int) (C.length : Int) si un bu ma bt so co gsi gun gbu gma gbt gso gco := by rw [e_f1]; exact hM.obj 1 (T.length : Int) (B.length : Int) (M.length : Int) (Z.length : Int) (Y.length : Int) (C.length : Int)
    refine lv_aload_n hx hb d_MD_symbol_17 rfl (lv_at hl 0 rfl) ?_
    refine gf_MD_31_MD X hw hM_f1.1 d_MD_symbol_18 ?_
    refine di_if_le (tgt := 26) hx hb d_MD_symbol_21 (by decide) ⟨by decide, by decide⟩ (fun q9 => absurd q9 (by decide)) (fun _ => ?_)
    refine lv_iconst (v := iI (0)) hx hb d_MD_symbol_24 rfl ?_
    have e9 : sp_symbol T Y B Z k0 = (1, 0, T, Y, B, Z) := by rw [sp_symbol, if_pos (fun q => nT q)]
    exact cn_iret hx hb hr hlk hw  (⟨by rw [e9], by rw [e9]; exact mdP_of (M := M) (C := C) ⟨si, un, bu, ma, bt, so, co, _, _, _, _, _, _, _, hM_f1, hT, hB, hZ, hMa, hC, hY⟩⟩) (Nat.le_refl _) (Nat.le_refl _) d_MD_symbol_25
  · have hT0 : isT T k0 := of_decide_eq_true (b2_1 (by omega))
    have hT0a := hT0.1
    have hT0b := hT0.2
    have hT0l := hT.len k0
    refine lv_iconst (v := iI (0)) hx hb d_MD_symbol_9 rfl ?_
    refine lv_goto (tgt := 14) hx hb d_MD_symbol_10 (by decide) ?_
    refine pf_MD_31_MD X hw hM.1 rfl rfl d_MD_symbol_14 (fun H locs hw => ?_)
    obtain ⟨f2, e_f2⟩ : ∃ g9 : dw_M, g9 = dw_up f y (.inr (6, [.int (iI 0), .int (iI ((T.length : Int))), .ref si, .ref un, .int (iI ((B.length : Int))), .ref bu, .int (iI ((M.length : Int))), .ref ma, .int (iI ((Z.length : Int))), .ref bt, .int (iI ((Y.length : Int))), .ref so, .int (iI ((C.length : Int))), .ref co])) := ⟨_, rfl⟩
    rw [← e_f2] at hw
    have hM_f2 : mdS G f2 y 0 (T.length : Int) (B.length : Int) (M.length : Int) (Z.length : Int) (Y.length : Int) (C.length : Int) si un bu ma bt so co gsi gun gbu gma gbt gso gco := by rw [e_f2]; exact hM.obj 0 (T.length : Int) (B.length : Int) (M.length : Int) (Z.length : Int) (Y.length : Int) (C.length : Int)
    refine lv_aload_n hx hb d_MD_symbol_17 rfl (lv_at hl 0 rfl) ?_
    refine gf_MD_31_MD X hw hM_f2.1 d_MD_symbol_18 ?_
    refine di_if_le (tgt := 26) hx hb d_MD_symbol_21 (by decide) ⟨by decide, by decide⟩ (fun _ => ?_) (fun q9 => absurd q9 (by decide))
    refine lv_iconst (v := iI (0)) hx hb d_MD_symbol_26 rfl ?_
    refine lv_istore_n (lv' := [(2, .int (iI 0)), (0, .ref y), (1, .int (iI k0))]) hx hb d_MD_symbol_27 rfl hl (by decide) rfl (fun ls hl => ?_)
    have loop : ∀ (N : Nat) (k : Int) (H : Heap) (locs : List Loc) (ls : Array Slot), ((Y.length : Int) - k).toNat < N → 0 ≤ k → k ≤ (Y.length : Int) → (∀ i : Nat, i < k.toNat → Y.getD i [] ≠ (tt T k0)) → dw G.1 dk_cl (dw_A f sz) s.heap f2 H locs → lv_has ls 4 [(2, .int (iI k)), (0, .ref y), (1, .int (iI k0))] → W p l e { frames := 2, locals := 45, cells := 0, slots := 0 } s m args below meth c H locs (0) (0) (MQ below (ct_Q G f sz (fun v f' => v = some (.int (iI (sp_symbol T Y B Z k0).2.1)) ∧ mdP G f' y (sp_symbol T Y B Z k0))) args s (0) (0) (dw_A f sz)) (F0 m 28 ls []) := by
      intro N
      induction N with
      | zero => intros; omega
      | succ N ih =>
        intro k H locs ls hN hk0 hk1 hall hw hl
        refine lv_iload_n hx hb d_MD_symbol_28 rfl (lv_at hl 0 rfl) ?_
        refine lv_aload_n hx hb d_MD_symbol_29 rfl (lv_at hl 1 rfl) ?_
        refine gf_MD_96_MD X hw hM_f2.1 d_MD_symbol_30 ?_
        refine di_icmp_ge (tgt := 75) hx hb d_MD_symbol_33 (by decide) ⟨by omega, by omega⟩ ⟨by omega, by omega⟩ (fun bq33 => ?_) (fun bq33 => ?_)
        · have hno : ∀ i, i < Y.length → Y.getD i [] ≠ (tt T k0) := fun i hi => hall i (by omega)
          have hsi := sidx_no hno
          refine lv_aload_n hx hb d_MD_symbol_75 rfl (lv_at hl 1 rfl) ?_
          refine gf_MD_96_MD X hw hM_f2.1 d_MD_symbol_76 ?_
          refine lv_bipush (v := iI (16)) hx hb d_MD_symbol_79 rfl ?_
          refine di_icmp_ne (tgt := 90) hx hb d_MD_symbol_81 (by decide) ⟨by omega, by omega⟩ ⟨by omega, by omega⟩ (fun bq81 => ?_) (fun bq81 => ?_)
          · have el : (((Y ++ [(tt T k0)]).length : Nat) : Int) = (Y.length : Int) + 1 := by simp
            refine lv_aload_n hx hb d_MD_symbol_90 rfl (lv_at hl 1 rfl) ?_
            refine gf_MD_25_MD X hw hM_f2.1 d_MD_symbol_91 ?_
            refine lv_aload_n hx hb d_MD_symbol_94 rfl (lv_at hl 1 rfl) ?_
            refine gf_MD_96_MD X hw hM_f2.1 d_MD_symbol_95 ?_
            refine lv_iload_n hx hb d_MD_symbol_98 rfl (lv_at hl 2 rfl) ?_
            refine dw_iast hx hb X.K hw 0 hM_f2.2.2.2.2.2.2.1 rfl (i := (Y.length : Int)) (by omega) (by omega) (by omega) d_MD_symbol_99 (fun H locs hw => ?_)
            obtain ⟨f3, e_f3⟩ : ∃ g9 : dw_M, g9 = dw_up f2 so (.inl (G.2.1 0, 16, .inl (upd gso ((Y.length : Int)).toNat (iI (k0))))) := ⟨_, rfl⟩
            rw [← e_f3] at hw
            have hM_f3 : mdS G f3 y 0 (T.length : Int) (B.length : Int) (M.length : Int) (Z.length : Int) (Y.length : Int) (C.length : Int) si un bu ma bt so co gsi gun gbu gma gbt (upd gso ((Y.length : Int)).toNat (iI (k0))) gco := by rw [e_f3]; exact hM_f2.w_so _
            refine lv_aload_n hx hb d_MD_symbol_100 rfl (lv_at hl 1 rfl) ?_
            refine lv_dup hx hb d_MD_symbol_101 rfl ?_
            refine gf_MD_96_MD X hw hM_f3.1 d_MD_symbol_102 ?_
            refine lv_iconst (v := iI (1)) hx hb d_MD_symbol_105 rfl ?_
            refine di_add hx hb d_MD_symbol_106 ?_
            refine pf_MD_96_MD X hw hM_f3.1 rfl rfl d_MD_symbol_107 (fun H locs hw => ?_)
            obtain ⟨f4, e_f4⟩ : ∃ g9 : dw_M, g9 = dw_up f3 y (.inr (6, [.int (iI 0), .int (iI ((T.length : Int))), .ref si, .ref un, .int (iI ((B.length : Int))), .ref bu, .int (iI ((M.length : Int))), .ref ma, .int (iI ((Z.length : Int))), .ref bt, .int (iI ((Y.length : Int) + 1)), .ref so, .int (iI ((C.length : Int))), .ref co])) := ⟨_, rfl⟩
            rw [← e_f4] at hw
            have hM_f4 : mdS G f4 y 0 (T.length : Int) (B.length : Int) (M.length : Int) (Z.length : Int) ((Y.length : Int) + 1) (C.length : Int) si un bu ma bt so co gsi gun gbu gma gbt (upd gso ((Y.length : Int)).toNat (iI (k0))) gco := by rw [e_f4]; exact hM_f3.obj 0 (T.length : Int) (B.length : Int) (M.length : Int) (Z.length : Int) ((Y.length : Int) + 1) (C.length : Int)
            refine lv_aload_n hx hb d_MD_symbol_110 rfl (lv_at hl 1 rfl) ?_
            refine gf_MD_96_MD X hw hM_f4.1 d_MD_symbol_111 ?_
            refine lv_iconst (v := iI (1)) hx hb d_MD_symbol_114 rfl ?_
            refine di_sub hx hb d_MD_symbol_115 ?_
            have hans : (Y.length : Int) + 1 - 1 = (Y.length : Int) := by omega
            have e9 : sp_symbol T Y B Z k0 = (0, (Y.length : Int), T, Y ++ [(tt T k0)], B, Z) := by rw [sp_symbol, if_neg (fun q => q hT0), hsi, if_neg (by omega), if_neg (by omega)]
            exact cn_iret hx hb hr hlk hw  (⟨by rw [e9]; rw [hans], by rw [e9]; exact mdP_of (M := M) (C := C) ⟨si, un, bu, ma, bt, so, co, _, _, _, _, _, _, _, (by rw [el]; exact hM_f4), hT, hB, hZ, hMa, hC, (hY.add hT0 (by omega))⟩⟩) (Nat.le_refl _) (Nat.le_refl _) d_MD_symbol_116
          · refine lv_aload_n hx hb d_MD_symbol_84 rfl (lv_at hl 1 rfl) ?_
            refine lv_iconst (v := iI (2)) hx hb d_MD_symbol_85 rfl ?_
            refine cs_MD_86 X hz hw hl.1 hM_f2.1 (c_MD_fail l G f2 _ y 0 T Y B Z M C 2 ⟨si, un, bu, ma, bt, so, co, _, _, _, _, _, _, _, hM_f2, hT, hB, hZ, hMa, hC, hY⟩) ⟨Nat.le_of_ble_eq_true rfl, Nat.le_of_ble_eq_true rfl⟩ ⟨by show 0 + 0 ≤ 0; omega, by show 0 + 0 ≤ 0; omega⟩ (Nat.le_of_ble_eq_true rfl) d_MD_symbol_86 (fun v f9 H locs hp hw hsz9 hkp9 hdm9 => ?_)
            obtain ⟨rfl, hL_f9⟩ := hp
            refine W.eq (g2 := F0 m 89 ls [.int (iI 0)]) rfl ?_
            obtain ⟨si, un, bu, ma, bt, so, co, gsi, gun, gbu, gma, gbt, gso, gco, hM, hT, hB, hZ, hMa, hC, hY⟩ := id hL_f9
            have e9 : sp_symbol T Y B Z k0 = (2, 0, T, Y, B, Z) := by rw [sp_symbol, if_neg (fun q => q hT0), hsi, if_neg (by omega), if_pos (by omega)]
            exact cn_iret hx hb hr hlk hw  (⟨by rw [e9], by rw [e9]; exact mdP_of (M := M) (C := C) ⟨si, un, bu, ma, bt, so, co, _, _, _, _, _, _, _, hM, hT, hB, hZ, hMa, hC, hY⟩⟩) (Nat.le_refl _) (Nat.le_refl _) d_MD_symbol_89
        · obtain ⟨jj, hj1, hj2, hj3⟩ := hY.2 k.toNat (by omega)
          have hTj : isT T (jj : Int) := ⟨by omega, by omega⟩
          have hjl := hT.len (jj : Int)
          have htj : tt T (jj : Int) = Y.getD k.toNat [] := by rw [← hj3]; rfl
          refine lv_aload_n hx hb d_MD_symbol_36 rfl (lv_at hl 1 rfl) ?_
          refine gf_MD_25_MD X hw hM_f2.1 d_MD_symbol_37 ?_
          refine lv_iload_n hx hb d_MD_symbol_40 rfl (lv_at hl 0 rfl) ?_
          refine dw_iald hx hb X.K hw 0 hM_f2.2.2.2.2.2.2.1 rfl (i := k) (by omega) (by omega) (by omega) (hj2) d_MD_symbol_41 ?_
          refine lv_istore_n (lv' := [(3, .int (iI ((jj : Int)))), (2, .int (iI k)), (0, .ref y), (1, .int (iI k0))]) hx hb d_MD_symbol_42 rfl hl (by decide) rfl (fun ls hl => ?_)
          refine lv_aload_n hx hb d_MD_symbol_43 rfl (lv_at hl 2 rfl) ?_
          refine gf_MD_7_MD X hw hM_f2.1 d_MD_symbol_44 ?_
          refine lv_iload_n hx hb d_MD_symbol_47 rfl (lv_at hl 0 rfl) ?_
          refine dw_iald hx hb X.K hw 0 hM_f2.2.1 rfl (i := (jj : Int)) (by omega) (by omega) (by omega) (hT.sz hTj) d_MD_symbol_48 ?_
          refine lv_aload_n hx hb d_MD_symbol_49 rfl (lv_at hl 2 rfl) ?_
          refine gf_MD_7_MD X hw hM_f2.1 d_MD_symbol_50 ?_
          refine lv_iload_n hx hb d_MD_symbol_53 rfl (lv_at hl 3 rfl) ?_
          refine dw_iald hx hb X.K hw 0 hM_f2.2.1 rfl (i := k0) (by omega) (by omega) (by omega) (hT.sz hT0) d_MD_symbol_54 ?_
          refine di_icmp_ne (tgt := 69) hx hb d_MD_symbol_55 (by decide) ⟨by omega, by omega⟩ ⟨by omega, by omega⟩ (fun bq55 => ?_) (fun bq55 => ?_)
          · refine lv_iinc (v := iI (k + 1)) (lv' := [(2, .int (iI (k + 1))), (3, .int (iI ((jj : Int)))), (0, .ref y), (1, .int (iI k0))]) hx hb d_MD_symbol_69 hl (k := 1) rfl (iI_add _ _) (by decide) rfl (fun ls hl => ?_)
            refine lv_goto (tgt := 28) hx hb d_MD_symbol_72 (by decide) ?_
            exact ih (k + 1) _ _ _ (by omega) (by omega) (by omega) (fun i hi => by
              by_cases q : i = k.toNat
              · rw [q, ← htj]; exact fun e9 => by rw [e9] at bq55; exact bq55 rfl
              · exact hall i (by omega)) hw (lv_sub hl [0, 2, 3] rfl)
          · have hdr := dif_rng (hT.rng (jj : Int)) (hT.rng k0) hjl hT0l
            refine lv_aload_n hx hb d_MD_symbol_58 rfl (lv_at hl 2 rfl) ?_
            refine lv_iload_n hx hb d_MD_symbol_59 rfl (lv_at hl 0 rfl) ?_
            refine lv_iload_n hx hb d_MD_symbol_60 rfl (lv_at hl 3 rfl) ?_
            refine cs_MD_93 X hz hw hl.1 hM_f2.1 (c_MD_difference l G f2 _ y 0 T Y B Z M C (jj : Int) k0 hTj hT0 ⟨si, un, bu, ma, bt, so, co, _, _, _, _, _, _, _, hM_f2, hT, hB, hZ, hMa, hC, hY⟩) ⟨Nat.le_of_ble_eq_true rfl, Nat.le_of_ble_eq_true rfl⟩ ⟨by show 0 + 0 ≤ 0; omega, by show 0 + 0 ≤ 0; omega⟩ (Nat.le_of_ble_eq_true rfl) d_MD_symbol_61 (fun v f9 H locs hp hw hsz9 hkp9 hdm9 => ?_)
            obtain ⟨rfl, hfe⟩ := hp
            rw [hfe] at hw
            refine W.eq (g2 := F0 m 64 ls [.int (iI (dif (tt T (jj : Int)) (tt T k0)))]) rfl ?_
            refine di_if_ne (tgt := 69) hx hb d_MD_symbol_64 (by decide) ⟨by omega, by omega⟩ (fun bq64 => ?_) (fun bq64 => ?_)
            · refine lv_iinc (v := iI (k + 1)) (lv' := [(2, .int (iI (k + 1))), (3, .int (iI ((jj : Int)))), (0, .ref y), (1, .int (iI k0))]) hx hb d_MD_symbol_69 hl (k := 1) rfl (iI_add _ _) (by decide) rfl (fun ls hl => ?_)
              refine lv_goto (tgt := 28) hx hb d_MD_symbol_72 (by decide) ?_
              exact ih (k + 1) _ _ _ (by omega) (by omega) (by omega) (fun i hi => by
                by_cases q : i = k.toNat
                · rw [q, ← htj]; exact fun e9 => absurd ((dif_zero _ _).mpr e9) bq64
                · exact hall i (by omega)) hw (lv_sub hl [0, 2, 3] rfl)
            · have hhit : sidx Y (tt T k0) = k.toNat := sidx_hit (by omega) (by rw [← htj]; exact (dif_zero _ _).mp (by omega)) (fun i hi => hall i hi)
              have hkk : ((k.toNat : Nat) : Int) = k := by omega
              refine lv_iload_n hx hb d_MD_symbol_67 rfl (lv_at hl 1 rfl) ?_
              have e9 : sp_symbol T Y B Z k0 = (0, k, T, Y, B, Z) := by rw [sp_symbol, if_neg (fun q => q hT0), hhit, if_pos (by omega), hkk]
              exact cn_iret hx hb hr hlk hw  (⟨by rw [e9], by rw [e9]; exact mdP_of (M := M) (C := C) ⟨si, un, bu, ma, bt, so, co, _, _, _, _, _, _, _, hM_f2, hT, hB, hZ, hMa, hC, hY⟩⟩) (Nat.le_refl _) (Nat.le_refl _) d_MD_symbol_68
    exact loop (((Y.length : Int) - 0).toNat + 1) (0) _ _ _ (by omega) (by omega) (by omega) (fun i hi => by omega) hw (lv_sub hl [0, 1, 2] rfl)
set_option maxRecDepth 100000 in
set_option maxHeartbeats 4000000 in
theorem c_MD_character (l : Launch) (G : ct_G) (f : dw_M) (sz : Nat) (y : Nat) (th : Int) (T Y : List (List Int)) (B Z M C : List Int) (k0 : Int) (k : Int) (hk0 : iR k0) (hk : iR k) (hL : mdL G f y th T Y B Z M C) : cn l y_MD_character w_MD_character (3) (67) G f sz [.ref y, .int (iI k0), .int (iI k)] (fun v f' => v = some (.int (iI (sp_character T Y B Z k0 k).2.1)) ∧ mdP G f' y (sp_character T Y B Z k0 k)) (0) (0) := by
  refine cn_of (own := "TextDeskModel") (nm := "character") (ds := "(II)I") (by decide) (Nat.le_of_ble_eq_true rfl) ?_
  intro p e s m args below meth c ls X hnm hr hlk hs0 hz hw hl
  have hx := X.1
  have hb := X.2.1
  have hl : lv_has ls 7 [(0, .ref y), (1, .int (iI k0)), (2, .int (iI k))] := hl
  obtain ⟨si, un, bu, ma, bt, so, co, gsi, gun, gbu, gma, gbt, gso, gco, hM, hT, hB, hZ, hMa, hC, hY⟩ := id hL
  have hTl := hT.1
  have hBl := hB.1.1
  have hZl := hZ.1.1
  have hYl := hY.1
  have hCl := hC.1
  obtain ⟨hk00, hk01⟩ := hk0
  obtain ⟨hk0, hk1⟩ := hk
  refine lv_aload_n hx hb d_MD_character_0 rfl (lv_at hl 0 rfl) ?_
  refine lv_aload_n hx hb d_MD_character_1 rfl (lv_at hl 0 rfl) ?_
  refine lv_iload_n hx hb d_MD_character_2 rfl (lv_at hl 1 rfl) ?_
  refine cs_MD_71 X hz hw hl.1 hM.1 (c_MD_isText l G f _ y th T Y B Z M C k0 ⟨by omega, by omega⟩ ⟨si, un, bu, ma, bt, so, co, _, _, _, _, _, _, _, hM, hT, hB, hZ, hMa, hC, hY⟩) ⟨Nat.le_of_ble_eq_true rfl, Nat.le_of_ble_eq_true rfl⟩ ⟨by show 0 + 0 ≤ 0; omega, by show 0 + 0 ≤ 0; omega⟩ (Nat.le_of_ble_eq_true rfl) d_MD_character_3 (fun v f9 H locs hp hw hsz9 hkp9 hdm9 => ?_)
  obtain ⟨rfl, hfe⟩ := hp
  rw [hfe] at hw
  refine W.eq (g2 := F0 m 6 ls [.int (iI (b2 (decide (isT T k0)))), .ref y]) rfl ?_
  have hbt0 := b2_01 (decide (isT T k0))
  refine di_if_ne (tgt := 13) hx hb d_MD_character_6 (by decide) ⟨by omega, by omega⟩ (fun bq6 => ?_) (fun bq6 => ?_)
  · have hT0 : isT T k0 := of_decide_eq_true (b2_1 (by omega))
    have hT0a := hT0.1
    have hT0b := hT0.2
    have hT0l := hT.len k0
    refine lv_iconst (v := iI (0)) hx hb d_MD_character_13 rfl ?_
    refine pf_MD_31_MD X hw hM.1 rfl rfl d_MD_character_14 (fun H locs hw => ?_)
    obtain ⟨f1, e_f1⟩ : ∃ g9 : dw_M, g9 = dw_up f y (.inr (6, [.int (iI 0), .int (iI ((T.length : Int))), .ref si, .ref un, .int (iI ((B.length : Int))), .ref bu, .int (iI ((M.length : Int))), .ref ma, .int (iI ((Z.length : Int))), .ref bt, .int (iI ((Y.length : Int))), .ref so, .int (iI ((C.length : Int))), .ref co])) := ⟨_, rfl⟩
    rw [← e_f1] at hw
    have hM_f1 : mdS G f1 y 0 (T.length : Int) (B.length : Int) (M.length : Int) (Z.length : Int) (Y.length : Int) (C.length : Int) si un bu ma bt so co gsi gun gbu gma gbt gso gco := by rw [e_f1]; exact hM.obj 0 (T.length : Int) (B.length : Int) (M.length : Int) (Z.length : Int) (Y.length : Int) (C.length : Int)
    refine lv_aload_n hx hb d_MD_character_17 rfl (lv_at hl 0 rfl) ?_
    refine gf_MD_31_MD X hw hM_f1.1 d_MD_character_18 ?_
    refine di_if_le (tgt := 26) hx hb d_MD_character_21 (by decide) ⟨by decide, by decide⟩ (fun _ => ?_) (fun q9 => absurd q9 (by decide))
    refine lv_iconst (v := iI (0)) hx hb d_MD_character_26 rfl ?_
    refine lv_istore_n (lv' := [(3, .int (iI 0)), (0, .ref y), (1, .int (iI k0)), (2, .int (iI k))]) hx hb d_MD_character_27 rfl hl (by decide) rfl (fun ls hl => ?_)
    refine lv_iconst (v := iI (-1)) hx hb d_MD_character_28 rfl ?_
    refine lv_istore (lv' := [(4, .int (iI ((-1)))), (3, .int (iI 0)), (0, .ref y), (1, .int (iI k0)), (2, .int (iI k))]) hx hb d_MD_character_29 hl (by decide) rfl (fun ls hl => ?_)
    refine lv_iconst (v := iI (0)) hx hb d_MD_character_31 rfl ?_
    refine lv_istore (lv' := [(5, .int (iI 0)), (4, .int (iI ((-1)))), (3, .int (iI 0)), (0, .ref y), (1, .int (iI k0)), (2, .int (iI k))]) hx hb d_MD_character_32 hl (by decide) rfl (fun ls hl => ?_)
    have loop : ∀ (N : Nat) (i : Int) (acc : List Int) (fu : Nat) (fo : Int) (H : Heap) (locs : List Loc) (ls : Array Slot), (((tt T k0).length : Int) - i).toNat < N → 0 ≤ i → i ≤ ((tt T k0).length : Int) → ((tt T k0).length : Int) - i < (fu : Int) + 1 → chs (tt T k0) = acc ++ chl (tt T k0) (fu + 1) (if pr (tt T k0) (i - 1) = true then i + 1 else i) → (acc.length : Int) ≤ i → -1 ≤ fo ∧ fo < 1000 → (fo = -1 ∧ ¬ (0 ≤ k ∧ k < (acc.length : Int)) ∨ 0 ≤ fo ∧ fo < ((tt T k0).length : Int) ∧ 0 ≤ k ∧ k < (acc.length : Int) ∧ chr (tt T k0) fo = gt acc k) → dw G.1 dk_cl (dw_A f sz) s.heap f1 H locs → lv_has ls 7 [(5, .int (iI i)), (3, .int (iI ((acc.length : Int)))), (4, .int (iI fo)), (0, .ref y), (1, .int (iI k0)), (2, .int (iI k))] → W p l e { frames := 3, locals := 67, cells := 0, slots := 0 } s m args below meth c H locs (0) (0) (MQ below (ct_Q G f sz (fun v f' => v = some (.int (iI (sp_character T Y B Z k0 k).2.1)) ∧ mdP G f' y (sp_character T Y B Z k0 k))) args s (0) (0) (dw_A f sz)) (F0 m 34 ls []) := by
      intro N
      induction N with
      | zero => intros; omega
      | succ N ih =>
        intro i acc fu fo H locs ls hN hi0 hi1 hfu hspl hal hfo hfd hw hl
        refine lv_iload hx hb d_MD_character_34 (lv_at hl 0 rfl) ?_
        refine lv_aload_n hx hb d_MD_character_36 rfl (lv_at hl 3 rfl) ?_
        refine gf_MD_7_MD X hw hM_f1.1 d_MD_character_37 ?_
        refine lv_iload_n hx hb d_MD_character_40 rfl (lv_at hl 4 rfl) ?_
        refine dw_iald hx hb X.K hw 0 hM_f1.2.1 rfl (i := k0) (by omega) (by omega) (by omega) (hT.sz hT0) d_MD_character_41 ?_
        refine di_icmp_ge (tgt := 102) hx hb d_MD_character_42 (by decide) ⟨by omega, by omega⟩ ⟨by omega, by omega⟩ (fun bq42 => ?_) (fun bq42 => ?_)
        · have hch : chs (tt T k0) = acc := by rw [hspl, chl, if_pos (by split <;> omega), List.append_nil]
          refine lv_iload_n hx hb d_MD_character_102 rfl (lv_at hl 5 rfl) ?_
          refine lv_iconst (v := iI (-1)) hx hb d_MD_character_103 rfl ?_
          refine di_icmp_ne (tgt := 109) hx hb d_MD_character_104 (by decide) ⟨by omega, by omega⟩ ⟨by omega, by omega⟩ (fun bq104 => ?_) (fun bq104 => ?_)
          · refine lv_iload hx hb d_MD_character_109 (lv_at hl 2 rfl) ?_
            refine di_if_ge (tgt := 120) hx hb d_MD_character_111 (by decide) ⟨by omega, by omega⟩ (fun bq111 => ?_) (fun bq111 => ?_)
            · have hf9 := hfd.resolve_left (fun q => by omega)
              refine lv_aload_n hx hb d_MD_character_120 rfl (lv_at hl 3 rfl) ?_
              refine lv_iload_n hx hb d_MD_character_121 rfl (lv_at hl 4 rfl) ?_
              refine lv_iload hx hb d_MD_character_122 (lv_at hl 2 rfl) ?_
              refine cs_MD_90 X hz hw hl.1 hM_f1.1 (c_MD_characterAt l G f1 _ y 0 T Y B Z M C k0 fo hT0 ⟨by omega, by omega⟩ ⟨si, un, bu, ma, bt, so, co, _, _, _, _, _, _, _, hM_f1, hT, hB, hZ, hMa, hC, hY⟩) ⟨Nat.le_of_ble_eq_true rfl, Nat.le_of_ble_eq_true rfl⟩ ⟨by show 0 + 0 ≤ 0; omega, by show 0 + 0 ≤ 0; omega⟩ (Nat.le_of_ble_eq_true rfl) d_MD_character_124 (fun v f9 H locs hp hw hsz9 hkp9 hdm9 => ?_)
              obtain ⟨rfl, hfe⟩ := hp
              rw [hfe] at hw
              refine W.eq (g2 := F0 m 127 ls [.int (iI (chr (tt T k0) fo))]) rfl ?_
              have e9 : sp_character T Y B Z k0 k = (0, gt acc k, T, Y, B, Z) := by rw [sp_character, if_neg (fun q => q hT0), hch, if_neg (by omega), if_neg (by omega)]
              exact cn_iret hx hb hr hlk hw  (⟨by rw [e9]; rw [hf9.2.2.2.2], by rw [e9]; exact mdP_of (M := M) (C := C) ⟨si, un, bu, ma, bt, so, co, _, _, _, _, _, _, _, hM_f1, hT, hB, hZ, hMa, hC, hY⟩⟩) (Nat.le_refl _) (Nat.le_refl _) d_MD_character_127
            · have hf9 := hfd.resolve_right (fun q => by omega)
              refine lv_aload_n hx hb d_MD_character_114 rfl (lv_at hl 3 rfl) ?_
              refine lv_iconst (v := iI (2)) hx hb d_MD_character_115 rfl ?_
              refine cs_MD_86 X hz hw hl.1 hM_f1.1 (c_MD_fail l G f1 _ y 0 T Y B Z M C 2 ⟨si, un, bu, ma, bt, so, co, _, _, _, _, _, _, _, hM_f1, hT, hB, hZ, hMa, hC, hY⟩) ⟨Nat.le_of_ble_eq_true rfl, Nat.le_of_ble_eq_true rfl⟩ ⟨by show 0 + 0 ≤ 0; omega, by show 0 + 0 ≤ 0; omega⟩ (Nat.le_of_ble_eq_true rfl) d_MD_character_116 (fun v f9 H locs hp hw hsz9 hkp9 hdm9 => ?_)
              obtain ⟨rfl, hL_f9⟩ := hp
              refine W.eq (g2 := F0 m 119 ls [.int (iI 0)]) rfl ?_
              obtain ⟨si, un, bu, ma, bt, so, co, gsi, gun, gbu, gma, gbt, gso, gco, hM, hT, hB, hZ, hMa, hC, hY⟩ := id hL_f9
              have e9 : sp_character T Y B Z k0 k = (2, 0, T, Y, B, Z) := by rw [sp_character, if_neg (fun q => q hT0), hch, if_pos (by omega)]
              exact cn_iret hx hb hr hlk hw  (⟨by rw [e9], by rw [e9]; exact mdP_of (M := M) (C := C) ⟨si, un, bu, ma, bt, so, co, _, _, _, _, _, _, _, hM, hT, hB, hZ, hMa, hC, hY⟩⟩) (Nat.le_refl _) (Nat.le_refl _) d_MD_character_119
          · refine lv_iload_n hx hb d_MD_character_107 rfl (lv_at hl 1 rfl) ?_
            have e9 : sp_character T Y B Z k0 k = (0, (acc.length : Int), T, Y, B, Z) := by rw [sp_character, if_neg (fun q => q hT0), hch, if_neg (by omega), if_pos (by omega)]
            exact cn_iret hx hb hr hlk hw  (⟨by rw [e9], by rw [e9]; exact mdP_of (M := M) (C := C) ⟨si, un, bu, ma, bt, so, co, _, _, _, _, _, _, _, hM_f1, hT, hB, hZ, hMa, hC, hY⟩⟩) (Nat.le_refl _) (Nat.le_refl _) d_MD_character_108
        · have hcb := chr_big (hT.rng k0) i
          refine lv_iload hx hb d_MD_character_45 (lv_at hl 0 rfl) ?_
          refine di_if_eq (tgt := 62) hx hb d_MD_character_47 (by decide) ⟨by omega, by omega⟩ (fun bq47 => ?_) (fun bq47 => ?_)
          · have hpf : pr (tt T k0) (i - 1) = false := by rw [show i - 1 = -1 by omega, pr_m1]
            rw [if_neg (by rw [hpf]; decide)] at hspl
            obtain ⟨fu2, rfl⟩ : ∃ z, fu = z + 1 := ⟨fu - 1, by omega⟩
            have hstep : chl (tt T k0) (fu2 + 1 + 1) i = chr (tt T k0) i :: chl (tt T k0) (fu2 + 1) (if pr (tt T k0) (i + 1 - 1) = true then i + 1 + 1 else i + 1) := by
              rw [chl, if_neg (by omega), show i + 1 - 1 = i by omega]
              by_cases q : pr (tt T k0) i = true
              · rw [if_pos (hcb.1 q), if_pos q, show i + 1 + 1 = i + 2 by omega]
              · rw [if_neg (fun h9 => q (hcb.2 h9)), if_neg q]
            have hsp2 : chs (tt T k0) = (acc ++ [chr (tt T k0) i]) ++ chl (tt T k0) (fu2 + 1) (if pr (tt T k0) (i + 1 - 1) = true then i + 1 + 1 else i + 1) := by rw [hspl, hstep, List.append_assoc]; rfl
            have el : (((acc ++ [chr (tt T k0) i]).length : Nat) : Int) = (acc.length : Int) + 1 := by simp
            refine lv_iconst (v := iI (1)) hx hb d_MD_character_62 rfl ?_
            refine lv_goto (tgt := 67) hx hb d_MD_character_63 (by decide) ?_
            refine lv_istore (lv' := [(6, .int (iI 1)), (5, .int (iI i)), (3, .int (iI ((acc.length : Int)))), (4, .int (iI fo)), (0, .ref y), (1, .int (iI k0)), (2, .int (iI k))]) hx hb d_MD_character_67 hl (by decide) rfl (fun ls hl => ?_)
            refine lv_iload hx hb d_MD_character_69 (lv_at hl 0 rfl) ?_
            refine di_if_eq (tgt := 83) hx hb d_MD_character_71 (by decide) ⟨by decide, by decide⟩ (fun q9 => absurd q9 (by decide)) (fun _ => ?_)
            refine lv_iload_n hx hb d_MD_character_74 rfl (lv_at hl 2 rfl) ?_
            refine lv_iload_n hx hb d_MD_character_75 rfl (lv_at hl 6 rfl) ?_
            refine di_icmp_ne (tgt := 83) hx hb d_MD_character_76 (by decide) ⟨by omega, by omega⟩ ⟨by omega, by omega⟩ (fun bq76 => ?_) (fun bq76 => ?_)
            · refine lv_iload hx hb d_MD_character_83 (lv_at hl 0 rfl) ?_
              refine di_if_eq (tgt := 94) hx hb d_MD_character_85 (by decide) ⟨by decide, by decide⟩ (fun q9 => absurd q9 (by decide)) (fun _ => ?_)
              refine lv_iload_n hx hb d_MD_character_88 rfl (lv_at hl 2 rfl) ?_
              refine lv_iconst (v := iI (1)) hx hb d_MD_character_89 rfl ?_
              refine di_add hx hb d_MD_character_90 ?_
              refine lv_goto (tgt := 95) hx hb d_MD_character_91 (by decide) ?_
              refine lv_istore_n (lv' := [(3, .int (iI ((acc.length : Int) + 1))), (6, .int (iI 1)), (5, .int (iI i)), (4, .int (iI fo)), (0, .ref y), (1, .int (iI k0)), (2, .int (iI k))]) hx hb d_MD_character_95 rfl hl (by decide) rfl (fun ls hl => ?_)
              refine lv_iinc (v := iI (i + 1)) (lv' := [(5, .int (iI (i + 1))), (3, .int (iI ((acc.length : Int) + 1))), (6, .int (iI 1)), (4, .int (iI fo)), (0, .ref y), (1, .int (iI k0)), (2, .int (iI k))]) hx hb d_MD_character_96 hl (k := 2) rfl (iI_add _ _) (by decide) rfl (fun ls hl => ?_)
              refine lv_goto (tgt := 34) hx hb d_MD_character_99 (by decide) ?_
              rw [show (acc.length : Int) + 1 = (((acc ++ [chr (tt T k0) i]).length : Nat) : Int) from el.symm] at hl
              exact ih (i + 1) (acc ++ [chr (tt T k0) i]) (fu2) (fo) _ _ _ (by omega) (by omega) (by omega) (by omega) (hsp2) (by rw [el]; omega) (by omega) (hfd.imp (fun q => ⟨q.1, by rw [el]; omega⟩) (fun q => ⟨q.1, q.2.1, q.2.2.1, by rw [el]; omega, by rw [q.2.2.2.2, gt_left (by omega)]⟩)) hw (lv_sub hl [0, 1, 3, 4, 5, 6] rfl)
            · refine lv_iload hx hb d_MD_character_79 (lv_at hl 1 rfl) ?_
              refine lv_istore (lv' := [(4, .int (iI i)), (6, .int (iI 1)), (5, .int (iI i)), (3, .int (iI ((acc.length : Int)))), (0, .ref y), (1, .int (iI k0)), (2, .int (iI k))]) hx hb d_MD_character_81 hl (by decide) rfl (fun ls hl => ?_)
              refine lv_iload hx hb d_MD_character_83 (lv_at hl 1 rfl) ?_
              refine di_if_eq (tgt := 94) hx hb d_MD_character_85 (by decide) ⟨by decide, by decide⟩ (fun q9 => absurd q9 (by decide)) (fun _ => ?_)
              refine lv_iload_n hx hb d_MD_character_88 rfl (lv_at hl 3 rfl) ?_
              refine lv_iconst (v := iI (1)) hx hb d_MD_character_89 rfl ?_
              refine di_add hx hb d_MD_character_90 ?_
              refine lv_goto (tgt := 95) hx hb d_MD_character_91 (by decide) ?_
              refine lv_istore_n (lv' := [(3, .int (iI ((acc.length : Int) + 1))), (4, .int (iI i)), (6, .int (iI 1)), (5, .int (iI i)), (0, .ref y), (1, .int (iI k0)), (2, .int (iI k))]) hx hb d_MD_character_95 rfl hl (by decide) rfl (fun ls hl => ?_)
              refine lv_iinc (v := iI (i + 1)) (lv' := [(5, .int (iI (i + 1))), (3, .int (iI ((acc.length : Int) + 1))), (4, .int (iI i)), (6, .int (iI 1)), (0, .ref y), (1, .int (iI k0)), (2, .int (iI k))]) hx hb d_MD_character_96 hl (k := 3) rfl (iI_add _ _) (by decide) rfl (fun ls hl => ?_)
              refine lv_goto (tgt := 34) hx hb d_MD_character_99 (by decide) ?_
              rw [show (acc.length : Int) + 1 = (((acc ++ [chr (tt T k0) i]).length : Nat) : Int) from el.symm] at hl
              exact ih (i + 1) (acc ++ [chr (tt T k0) i]) (fu2) (i) _ _ _ (by omega) (by omega) (by omega) (by omega) (hsp2) (by rw [el]; omega) (by omega) (Or.inr ⟨by omega, by omega, by omega, by rw [el]; omega, by rw [show k = (acc.length : Int) by omega, gt_snoc]⟩) hw (lv_sub hl [0, 1, 2, 4, 5, 6] rfl)
          · have hb01 := b2_01 (pr (tt T k0) (i - 1))
            refine lv_aload_n hx hb d_MD_character_50 rfl (lv_at hl 3 rfl) ?_
            refine lv_iload_n hx hb d_MD_character_51 rfl (lv_at hl 4 rfl) ?_
            refine lv_iload hx hb d_MD_character_52 (lv_at hl 0 rfl) ?_
            refine lv_iconst (v := iI (1)) hx hb d_MD_character_54 rfl ?_
            refine di_sub hx hb d_MD_character_55 ?_
            refine cs_MD_50 X hz hw hl.1 hM_f1.1 (c_MD_pair l G f1 _ y 0 T Y B Z M C k0 (i - 1) hT0 ⟨by omega, by omega⟩ ⟨si, un, bu, ma, bt, so, co, _, _, _, _, _, _, _, hM_f1, hT, hB, hZ, hMa, hC, hY⟩) ⟨Nat.le_of_ble_eq_true rfl, Nat.le_of_ble_eq_true rfl⟩ ⟨by show 0 + 0 ≤ 0; omega, by show 0 + 0 ≤ 0; omega⟩ (Nat.le_of_ble_eq_true rfl) d_MD_character_56 (fun v f9 H locs hp hw hsz9 hkp9 hdm9 => ?_)
            obtain ⟨rfl, hfe⟩ := hp
            rw [hfe] at hw
            refine W.eq (g2 := F0 m 59 ls [.int (iI (b2 (pr (tt T k0) (i - 1))))]) rfl ?_
            refine di_if_ne (tgt := 66) hx hb d_MD_character_59 (by decide) ⟨by omega, by omega⟩ (fun bq59 => ?_) (fun bq59 => ?_)
            · have hpt := b2_1 bq59
              rw [if_pos hpt] at hspl
              have hpn : pr (tt T k0) (i + 1 - 1) = false := by
                rw [show i + 1 - 1 = i by omega]
                have h9 := (pr_hi hpt).2
                rw [show i - 1 + 1 = i by omega] at h9
                unfold pr
                rw [show hi (gt (tt T k0) i) = false from decide_eq_false (by omega), Bool.false_and]
              refine lv_iconst (v := iI (0)) hx hb d_MD_character_66 rfl ?_
              refine lv_istore (lv' := [(6, .int (iI 0)), (5, .int (iI i)), (3, .int (iI ((acc.length : Int)))), (4, .int (iI fo)), (0, .ref y), (1, .int (iI k0)), (2, .int (iI k))]) hx hb d_MD_character_67 hl (by decide) rfl (fun ls hl => ?_)
              refine lv_iload hx hb d_MD_character_69 (lv_at hl 0 rfl) ?_
              refine di_if_eq (tgt := 83) hx hb d_MD_character_71 (by decide) ⟨by decide, by decide⟩ (fun _ => ?_) (fun q9 => absurd q9 (by decide))
              refine lv_iload hx hb d_MD_character_83 (lv_at hl 0 rfl) ?_
              refine di_if_eq (tgt := 94) hx hb d_MD_character_85 (by decide) ⟨by decide, by decide⟩ (fun _ => ?_) (fun q9 => absurd q9 (by decide))
              refine lv_iload_n hx hb d_MD_character_94 rfl (lv_at hl 2 rfl) ?_
              refine lv_istore_n (lv' := [(3, .int (iI ((acc.length : Int)))), (6, .int (iI 0)), (5, .int (iI i)), (4, .int (iI fo)), (0, .ref y), (1, .int (iI k0)), (2, .int (iI k))]) hx hb d_MD_character_95 rfl hl (by decide) rfl (fun ls hl => ?_)
              refine lv_iinc (v := iI (i + 1)) (lv' := [(5, .int (iI (i + 1))), (3, .int (iI ((acc.length : Int)))), (6, .int (iI 0)), (4, .int (iI fo)), (0, .ref y), (1, .int (iI k0)), (2, .int (iI k))]) hx hb d_MD_character_96 hl (k := 2) rfl (iI_add _ _) (by decide) rfl (fun ls hl => ?_)
              refine lv_goto (tgt := 34) hx hb d_MD_character_99 (by decide) ?_
              exact ih (i + 1) (acc) (fu) (fo) _ _ _ (by omega) (by omega) (by omega) (by omega) (by rw [if_neg (by rw [hpn]; decide)]; exact hspl) (by omega) (by omega) (hfd) hw (lv_sub hl [0, 1, 3, 4, 5, 6] rfl)
            · have hpf := b2_0 (by omega : b2 (pr (tt T k0) (i - 1)) = 0)
              rw [if_neg (by rw [hpf]; decide)] at hspl
              obtain ⟨fu2, rfl⟩ : ∃ z, fu = z + 1 := ⟨fu - 1, by omega⟩
              have hstep : chl (tt T k0) (fu2 + 1 + 1) i = chr (tt T k0) i :: chl (tt T k0) (fu2 + 1) (if pr (tt T k0) (i + 1 - 1) = true then i + 1 + 1 else i + 1) := by
                rw [chl, if_neg (by omega), show i + 1 - 1 = i by omega]
                by_cases q : pr (tt T k0) i = true
                · rw [if_pos (hcb.1 q), if_pos q, show i + 1 + 1 = i + 2 by omega]
                · rw [if_neg (fun h9 => q (hcb.2 h9)), if_neg q]
              have hsp2 : chs (tt T k0) = (acc ++ [chr (tt T k0) i]) ++ chl (tt T k0) (fu2 + 1) (if pr (tt T k0) (i + 1 - 1) = true then i + 1 + 1 else i + 1) := by rw [hspl, hstep, List.append_assoc]; rfl
              have el : (((acc ++ [chr (tt T k0) i]).length : Nat) : Int) = (acc.length : Int) + 1 := by simp
              refine lv_iconst (v := iI (1)) hx hb d_MD_character_62 rfl ?_
              refine lv_goto (tgt := 67) hx hb d_MD_character_63 (by decide) ?_
              refine lv_istore (lv' := [(6, .int (iI 1)), (5, .int (iI i)), (3, .int (iI ((acc.length : Int)))), (4, .int (iI fo)), (0, .ref y), (1, .int (iI k0)), (2, .int (iI k))]) hx hb d_MD_character_67 hl (by decide) rfl (fun ls hl => ?_)
              refine lv_iload hx hb d_MD_character_69 (lv_at hl 0 rfl) ?_
              refine di_if_eq (tgt := 83) hx hb d_MD_character_71 (by decide) ⟨by decide, by decide⟩ (fun q9 => absurd q9 (by decide)) (fun _ => ?_)
              refine lv_iload_n hx hb d_MD_character_74 rfl (lv_at hl 2 rfl) ?_
              refine lv_iload_n hx hb d_MD_character_75 rfl (lv_at hl 6 rfl) ?_
              refine di_icmp_ne (tgt := 83) hx hb d_MD_character_76 (by decide) ⟨by omega, by omega⟩ ⟨by omega, by omega⟩ (fun bq76 => ?_) (fun bq76 => ?_)
              · refine lv_iload hx hb d_MD_character_83 (lv_at hl 0 rfl) ?_
                refine di_if_eq (tgt := 94) hx hb d_MD_character_85 (by decide) ⟨by decide, by decide⟩ (fun q9 => absurd q9 (by decide)) (fun _ => ?_)
                refine lv_iload_n hx hb d_MD_character_88 rfl (lv_at hl 2 rfl) ?_
                refine lv_iconst (v := iI (1)) hx hb d_MD_character_89 rfl ?_
                refine di_add hx hb d_MD_character_90 ?_
                refine lv_goto (tgt := 95) hx hb d_MD_character_91 (by decide) ?_
                refine lv_istore_n (lv' := [(3, .int (iI ((acc.length : Int) + 1))), (6, .int (iI 1)), (5, .int (iI i)), (4, .int (iI fo)), (0, .ref y), (1, .int (iI k0)), (2, .int (iI k))]) hx hb d_MD_character_95 rfl hl (by decide) rfl (fun ls hl => ?_)
                refine lv_iinc (v := iI (i + 1)) (lv' := [(5, .int (iI (i + 1))), (3, .int (iI ((acc.length : Int) + 1))), (6, .int (iI 1)), (4, .int (iI fo)), (0, .ref y), (1, .int (iI k0)), (2, .int (iI k))]) hx hb d_MD_character_96 hl (k := 2) rfl (iI_add _ _) (by decide) rfl (fun ls hl => ?_)
                refine lv_goto (tgt := 34) hx hb d_MD_character_99 (by decide) ?_
                rw [show (acc.length : Int) + 1 = (((acc ++ [chr (tt T k0) i]).length : Nat) : Int) from el.symm] at hl
                exact ih (i + 1) (acc ++ [chr (tt T k0) i]) (fu2) (fo) _ _ _ (by omega) (by omega) (by omega) (by omega) (hsp2) (by rw [el]; omega) (by omega) (hfd.imp (fun q => ⟨q.1, by rw [el]; omega⟩) (fun q => ⟨q.1, q.2.1, q.2.2.1, by rw [el]; omega, by rw [q.2.2.2.2, gt_left (by omega)]⟩)) hw (lv_sub hl [0, 1, 3, 4, 5, 6] rfl)
              · refine lv_iload hx hb d_MD_character_79 (lv_at hl 1 rfl) ?_
                refine lv_istore (lv' := [(4, .int (iI i)), (6, .int (iI 1)), (5, .int (iI i)), (3, .int (iI ((acc.length : Int)))), (0, .ref y), (1, .int (iI k0)), (2, .int (iI k))]) hx hb d_MD_character_81 hl (by decide) rfl (fun ls hl => ?_)
                refine lv_iload hx hb d_MD_character_83 (lv_at hl 1 rfl) ?_
                refine di_if_eq (tgt := 94) hx hb d_MD_character_85 (by decide) ⟨by decide, by decide⟩ (fun q9 => absurd q9 (by decide)) (fun _ => ?_)
                refine lv_iload_n hx hb d_MD_character_88 rfl (lv_at hl 3 rfl) ?_
                refine lv_iconst (v := iI (1)) hx hb d_MD_character_89 rfl ?_
                refine di_add hx hb d_MD_character_90 ?_
                refine lv_goto (tgt := 95) hx hb d_MD_character_91 (by decide) ?_
                refine lv_istore_n (lv' := [(3, .int (iI ((acc.length : Int) + 1))), (4, .int (iI i)), (6, .int (iI 1)), (5, .int (iI i)), (0, .ref y), (1, .int (iI k0)), (2, .int (iI k))]) hx hb d_MD_character_95 rfl hl (by decide) rfl (fun ls hl => ?_)
                refine lv_iinc (v := iI (i + 1)) (lv' := [(5, .int (iI (i + 1))), (3, .int (iI ((acc.length : Int) + 1))), (4, .int (iI i)), (6, .int (iI 1)), (0, .ref y), (1, .int (iI k0)), (2, .int (iI k))]) hx hb d_MD_character_96 hl (k := 3) rfl (iI_add _ _) (by decide) rfl (fun ls hl => ?_)
                refine lv_goto (tgt := 34) hx hb d_MD_character_99 (by decide) ?_
                rw [show (acc.length : Int) + 1 = (((acc ++ [chr (tt T k0) i]).length : Nat) : Int) from el.symm] at hl
                exact ih (i + 1) (acc ++ [chr (tt T k0) i]) (fu2) (i) _ _ _ (by omega) (by omega) (by omega) (by omega) (hsp2) (by rw [el]; omega) (by omega) (Or.inr ⟨by omega, by omega, by omega, by rw [el]; omega, by rw [show k = (acc.length : Int) by omega, gt_snoc]⟩) hw (lv_sub hl [0, 1, 2, 4, 5, 6] rfl)
    exact loop ((((tt T k0).length : Int) - 0).toNat + 1) (0) ([]) ((tt T k0).length) (-1) _ _ _ (by omega) (by omega) (by omega) (by omega) (by rw [if_neg (by rw [show (0 : Int) - 1 = -1 by omega, pr_m1]; decide)]; rfl) (by simp) (by omega) (Or.inl ⟨rfl, fun q => absurd (Int.lt_of_le_of_lt q.1 q.2) (by decide)⟩) hw (lv_sub hl [0, 2, 1, 3, 4, 5] rfl)
  · have nT : ¬ isT T k0 := of_decide_eq_false (b2_0 (by omega))
    refine lv_iconst (v := iI (1)) hx hb d_MD_character_9 rfl ?_
    refine lv_goto (tgt := 14) hx hb d_MD_character_10 (by decide) ?_
    refine pf_MD_31_MD X hw hM.1 rfl rfl d_MD_character_14 (fun H locs hw => ?_)
    obtain ⟨f2, e_f2⟩ : ∃ g9 : dw_M, g9 = dw_up f y (.inr (6, [.int (iI 1), .int (iI ((T.length : Int))), .ref si, .ref un, .int (iI ((B.length : Int))), .ref bu, .int (iI ((M.length : Int))), .ref ma, .int (iI ((Z.length : Int))), .ref bt, .int (iI ((Y.length : Int))), .ref so, .int (iI ((C.length : Int))), .ref co])) := ⟨_, rfl⟩
    rw [← e_f2] at hw
    have hM_f2 : mdS G f2 y 1 (T.length : Int) (B.length : Int) (M.length : Int) (Z.length : Int) (Y.length : Int) (C.length : Int) si un bu ma bt so co gsi gun gbu gma gbt gso gco := by rw [e_f2]; exact hM.obj 1 (T.length : Int) (B.length : Int) (M.length : Int) (Z.length : Int) (Y.length : Int) (C.length : Int)
    refine lv_aload_n hx hb d_MD_character_17 rfl (lv_at hl 0 rfl) ?_
    refine gf_MD_31_MD X hw hM_f2.1 d_MD_character_18 ?_
    refine di_if_le (tgt := 26) hx hb d_MD_character_21 (by decide) ⟨by decide, by decide⟩ (fun q9 => absurd q9 (by decide)) (fun _ => ?_)
    refine lv_iconst (v := iI (0)) hx hb d_MD_character_24 rfl ?_
    have e9 : sp_character T Y B Z k0 k = (1, 0, T, Y, B, Z) := by rw [sp_character, if_pos (fun q => nT q)]
    exact cn_iret hx hb hr hlk hw  (⟨by rw [e9], by rw [e9]; exact mdP_of (M := M) (C := C) ⟨si, un, bu, ma, bt, so, co, _, _, _, _, _, _, _, hM_f2, hT, hB, hZ, hMa, hC, hY⟩⟩) (Nat.le_refl _) (Nat.le_refl _) d_MD_character_25
