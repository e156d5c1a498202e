theorem gt_mem {us : List Int} (h : ∀ u ∈ us, 0 ≤ u ∧ u < 65536) {k : Int} (h0 : 0 ≤ k) (h1 : k < (us.length : Int)) : 0 ≤ gt us k ∧ gt us k < 65536 := by
  rw [gt_in h0 h1]
  exact h _ (getD_mem (by omega))
set_option maxRecDepth 100000 in
set_option maxHeartbeats 4000000 in
theorem c_MD_insert (l : Launch) (G : ct_G) (f : dw_M) (sz : Nat) (y : Nat) (th : Int) (T Y : List (List Int)) (B Z M C : List Int) (p0 : Int) (k0 : Int) (hp0 : iR p0) (hk0 : iR k0) (hL : mdL G f y th T Y B Z M C) : cn l y_MD_insert w_MD_insert (2) (46) G f sz [.ref y, .int (iI p0), .int (iI k0)] (fun v f' => v = some (.int (iI (sp_insert T Y B Z p0 k0).2.1)) ∧ mdP G f' y (sp_insert T Y B Z p0 k0)) (0) (0) := by
  refine cn_of (own := "TextDeskModel") (nm := "insert") (ds := "(II)I") (by decide) (Nat.le_of_ble_eq_true rfl) ?_
  intro p e s m args below meth c ls X hnm hr hlk hs0 hz hw hl
  have hx := X.1
  have hb := X.2.1
  have hl : lv_has ls 4 [(0, .ref y), (1, .int (iI p0)), (2, .int (iI k0))] := hl
  obtain ⟨si, un, bu, ma, bt, so, co, gsi, gun, gbu, gma, gbt, gso, gco, hM, hT, hB, hZ, hMa, hC, hY⟩ := id hL
  have hTl := hT.1
  have hBl := hB.1.1
  have hZl := hZ.1.1
  have hYl := hY.1
  have hCl := hC.1
  obtain ⟨hp00, hp01⟩ := hp0
  obtain ⟨hk00, hk01⟩ := hk0
  refine lv_aload_n hx hb d_MD_insert_0 rfl (lv_at hl 0 rfl) ?_
  refine lv_aload_n hx hb d_MD_insert_1 rfl (lv_at hl 0 rfl) ?_
  refine lv_iload_n hx hb d_MD_insert_2 rfl (lv_at hl 2 rfl) ?_
  refine cs_MD_71 X hz hw hl.1 hM.1 (c_MD_isText l G f _ y th T Y B Z M C k0 ⟨by omega, by omega⟩ ⟨si, un, bu, ma, bt, so, co, _, _, _, _, _, _, _, hM, hT, hB, hZ, hMa, hC, hY⟩) ⟨Nat.le_of_ble_eq_true rfl, Nat.le_of_ble_eq_true rfl⟩ ⟨by show 0 + 0 ≤ 0; omega, by show 0 + 0 ≤ 0; omega⟩ (Nat.le_of_ble_eq_true rfl) d_MD_insert_3 (fun v f9 H locs hp hw hsz9 hkp9 hdm9 => ?_)
  obtain ⟨rfl, hfe⟩ := hp
  rw [hfe] at hw
  refine W.eq (g2 := F0 m 6 ls [.int (iI (b2 (decide (isT T k0)))), .ref y]) rfl ?_
  have hbt0 := b2_01 (decide (isT T k0))
  refine di_if_eq (tgt := 21) hx hb d_MD_insert_6 (by decide) ⟨by omega, by omega⟩ (fun bq6 => ?_) (fun bq6 => ?_)
  · have nT : ¬ isT T k0 := of_decide_eq_false (b2_0 (by omega))
    refine lv_iconst (v := iI (1)) hx hb d_MD_insert_21 rfl ?_
    refine lv_goto (tgt := 46) hx hb d_MD_insert_22 (by decide) ?_
    refine pf_MD_31_MD X hw hM.1 rfl rfl d_MD_insert_46 (fun H locs hw => ?_)
    obtain ⟨f1, e_f1⟩ : ∃ g9 : dw_M, g9 = dw_up f y (.inr (6, [.int (iI 1), .int (iI ((T.length : Int))), .ref si, .ref un, .int (iI ((B.length : Int))), .ref bu, .int (iI ((M.length : Int))), .ref ma, .int (iI ((Z.length : Int))), .ref bt, .int (iI ((Y.length : Int))), .ref so, .int (iI ((C.length : Int))), .ref co])) := ⟨_, rfl⟩
    rw [← e_f1] at hw
    have hM_f1 : mdS G f1 y 1 (T.length : Int) (B.length : Int) (M.length : Int) (Z.length : Int) (Y.length : Int) (C.length : Int) si un bu ma bt so co gsi gun gbu gma gbt gso gco := by rw [e_f1]; exact hM.obj 1 (T.length : Int) (B.length : Int) (M.length : Int) (Z.length : Int) (Y.length : Int) (C.length : Int)
    refine lv_aload_n hx hb d_MD_insert_49 rfl (lv_at hl 0 rfl) ?_
    refine gf_MD_31_MD X hw hM_f1.1 d_MD_insert_50 ?_
    refine di_if_le (tgt := 58) hx hb d_MD_insert_53 (by decide) ⟨by decide, by decide⟩ (fun q9 => absurd q9 (by decide)) (fun _ => ?_)
    refine lv_iconst (v := iI (0)) hx hb d_MD_insert_56 rfl ?_
    have e9 : sp_insert T Y B Z p0 k0 = (1, 0, T, Y, B, Z) := by rw [sp_insert, if_pos (fun q => nT q.1)]
    exact cn_iret hx hb hr hlk hw  (⟨by rw [e9], by rw [e9]; exact mdP_of (M := M) (C := C) ⟨si, un, bu, ma, bt, so, co, _, _, _, _, _, _, _, hM_f1, hT, hB, hZ, hMa, hC, hY⟩⟩) (Nat.le_refl _) (Nat.le_refl _) d_MD_insert_57
  · have hT0 : isT T k0 := of_decide_eq_true (b2_1 (by omega))
    have hT0a := hT0.1
    have hT0b := hT0.2
    have hT0l := hT.len k0
    refine lv_iload_n hx hb d_MD_insert_9 rfl (lv_at hl 1 rfl) ?_
    refine di_if_lt (tgt := 21) hx hb d_MD_insert_10 (by decide) ⟨by omega, by omega⟩ (fun bq10 => ?_) (fun bq10 => ?_)
    · refine lv_iconst (v := iI (1)) hx hb d_MD_insert_21 rfl ?_
      refine lv_goto (tgt := 46) hx hb d_MD_insert_22 (by decide) ?_
      refine pf_MD_31_MD X hw hM.1 rfl rfl d_MD_insert_46 (fun H locs hw => ?_)
      obtain ⟨f2, e_f2⟩ : ∃ g9 : dw_M, g9 = dw_up f y (.inr (6, [.int (iI 1), .int (iI ((T.length : Int))), .ref si, .ref un, .int (iI ((B.length : Int))), .ref bu, .int (iI ((M.length : Int))), .ref ma, .int (iI ((Z.length : Int))), .ref bt, .int (iI ((Y.length : Int))), .ref so, .int (iI ((C.length : Int))), .ref co])) := ⟨_, rfl⟩
      rw [← e_f2] at hw
      have hM_f2 : mdS G f2 y 1 (T.length : Int) (B.length : Int) (M.length : Int) (Z.length : Int) (Y.length : Int) (C.length : Int) si un bu ma bt so co gsi gun gbu gma gbt gso gco := by rw [e_f2]; exact hM.obj 1 (T.length : Int) (B.length : Int) (M.length : Int) (Z.length : Int) (Y.length : Int) (C.length : Int)
      refine lv_aload_n hx hb d_MD_insert_49 rfl (lv_at hl 0 rfl) ?_
      refine gf_MD_31_MD X hw hM_f2.1 d_MD_insert_50 ?_
      refine di_if_le (tgt := 58) hx hb d_MD_insert_53 (by decide) ⟨by decide, by decide⟩ (fun q9 => absurd q9 (by decide)) (fun _ => ?_)
      refine lv_iconst (v := iI (0)) hx hb d_MD_insert_56 rfl ?_
      have e9 : sp_insert T Y B Z p0 k0 = (1, 0, T, Y, B, Z) := by rw [sp_insert, if_pos (fun q => by have q1 := q.1; have q2 := q.2; omega)]
      exact cn_iret hx hb hr hlk hw  (⟨by rw [e9], by rw [e9]; exact mdP_of (M := M) (C := C) ⟨si, un, bu, ma, bt, so, co, _, _, _, _, _, _, _, hM_f2, hT, hB, hZ, hMa, hC, hY⟩⟩) (Nat.le_refl _) (Nat.le_refl _) d_MD_insert_57
    · refine lv_iload_n hx hb d_MD_insert_13 rfl (lv_at hl 1 rfl) ?_
      refine lv_aload_n hx hb d_MD_insert_14 rfl (lv_at hl 0 rfl) ?_
      refine gf_MD_68_MD X hw hM.1 d_MD_insert_15 ?_
      refine di_icmp_le (tgt := 25) hx hb d_MD_insert_18 (by decide) ⟨by omega, by omega⟩ ⟨by omega, by omega⟩ (fun bq18 => ?_) (fun bq18 => ?_)
      · have hok9 : isT T k0 ∧ 0 ≤ p0 ∧ p0 ≤ (B.length : Int) := ⟨hT0, by omega, by omega⟩
        refine lv_aload_n hx hb d_MD_insert_25 rfl (lv_at hl 0 rfl) ?_
        refine gf_MD_68_MD X hw hM.1 d_MD_insert_26 ?_
        refine lv_aload_n hx hb d_MD_insert_29 rfl (lv_at hl 0 rfl) ?_
        refine gf_MD_7_MD X hw hM.1 d_MD_insert_30 ?_
        refine lv_iload_n hx hb d_MD_insert_33 rfl (lv_at hl 2 rfl) ?_
        refine dw_iald hx hb X.K hw 0 hM.2.1 rfl (i := k0) (by omega) (by omega) (by omega) (hT.sz hT0) d_MD_insert_34 ?_
        refine di_add hx hb d_MD_insert_35 ?_
        refine lv_bipush (v := iI (60)) hx hb d_MD_insert_36 rfl ?_
        refine di_icmp_le (tgt := 45) hx hb d_MD_insert_38 (by decide) ⟨by omega, by omega⟩ ⟨by omega, by omega⟩ (fun bq38 => ?_) (fun bq38 => ?_)
        · refine lv_iconst (v := iI (0)) hx hb d_MD_insert_45 rfl ?_
          refine pf_MD_31_MD X hw hM.1 rfl rfl d_MD_insert_46 (fun H locs hw => ?_)
          obtain ⟨f3, e_f3⟩ : ∃ g9 : dw_M, g9 = dw_up f y (.inr (6, [.int (iI 0), .int (iI ((T.length : Int))), .ref si, .ref un, .int (iI ((B.length : Int))), .ref bu, .int (iI ((M.length : Int))), .ref ma, .int (iI ((Z.length : Int))), .ref bt, .int (iI ((Y.length : Int))), .ref so, .int (iI ((C.length : Int))), .ref co])) := ⟨_, rfl⟩
          rw [← e_f3] at hw
          have hM_f3 : mdS G f3 y 0 (T.length : Int) (B.length : Int) (M.length : Int) (Z.length : Int) (Y.length : Int) (C.length : Int) si un bu ma bt so co gsi gun gbu gma gbt gso gco := by rw [e_f3]; exact hM.obj 0 (T.length : Int) (B.length : Int) (M.length : Int) (Z.length : Int) (Y.length : Int) (C.length : Int)
          refine lv_aload_n hx hb d_MD_insert_49 rfl (lv_at hl 0 rfl) ?_
          refine gf_MD_31_MD X hw hM_f3.1 d_MD_insert_50 ?_
          refine di_if_le (tgt := 58) hx hb d_MD_insert_53 (by decide) ⟨by decide, by decide⟩ (fun _ => ?_) (fun q9 => absurd q9 (by decide))
          refine lv_aload_n hx hb d_MD_insert_58 rfl (lv_at hl 0 rfl) ?_
          refine lv_iconst (v := iI (0)) hx hb d_MD_insert_59 rfl ?_
          refine pf_MD_55_MD X hw hM_f3.1 rfl rfl d_MD_insert_60 (fun H locs hw => ?_)
          obtain ⟨f4, e_f4⟩ : ∃ g9 : dw_M, g9 = dw_up f3 y (.inr (6, [.int (iI 0), .int (iI ((T.length : Int))), .ref si, .ref un, .int (iI ((B.length : Int))), .ref bu, .int (iI 0), .ref ma, .int (iI ((Z.length : Int))), .ref bt, .int (iI ((Y.length : Int))), .ref so, .int (iI ((C.length : Int))), .ref co])) := ⟨_, rfl⟩
          rw [← e_f4] at hw
          have hM_f4 : mdS G f4 y 0 (T.length : Int) (B.length : Int) 0 (Z.length : Int) (Y.length : Int) (C.length : Int) si un bu ma bt so co gsi gun gbu gma gbt gso gco := by rw [e_f4]; exact hM_f3.obj 0 (T.length : Int) (B.length : Int) 0 (Z.length : Int) (Y.length : Int) (C.length : Int)
          refine lv_iconst (v := iI (0)) hx hb d_MD_insert_63 rfl ?_
          refine lv_istore_n (lv' := [(3, .int (iI 0)), (0, .ref y), (1, .int (iI p0)), (2, .int (iI k0))]) hx hb d_MD_insert_64 rfl hl (by decide) rfl (fun ls hl => ?_)
          have loop1 : ∀ (N : Nat) (k : Int) (Mk : List Int) (f1 : dw_M) (H : Heap) (locs : List Loc) (ls : Array Slot), (p0 - k).toNat < N → 0 ≤ k → k ≤ p0 → Mk = sbl B 0 k → mdL G f1 y 0 T Y B Z Mk C → dw G.1 dk_cl (dw_A f sz) s.heap f1 H locs → lv_has ls 4 [(3, .int (iI k)), (0, .ref y), (1, .int (iI p0)), (2, .int (iI k0))] → W p l e { frames := 2, locals := 46, cells := 0, slots := 0 } s m args below meth c H locs (0) (0) (MQ below (ct_Q G f sz (fun v f' => v = some (.int (iI (sp_insert T Y B Z p0 k0).2.1)) ∧ mdP G f' y (sp_insert T Y B Z p0 k0))) args s (0) (0) (dw_A f sz)) (F0 m 65 ls []) := by
            intro N
            induction N with
            | zero => intros; omega
            | succ N ih =>
              intro k Mk f1 H locs ls hN hk0 hst hMk hL1 hw hl
              obtain ⟨si, un, bu, ma, bt, so, co, gsi, gun, gbu, gma, gbt, gso, gco, hM, hT, hB, hZ, hMa, hC, hY⟩ := id hL1
              refine lv_iload_n hx hb d_MD_insert_65 rfl (lv_at hl 0 rfl) ?_
              refine lv_iload_n hx hb d_MD_insert_66 rfl (lv_at hl 2 rfl) ?_
              refine di_icmp_ge (tgt := 86) hx hb d_MD_insert_67 (by decide) ⟨by omega, by omega⟩ ⟨by omega, by omega⟩ (fun bq67 => ?_) (fun bq67 => ?_)
              · have hMB : Mk = sbl B 0 p0 := by rw [hMk]; exact sbl_stop (by omega) (by omega) (Or.inl (by omega))
                rw [hMB] at hM hMa
                have hsl1 := sbl_len B 0 p0
                refine lv_aload_n hx hb d_MD_insert_86 rfl (lv_at hl 1 rfl) ?_
                refine lv_iload_n hx hb d_MD_insert_87 rfl (lv_at hl 3 rfl) ?_
                refine lv_iconst (v := iI (0)) hx hb d_MD_insert_88 rfl ?_
                refine lv_aload_n hx hb d_MD_insert_89 rfl (lv_at hl 1 rfl) ?_
                refine gf_MD_7_MD X hw hM.1 d_MD_insert_90 ?_
                refine lv_iload_n hx hb d_MD_insert_93 rfl (lv_at hl 3 rfl) ?_
                refine dw_iald hx hb X.K hw 0 hM.2.1 rfl (i := k0) (by omega) (by omega) (by omega) (hT.sz hT0) d_MD_insert_94 ?_
                refine cs_MD_74 X hz hw hl.1 hM.1 (c_MD_makePart l G f1 _ y 0 T Y B Z (sbl B 0 p0) C k0 0 ((tt T k0).length : Int) hT0 (by omega) (by omega) ⟨si, un, bu, ma, bt, so, co, _, _, _, _, _, _, _, hM, hT, hB, hZ, hMa, hC, hY⟩) ⟨Nat.le_of_ble_eq_true rfl, Nat.le_of_ble_eq_true rfl⟩ ⟨by show 0 + 0 ≤ 0; omega, by show 0 + 0 ≤ 0; omega⟩ (Nat.le_of_ble_eq_true rfl) d_MD_insert_95 (fun v f7 H locs hp hw hsz9 hkp9 hdm9 => ?_)
                obtain ⟨rfl, hL_f7⟩ := hp
                refine W.eq (g2 := F0 m 98 ls []) rfl ?_
                obtain ⟨si, un, bu, ma, bt, so, co, gsi, gun, gbu, gma, gbt, gso, gco, hM, hT, hB, hZ, hMa, hC, hY⟩ := id hL_f7
                rw [sbl_all] at hL_f7 hM hMa
                refine lv_iload_n hx hb d_MD_insert_98 rfl (lv_at hl 2 rfl) ?_
                refine lv_istore_n (lv' := [(3, .int (iI p0)), (0, .ref y), (1, .int (iI p0)), (2, .int (iI k0))]) hx hb d_MD_insert_99 rfl hl (by decide) rfl (fun ls hl => ?_)
                have loop2 : ∀ (N : Nat) (k : Int) (Mk2 : List Int) (f1 : dw_M) (H : Heap) (locs : List Loc) (ls : Array Slot), ((B.length : Int) - k).toNat < N → p0 ≤ k → (k ≤ (B.length : Int) ∨ k = p0) → Mk2 = (sbl B 0 p0 ++ tt T k0) ++ sbl B p0 k → mdL G f1 y 0 T Y B Z Mk2 C → dw G.1 dk_cl (dw_A f sz) s.heap f1 H locs → lv_has ls 4 [(3, .int (iI k)), (0, .ref y), (1, .int (iI p0)), (2, .int (iI k0))] → W p l e { frames := 2, locals := 46, cells := 0, slots := 0 } s m args below meth c H locs (0) (0) (MQ below (ct_Q G f sz (fun v f' => v = some (.int (iI (sp_insert T Y B Z p0 k0).2.1)) ∧ mdP G f' y (sp_insert T Y B Z p0 k0))) args s (0) (0) (dw_A f sz)) (F0 m 100 ls []) := by
                  intro N
                  induction N with
                  | zero => intros; omega
                  | succ N ih =>
                    intro k Mk2 f1 H locs ls hN hk0 hst2 hMk2 hL2 hw hl
                    obtain ⟨si, un, bu, ma, bt, so, co, gsi, gun, gbu, gma, gbt, gso, gco, hM, hT, hB, hZ, hMa, hC, hY⟩ := id hL2
                    refine lv_iload_n hx hb d_MD_insert_100 rfl (lv_at hl 0 rfl) ?_
                    refine lv_aload_n hx hb d_MD_insert_101 rfl (lv_at hl 1 rfl) ?_
                    refine gf_MD_68_MD X hw hM.1 d_MD_insert_102 ?_
                    refine di_icmp_ge (tgt := 124) hx hb d_MD_insert_105 (by decide) ⟨by omega, by omega⟩ ⟨by omega, by omega⟩ (fun bq105 => ?_) (fun bq105 => ?_)
                    · have hMR : Mk2 = sbl B 0 p0 ++ (tt T k0 ++ sbl B p0 (B.length : Int)) := by rw [hMk2, sbl_stop (by omega) (by omega) hst2, List.append_assoc]
                      rw [hMR] at hM hMa
                      have hMl : ((sbl B 0 p0 ++ (tt T k0 ++ sbl B p0 (B.length : Int))).length : Int) = (B.length : Int) + ((tt T k0).length : Int) := by simp only [sbl, List.length_append, List.length_drop, List.length_take]; omega
                      refine lv_aload_n hx hb d_MD_insert_124 rfl (lv_at hl 1 rfl) ?_
                      refine lv_aload_n hx hb d_MD_insert_125 rfl (lv_at hl 1 rfl) ?_
                      refine gf_MD_55_MD X hw hM.1 d_MD_insert_126 ?_
                      refine pf_MD_68_MD X hw hM.1 rfl rfl d_MD_insert_129 (fun H locs hw => ?_)
                      obtain ⟨f21, e_f21⟩ : ∃ g9 : dw_M, g9 = dw_up f1 y (.inr (6, [.int (iI 0), .int (iI ((T.length : Int))), .ref si, .ref un, .int (iI (((sbl B 0 p0 ++ (tt T k0 ++ sbl B p0 (B.length : Int))).length : Int))), .ref bu, .int (iI (((sbl B 0 p0 ++ (tt T k0 ++ sbl B p0 (B.length : Int))).length : Int))), .ref ma, .int (iI ((Z.length : Int))), .ref bt, .int (iI ((Y.length : Int))), .ref so, .int (iI ((C.length : Int))), .ref co])) := ⟨_, rfl⟩
                      rw [← e_f21] at hw
                      have hM_f21 : mdS G f21 y 0 (T.length : Int) ((sbl B 0 p0 ++ (tt T k0 ++ sbl B p0 (B.length : Int))).length : Int) ((sbl B 0 p0 ++ (tt T k0 ++ sbl B p0 (B.length : Int))).length : Int) (Z.length : Int) (Y.length : Int) (C.length : Int) si un bu ma bt so co gsi gun gbu gma gbt gso gco := by rw [e_f21]; exact hM.obj 0 (T.length : Int) ((sbl B 0 p0 ++ (tt T k0 ++ sbl B p0 (B.length : Int))).length : Int) ((sbl B 0 p0 ++ (tt T k0 ++ sbl B p0 (B.length : Int))).length : Int) (Z.length : Int) (Y.length : Int) (C.length : Int)
                      refine lv_iconst (v := iI (0)) hx hb d_MD_insert_132 rfl ?_
                      refine lv_istore_n (lv' := [(3, .int (iI 0)), (0, .ref y), (1, .int (iI p0)), (2, .int (iI k0))]) hx hb d_MD_insert_133 rfl hl (by decide) rfl (fun ls hl => ?_)
                      have loop3 : ∀ (N : Nat) (k : Int) (g1 : Nat → Int32) (f1 : dw_M) (H : Heap) (locs : List Loc) (ls : Array Slot), (((sbl B 0 p0 ++ (tt T k0 ++ sbl B p0 (B.length : Int))).length : Int) - k).toNat < N → 0 ≤ k → k ≤ ((sbl B 0 p0 ++ (tt T k0 ++ sbl B p0 (B.length : Int))).length : Int) → mdS G f1 y 0 (T.length : Int) ((sbl B 0 p0 ++ (tt T k0 ++ sbl B p0 (B.length : Int))).length : Int) ((sbl B 0 p0 ++ (tt T k0 ++ sbl B p0 (B.length : Int))).length : Int) (Z.length : Int) (Y.length : Int) (C.length : Int) si un bu ma bt so co gsi gun g1 gma gbt gso gco → (∀ j : Nat, (j : Int) < k → j < (sbl B 0 p0 ++ (tt T k0 ++ sbl B p0 (B.length : Int))).length → g1 j = iI ((sbl B 0 p0 ++ (tt T k0 ++ sbl B p0 (B.length : Int))).getD j 0)) → dw G.1 dk_cl (dw_A f sz) s.heap f1 H locs → lv_has ls 4 [(3, .int (iI k)), (0, .ref y)] → W p l e { frames := 2, locals := 46, cells := 0, slots := 0 } s m args below meth c H locs (0) (0) (MQ below (ct_Q G f sz (fun v f' => v = some (.int (iI (sp_insert T Y B Z p0 k0).2.1)) ∧ mdP G f' y (sp_insert T Y B Z p0 k0))) args s (0) (0) (dw_A f sz)) (F0 m 134 ls []) := by
                        intro N
                        induction N with
                        | zero => intros; omega
                        | succ N ih =>
                          intro k g1 f1 H locs ls hN hk0 hk1 hM1 hnew hw hl
                          refine lv_iload_n hx hb d_MD_insert_134 rfl (lv_at hl 0 rfl) ?_
                          refine lv_aload_n hx hb d_MD_insert_135 rfl (lv_at hl 1 rfl) ?_
                          refine gf_MD_55_MD X hw hM1.1 d_MD_insert_136 ?_
                          refine di_icmp_ge (tgt := 160) hx hb d_MD_insert_139 (by decide) ⟨by omega, by omega⟩ ⟨by omega, by omega⟩ (fun bq139 => ?_) (fun bq139 => ?_)
                          · refine lv_aload_n hx hb d_MD_insert_160 rfl (lv_at hl 1 rfl) ?_
                            refine gf_MD_68_MD X hw hM1.1 d_MD_insert_161 ?_
                            have e9 : sp_insert T Y B Z p0 k0 = (0, (B.length : Int) + ((tt T k0).length : Int), T, Y, sbl B 0 p0 ++ (tt T k0 ++ sbl B p0 (B.length : Int)), Z) := by rw [sp_insert, if_neg (fun q => q hok9), if_neg (by omega)]
                            exact cn_iret hx hb hr hlk hw  (⟨by rw [e9]; rw [hMl], by rw [e9]; exact mdP_of (M := sbl B 0 p0 ++ (tt T k0 ++ sbl B p0 (B.length : Int))) (C := C) ⟨si, un, bu, ma, bt, so, co, _, _, _, _, _, _, _, hM1, hT, ⟨⟨by omega, fun j hj => hnew j (by omega) hj⟩, mem_app (fun u h => hB.2 u (sbl_mem h)) (mem_app (hT.rng k0) (fun u h => hB.2 u (sbl_mem h)))⟩, hZ, hMa, hC, hY⟩⟩) (Nat.le_refl _) (Nat.le_refl _) d_MD_insert_164
                          · refine lv_aload_n hx hb d_MD_insert_142 rfl (lv_at hl 1 rfl) ?_
                            refine gf_MD_16_MD X hw hM1.1 d_MD_insert_143 ?_
                            refine lv_iload_n hx hb d_MD_insert_146 rfl (lv_at hl 0 rfl) ?_
                            refine lv_aload_n hx hb d_MD_insert_147 rfl (lv_at hl 1 rfl) ?_
                            refine gf_MD_19_MD X hw hM1.1 d_MD_insert_148 ?_
                            refine lv_iload_n hx hb d_MD_insert_151 rfl (lv_at hl 0 rfl) ?_
                            refine dw_iald hx hb X.K hw 0 hM1.2.2.2.2.1 rfl (i := k) (by omega) (by omega) (by omega) (hMa.at (by omega) (by omega) (by omega)) d_MD_insert_152 ?_
                            refine dw_iast hx hb X.K hw 0 hM1.2.2.2.1 rfl (i := k) (by omega) (by omega) (by omega) d_MD_insert_153 (fun H locs hw => ?_)
                            obtain ⟨f22, e_f22⟩ : ∃ g9 : dw_M, g9 = dw_up f1 bu (.inl (G.2.1 0, 60, .inl (upd g1 (k).toNat (iI (gt (sbl B 0 p0 ++ (tt T k0 ++ sbl B p0 (B.length : Int))) k))))) := ⟨_, rfl⟩
                            rw [← e_f22] at hw
                            have hM_f22 : mdS G f22 y 0 (T.length : Int) ((sbl B 0 p0 ++ (tt T k0 ++ sbl B p0 (B.length : Int))).length : Int) ((sbl B 0 p0 ++ (tt T k0 ++ sbl B p0 (B.length : Int))).length : Int) (Z.length : Int) (Y.length : Int) (C.length : Int) si un bu ma bt so co gsi gun (upd g1 (k).toNat (iI (gt (sbl B 0 p0 ++ (tt T k0 ++ sbl B p0 (B.length : Int))) k))) gma gbt gso gco := by rw [e_f22]; exact hM1.w_bu _
                            refine lv_iinc (v := iI (k + 1)) (lv' := [(3, .int (iI (k + 1))), (0, .ref y)]) hx hb d_MD_insert_154 hl (k := 0) rfl (iI_add _ _) (by decide) rfl (fun ls hl => ?_)
                            refine lv_goto (tgt := 134) hx hb d_MD_insert_157 (by decide) ?_
                            exact ih (k + 1) (upd g1 (k).toNat (iI (gt (sbl B 0 p0 ++ (tt T k0 ++ sbl B p0 (B.length : Int))) k))) _ _ _ _ (by omega) (by omega) (by omega) (hM_f22) (fun j hj hj2 => by
                              unfold upd
                              by_cases q : j = k.toNat
                              · subst q
                                rw [if_pos rfl, gt_in (by omega) (by omega)]
                              · rw [if_neg (by omega)]; exact hnew j (by omega) hj2) hw (lv_sub hl [0, 1] rfl)
                      exact loop3 ((((sbl B 0 p0 ++ (tt T k0 ++ sbl B p0 (B.length : Int))).length : Int) - 0).toNat + 1) (0) (gbu) _ _ _ _ (by omega) (by omega) (by omega) (hM_f21) (fun j h1 h2 => by omega) hw (lv_sub hl [0, 1] rfl)
                    · refine lv_aload_n hx hb d_MD_insert_108 rfl (lv_at hl 1 rfl) ?_
                      refine lv_aload_n hx hb d_MD_insert_109 rfl (lv_at hl 1 rfl) ?_
                      refine gf_MD_16_MD X hw hM.1 d_MD_insert_110 ?_
                      refine lv_iload_n hx hb d_MD_insert_113 rfl (lv_at hl 0 rfl) ?_
                      refine dw_iald hx hb X.K hw 0 hM.2.2.2.1 rfl (i := k) (by omega) (by omega) (by omega) (hB.1.at (by omega) (by omega)) d_MD_insert_114 ?_
                      refine cs_MD_64 X hz hw hl.1 hM.1 (c_MD_make l G f1 _ y 0 T Y B Z Mk2 C (gt B k) (by rw [hMk2, List.length_append, List.length_append]; have := sbl_len B p0 k; omega) ⟨si, un, bu, ma, bt, so, co, _, _, _, _, _, _, _, hM, hT, hB, hZ, hMa, hC, hY⟩) ⟨Nat.le_of_ble_eq_true rfl, Nat.le_of_ble_eq_true rfl⟩ ⟨by show 0 + 0 ≤ 0; omega, by show 0 + 0 ≤ 0; omega⟩ (Nat.le_of_ble_eq_true rfl) d_MD_insert_115 (fun v f23 H locs hp hw hsz9 hkp9 hdm9 => ?_)
                      obtain ⟨rfl, hL_f23⟩ := hp
                      refine W.eq (g2 := F0 m 118 ls []) rfl ?_
                      obtain ⟨si, un, bu, ma, bt, so, co, gsi, gun, gbu, gma, gbt, gso, gco, hM, hT, hB, hZ, hMa, hC, hY⟩ := id hL_f23
                      refine lv_iinc (v := iI (k + 1)) (lv' := [(3, .int (iI (k + 1))), (0, .ref y), (1, .int (iI p0)), (2, .int (iI k0))]) hx hb d_MD_insert_118 hl (k := 0) rfl (iI_add _ _) (by decide) rfl (fun ls hl => ?_)
                      refine lv_goto (tgt := 100) hx hb d_MD_insert_121 (by decide) ?_
                      exact ih (k + 1) (Mk2 ++ [gt B k]) _ _ _ _ (by omega) (by omega) (Or.inl (by omega)) (by rw [hMk2, sbl_snoc (by omega) (by omega) (by omega), gt_in (by omega) (by omega), List.append_assoc]) (hL_f23) hw (lv_sub hl [0, 1, 2, 3] rfl)
                exact loop2 (((B.length : Int) - p0).toNat + 1) (p0) (sbl B 0 p0 ++ tt T k0) _ _ _ _ (by omega) (by omega) (Or.inr rfl) (by rw [sbl_nil (Int.le_refl _) (by omega), List.append_nil]) (hL_f7) hw (lv_sub hl [0, 1, 2, 3] rfl)
              · refine lv_aload_n hx hb d_MD_insert_70 rfl (lv_at hl 1 rfl) ?_
                refine lv_aload_n hx hb d_MD_insert_71 rfl (lv_at hl 1 rfl) ?_
                refine gf_MD_16_MD X hw hM.1 d_MD_insert_72 ?_
                refine lv_iload_n hx hb d_MD_insert_75 rfl (lv_at hl 0 rfl) ?_
                refine dw_iald hx hb X.K hw 0 hM.2.2.2.1 rfl (i := k) (by omega) (by omega) (by omega) (hB.1.at (by omega) (by omega)) d_MD_insert_76 ?_
                refine cs_MD_64 X hz hw hl.1 hM.1 (c_MD_make l G f1 _ y 0 T Y B Z Mk C (gt B k) (by rw [hMk]; have := sbl_len B 0 k; omega) ⟨si, un, bu, ma, bt, so, co, _, _, _, _, _, _, _, hM, hT, hB, hZ, hMa, hC, hY⟩) ⟨Nat.le_of_ble_eq_true rfl, Nat.le_of_ble_eq_true rfl⟩ ⟨by show 0 + 0 ≤ 0; omega, by show 0 + 0 ≤ 0; omega⟩ (Nat.le_of_ble_eq_true rfl) d_MD_insert_77 (fun v f2 H locs hp hw hsz9 hkp9 hdm9 => ?_)
                obtain ⟨rfl, hL_f2⟩ := hp
                refine W.eq (g2 := F0 m 80 ls []) rfl ?_
                obtain ⟨si, un, bu, ma, bt, so, co, gsi, gun, gbu, gma, gbt, gso, gco, hM, hT, hB, hZ, hMa, hC, hY⟩ := id hL_f2
                refine lv_iinc (v := iI (k + 1)) (lv' := [(3, .int (iI (k + 1))), (0, .ref y), (1, .int (iI p0)), (2, .int (iI k0))]) hx hb d_MD_insert_80 hl (k := 0) rfl (iI_add _ _) (by decide) rfl (fun ls hl => ?_)
                refine lv_goto (tgt := 65) hx hb d_MD_insert_83 (by decide) ?_
                exact ih (k + 1) (Mk ++ [gt B k]) _ _ _ _ (by omega) (by omega) (by omega) (by rw [hMk, sbl_snoc (by omega) (by omega) (by omega), gt_in (by omega) (by omega)]) (hL_f2) hw (lv_sub hl [0, 1, 2, 3] rfl)
          exact loop1 ((p0 - 0).toNat + 1) (0) ([]) _ _ _ _ (by omega) (by omega) (by omega) ((sbl_nil (Int.le_refl _) (Int.le_refl _)).symm) (⟨si, un, bu, ma, bt, so, co, _, _, _, _, _, _, _, hM_f4, hT, hB, hZ, (rM.nil _), hC, hY⟩) hw (lv_sub hl [0, 1, 2, 3] rfl)
        · refine lv_iconst (v := iI (2)) hx hb d_MD_insert_41 rfl ?_
          refine lv_goto (tgt := 46) hx hb d_MD_insert_42 (by decide) ?_
          refine pf_MD_31_MD X hw hM.1 rfl rfl d_MD_insert_46 (fun H locs hw => ?_)
          obtain ⟨f5, e_f5⟩ : ∃ g9 : dw_M, g9 = dw_up f y (.inr (6, [.int (iI 2), .int (iI ((T.length : Int))), .ref si, .ref un, .int (iI ((B.length : Int))), .ref bu, .int (iI ((M.length : Int))), .ref ma, .int (iI ((Z.length : Int))), .ref bt, .int (iI ((Y.length : Int))), .ref so, .int (iI ((C.length : Int))), .ref co])) := ⟨_, rfl⟩
          rw [← e_f5] at hw
          have hM_f5 : mdS G f5 y 2 (T.length : Int) (B.length : Int) (M.length : Int) (Z.length : Int) (Y.length : Int) (C.length : Int) si un bu ma bt so co gsi gun gbu gma gbt gso gco := by rw [e_f5]; exact hM.obj 2 (T.length : Int) (B.length : Int) (M.length : Int) (Z.length : Int) (Y.length : Int) (C.length : Int)
          refine lv_aload_n hx hb d_MD_insert_49 rfl (lv_at hl 0 rfl) ?_
          refine gf_MD_31_MD X hw hM_f5.1 d_MD_insert_50 ?_
          refine di_if_le (tgt := 58) hx hb d_MD_insert_53 (by decide) ⟨by decide, by decide⟩ (fun q9 => absurd q9 (by decide)) (fun _ => ?_)
          refine lv_iconst (v := iI (0)) hx hb d_MD_insert_56 rfl ?_
          have e9 : sp_insert T Y B Z p0 k0 = (2, 0, T, Y, B, Z) := by rw [sp_insert, if_neg (fun q => q hok9), if_pos (by omega)]
          exact cn_iret hx hb hr hlk hw  (⟨by rw [e9], by rw [e9]; exact mdP_of (M := M) (C := C) ⟨si, un, bu, ma, bt, so, co, _, _, _, _, _, _, _, hM_f5, hT, hB, hZ, hMa, hC, hY⟩⟩) (Nat.le_refl _) (Nat.le_refl _) d_MD_insert_57
      · refine lv_iconst (v := iI (1)) hx hb d_MD_insert_21 rfl ?_
        refine lv_goto (tgt := 46) hx hb d_MD_insert_22 (by decide) ?_
        refine pf_MD_31_MD X hw hM.1 rfl rfl d_MD_insert_46 (fun H locs hw => ?_)
        obtain ⟨f6, e_f6⟩ : ∃ g9 : dw_M, g9 = dw_up f y (.inr (6, [.int (iI 1), .int (iI ((T.length : Int))), .ref si, .ref un, .int (iI ((B.length : Int))), .ref bu, .int (iI ((M.length : Int))), .ref ma, .int (iI ((Z.length : Int))), .ref bt, .int (iI ((Y.length : Int))), .ref so, .int (iI ((C.length : Int))), .ref co])) := ⟨_, rfl⟩
        rw [← e_f6] at hw
        have hM_f6 : mdS G f6 y 1 (T.length : Int) (B.length : Int) (M.length : Int) (Z.length : Int) (Y.length : Int) (C.length : Int) si un bu ma bt so co gsi gun gbu gma gbt gso gco := by rw [e_f6]; exact hM.obj 1 (T.length : Int) (B.length : Int) (M.length : Int) (Z.length : Int) (Y.length : Int) (C.length : Int)
        refine lv_aload_n hx hb d_MD_insert_49 rfl (lv_at hl 0 rfl) ?_
        refine gf_MD_31_MD X hw hM_f6.1 d_MD_insert_50 ?_
        refine di_if_le (tgt := 58) hx hb d_MD_insert_53 (by decide) ⟨by decide, by decide⟩ (fun q9 => absurd q9 (by decide)) (fun _ => ?_)
        refine lv_iconst (v := iI (0)) hx hb d_MD_insert_56 rfl ?_
        have e9 : sp_insert T Y B Z p0 k0 = (1, 0, T, Y, B, Z) := by rw [sp_insert, if_pos (fun q => by have q1 := q.1; have q2 := q.2; omega)]
        exact cn_iret hx hb hr hlk hw  (⟨by rw [e9], by rw [e9]; exact mdP_of (M := M) (C := C) ⟨si, un, bu, ma, bt, so, co, _, _, _, _, _, _, _, hM_f6, hT, hB, hZ, hMa, hC, hY⟩⟩) (Nat.le_refl _) (Nat.le_refl _) d_MD_insert_57
set_option maxRecDepth 100000 in
set_option maxHeartbeats 4000000 in
theorem c_MD_delete (l : Launch) (G : ct_G) (f : dw_M) (sz : Nat) (y : Nat) (th : Int) (T Y : List (List Int)) (B Z M C : List Int) (fr : Int) (to : Int) (hfr : iR fr) (hto : iR to) (hL : mdL G f y th T Y B Z M C) : cn l y_MD_delete w_MD_delete (0) (0) G f sz [.ref y, .int (iI fr), .int (iI to)] (fun v f' => v = none ∧ mdP G f' y (sp_delete T Y B Z fr to)) (0) (0) := by
  refine cn_of (own := "TextDeskModel") (nm := "delete") (ds := "(II)V") (by decide) (Nat.le_of_ble_eq_true rfl) ?_
  intro p e s m args below meth c ls X hnm hr hlk hs0 hz hw hl
  have hx := X.1
  have hb := X.2.1
  have hl : lv_has ls 5 [(0, .ref y), (1, .int (iI fr)), (2, .int (iI to))] := hl
  obtain ⟨si, un, bu, ma, bt, so, co, gsi, gun, gbu, gma, gbt, gso, gco, hM, hT, hB, hZ, hMa, hC, hY⟩ := id hL
  have hTl := hT.1
  have hBl := hB.1.1
  have hZl := hZ.1.1
  have hYl := hY.1
  have hCl := hC.1
  obtain ⟨hfr0, hfr1⟩ := hfr
  obtain ⟨hto0, hto1⟩ := hto
  refine lv_aload_n hx hb d_MD_delete_0 rfl (lv_at hl 0 rfl) ?_
  refine lv_iload_n hx hb d_MD_delete_1 rfl (lv_at hl 1 rfl) ?_
  refine di_if_lt (tgt := 18) hx hb d_MD_delete_2 (by decide) ⟨by omega, by omega⟩ (fun bq2 => ?_) (fun bq2 => ?_)
  · refine lv_iconst (v := iI (1)) hx hb d_MD_delete_18 rfl ?_
    refine lv_goto (tgt := 23) hx hb d_MD_delete_19 (by decide) ?_
    refine pf_MD_31_MD X hw hM.1 rfl rfl d_MD_delete_23 (fun H locs hw => ?_)
    obtain ⟨f1, e_f1⟩ : ∃ g9 : dw_M, g9 = dw_up f y (.inr (6, [.int (iI 1), .int (iI ((T.length : Int))), .ref si, .ref un, .int (iI ((B.length : Int))), .ref bu, .int (iI ((M.length : Int))), .ref ma, .int (iI ((Z.length : Int))), .ref bt, .int (iI ((Y.length : Int))), .ref so, .int (iI ((C.length : Int))), .ref co])) := ⟨_, rfl⟩
    rw [← e_f1] at hw
    have hM_f1 : mdS G f1 y 1 (T.length : Int) (B.length : Int) (M.length : Int) (Z.length : Int) (Y.length : Int) (C.length : Int) si un bu ma bt so co gsi gun gbu gma gbt gso gco := by rw [e_f1]; exact hM.obj 1 (T.length : Int) (B.length : Int) (M.length : Int) (Z.length : Int) (Y.length : Int) (C.length : Int)
    refine lv_aload_n hx hb d_MD_delete_26 rfl (lv_at hl 0 rfl) ?_
    refine gf_MD_31_MD X hw hM_f1.1 d_MD_delete_27 ?_
    refine di_if_le (tgt := 34) hx hb d_MD_delete_30 (by decide) ⟨by decide, by decide⟩ (fun q9 => absurd q9 (by decide)) (fun _ => ?_)
    have e9 : sp_delete T Y B Z fr to = (1, 0, T, Y, B, Z) := by rw [sp_delete, if_pos (by omega)]
    exact cn_vret hx hb hr hlk hw  (⟨rfl, by rw [e9]; exact mdP_of (M := M) (C := C) ⟨si, un, bu, ma, bt, so, co, _, _, _, _, _, _, _, hM_f1, hT, hB, hZ, hMa, hC, hY⟩⟩) (Nat.le_refl _) (Nat.le_refl _) d_MD_delete_33
  · refine lv_iload_n hx hb d_MD_delete_5 rfl (lv_at hl 1 rfl) ?_
    refine lv_iload_n hx hb d_MD_delete_6 rfl (lv_at hl 2 rfl) ?_
    refine di_icmp_gt (tgt := 18) hx hb d_MD_delete_7 (by decide) ⟨by omega, by omega⟩ ⟨by omega, by omega⟩ (fun bq7 => ?_) (fun bq7 => ?_)
    · refine lv_iconst (v := iI (1)) hx hb d_MD_delete_18 rfl ?_
      refine lv_goto (tgt := 23) hx hb d_MD_delete_19 (by decide) ?_
      refine pf_MD_31_MD X hw hM.1 rfl rfl d_MD_delete_23 (fun H locs hw => ?_)
      obtain ⟨f2, e_f2⟩ : ∃ g9 : dw_M, g9 = dw_up f y (.inr (6, [.int (iI 1), .int (iI ((T.length : Int))), .ref si, .ref un, .int (iI ((B.length : Int))), .ref bu, .int (iI ((M.length : Int))), .ref ma, .int (iI ((Z.length : Int))), .ref bt, .int (iI ((Y.length : Int))), .ref so, .int (iI ((C.length : Int))), .ref co])) := ⟨_, rfl⟩
      rw [← e_f2] at hw
      have hM_f2 : mdS G f2 y 1 (T.length : Int) (B.length : Int) (M.length : Int) (Z.length : Int) (Y.length : Int) (C.length : Int) si un bu ma bt so co gsi gun gbu gma gbt gso gco := by rw [e_f2]; exact hM.obj 1 (T.length : Int) (B.length : Int) (M.length : Int) (Z.length : Int) (Y.length : Int) (C.length : Int)
      refine lv_aload_n hx hb d_MD_delete_26 rfl (lv_at hl 0 rfl) ?_
      refine gf_MD_31_MD X hw hM_f2.1 d_MD_delete_27 ?_
      refine di_if_le (tgt := 34) hx hb d_MD_delete_30 (by decide) ⟨by decide, by decide⟩ (fun q9 => absurd q9 (by decide)) (fun _ => ?_)
      have e9 : sp_delete T Y B Z fr to = (1, 0, T, Y, B, Z) := by rw [sp_delete, if_pos (by omega)]
      exact cn_vret hx hb hr hlk hw  (⟨rfl, by rw [e9]; exact mdP_of (M := M) (C := C) ⟨si, un, bu, ma, bt, so, co, _, _, _, _, _, _, _, hM_f2, hT, hB, hZ, hMa, hC, hY⟩⟩) (Nat.le_refl _) (Nat.le_refl _) d_MD_delete_33
    · refine lv_iload_n hx hb d_MD_delete_10 rfl (lv_at hl 2 rfl) ?_
      refine lv_aload_n hx hb d_MD_delete_11 rfl (lv_at hl 0 rfl) ?_
      refine gf_MD_68_MD X hw hM.1 d_MD_delete_12 ?_
      refine di_icmp_le (tgt := 22) hx hb d_MD_delete_15 (by decide) ⟨by omega, by omega⟩ ⟨by omega, by omega⟩ (fun bq15 => ?_) (fun bq15 => ?_)
      · have hok9 : 0 ≤ fr ∧ fr ≤ to ∧ to ≤ (B.length : Int) := ⟨by omega, by omega, by omega⟩
        refine lv_iconst (v := iI (0)) hx hb d_MD_delete_22 rfl ?_
        refine pf_MD_31_MD X hw hM.1 rfl rfl d_MD_delete_23 (fun H locs hw => ?_)
        obtain ⟨f3, e_f3⟩ : ∃ g9 : dw_M, g9 = dw_up f y (.inr (6, [.int (iI 0), .int (iI ((T.length : Int))), .ref si, .ref un, .int (iI ((B.length : Int))), .ref bu, .int (iI ((M.length : Int))), .ref ma, .int (iI ((Z.length : Int))), .ref bt, .int (iI ((Y.length : Int))), .ref so, .int (iI ((C.length : Int))), .ref co])) := ⟨_, rfl⟩
        rw [← e_f3] at hw
        have hM_f3 : mdS G f3 y 0 (T.length : Int) (B.length : Int) (M.length : Int) (Z.length : Int) (Y.length : Int) (C.length : Int) si un bu ma bt so co gsi gun gbu gma gbt gso gco := by rw [e_f3]; exact hM.obj 0 (T.length : Int) (B.length : Int) (M.length : Int) (Z.length : Int) (Y.length : Int) (C.length : Int)
        refine lv_aload_n hx hb d_MD_delete_26 rfl (lv_at hl 0 rfl) ?_
        refine gf_MD_31_MD X hw hM_f3.1 d_MD_delete_27 ?_
        refine di_if_le (tgt := 34) hx hb d_MD_delete_30 (by decide) ⟨by decide, by decide⟩ (fun _ => ?_) (fun q9 => absurd q9 (by decide))
        refine lv_iconst (v := iI (0)) hx hb d_MD_delete_34 rfl ?_
        refine lv_istore_n (lv' := [(3, .int (iI 0)), (0, .ref y), (1, .int (iI fr)), (2, .int (iI to))]) hx hb d_MD_delete_35 rfl hl (by decide) rfl (fun ls hl => ?_)
        refine lv_iconst (v := iI (0)) hx hb d_MD_delete_36 rfl ?_
        refine lv_istore (lv' := [(4, .int (iI 0)), (3, .int (iI 0)), (0, .ref y), (1, .int (iI fr)), (2, .int (iI to))]) hx hb d_MD_delete_37 hl (by decide) rfl (fun ls hl => ?_)
        have loop : ∀ (N : Nat) (k : Int) (Wk : List Int) (g1 : Nat → Int32) (f1 : dw_M) (H : Heap) (locs : List Loc) (ls : Array Slot), ((B.length : Int) - k).toNat < N → 0 ≤ k → k ≤ (B.length : Int) → Wk = sbl B 0 (if k < fr then k else fr) ++ sbl B to k → (Wk.length : Int) ≤ k → mdS G f1 y 0 (T.length : Int) (B.length : Int) (M.length : Int) (Z.length : Int) (Y.length : Int) (C.length : Int) si un bu ma bt so co gsi gun g1 gma gbt gso gco → rA 60 g1 Wk → (∀ j : Nat, k ≤ (j : Int) → g1 j = gbu j) → dw G.1 dk_cl (dw_A f sz) s.heap f1 H locs → lv_has ls 5 [(4, .int (iI k)), (3, .int (iI ((Wk.length : Int)))), (0, .ref y), (1, .int (iI fr)), (2, .int (iI to))] → W p l e { frames := 0, locals := 0, cells := 0, slots := 0 } s m args below meth c H locs (0) (0) (MQ below (ct_Q G f sz (fun v f' => v = none ∧ mdP G f' y (sp_delete T Y B Z fr to))) args s (0) (0) (dw_A f sz)) (F0 m 39 ls []) := by
          intro N
          induction N with
          | zero => intros; omega
          | succ N ih =>
            intro k Wk g1 f1 H locs ls hN hk0 hk1 hWk hWl hM1 hA1 hrest hw hl
            refine lv_iload hx hb d_MD_delete_39 (lv_at hl 0 rfl) ?_
            refine lv_aload_n hx hb d_MD_delete_41 rfl (lv_at hl 2 rfl) ?_
            refine gf_MD_68_MD X hw hM1.1 d_MD_delete_42 ?_
            refine di_icmp_ge (tgt := 82) hx hb d_MD_delete_45 (by decide) ⟨by omega, by omega⟩ ⟨by omega, by omega⟩ (fun bq45 => ?_) (fun bq45 => ?_)
            · have hfinal : Wk = sbl B 0 fr ++ sbl B to (B.length : Int) := by rw [hWk, if_neg (by omega), show k = (B.length : Int) by omega]
              refine lv_aload_n hx hb d_MD_delete_82 rfl (lv_at hl 2 rfl) ?_
              refine lv_iload_n hx hb d_MD_delete_83 rfl (lv_at hl 1 rfl) ?_
              refine pf_MD_68_MD X hw hM1.1 rfl rfl d_MD_delete_84 (fun H locs hw => ?_)
              obtain ⟨f4, e_f4⟩ : ∃ g9 : dw_M, g9 = dw_up f1 y (.inr (6, [.int (iI 0), .int (iI ((T.length : Int))), .ref si, .ref un, .int (iI ((Wk.length : Int))), .ref bu, .int (iI ((M.length : Int))), .ref ma, .int (iI ((Z.length : Int))), .ref bt, .int (iI ((Y.length : Int))), .ref so, .int (iI ((C.length : Int))), .ref co])) := ⟨_, rfl⟩
              rw [← e_f4] at hw
              have hM_f4 : mdS G f4 y 0 (T.length : Int) (Wk.length : Int) (M.length : Int) (Z.length : Int) (Y.length : Int) (C.length : Int) si un bu ma bt so co gsi gun g1 gma gbt gso gco := by rw [e_f4]; exact hM1.obj 0 (T.length : Int) (Wk.length : Int) (M.length : Int) (Z.length : Int) (Y.length : Int) (C.length : Int)
              have e9 : sp_delete T Y B Z fr to = (0, 0, T, Y, Wk, Z) := by rw [sp_delete, if_neg (fun q => q hok9), hfinal]
              exact cn_vret hx hb hr hlk hw  (⟨rfl, by rw [e9]; exact mdP_of (M := M) (C := C) ⟨si, un, bu, ma, bt, so, co, _, _, _, _, _, _, _, hM_f4, hT, ⟨hA1, by rw [hfinal]; exact mem_app (fun u h => hB.2 u (sbl_mem h)) (fun u h => hB.2 u (sbl_mem h))⟩, hZ, hMa, hC, hY⟩⟩) (Nat.le_refl _) (Nat.le_refl _) d_MD_delete_87
            · have hgk : g1 k.toNat = iI (gt B k) := (hrest k.toNat (by omega)).trans (hB.1.at (by omega) (by omega))
              refine lv_iload hx hb d_MD_delete_48 (lv_at hl 0 rfl) ?_
              refine lv_iload_n hx hb d_MD_delete_50 rfl (lv_at hl 3 rfl) ?_
              refine di_icmp_lt (tgt := 60) hx hb d_MD_delete_51 (by decide) ⟨by omega, by omega⟩ ⟨by omega, by omega⟩ (fun bq51 => ?_) (fun bq51 => ?_)
              · have el : (((Wk ++ [gt B k]).length : Nat) : Int) = (Wk.length : Int) + 1 := by simp
                refine lv_aload_n hx hb d_MD_delete_60 rfl (lv_at hl 2 rfl) ?_
                refine gf_MD_16_MD X hw hM1.1 d_MD_delete_61 ?_
                refine lv_iload_n hx hb d_MD_delete_64 rfl (lv_at hl 1 rfl) ?_
                refine lv_aload_n hx hb d_MD_delete_65 rfl (lv_at hl 2 rfl) ?_
                refine gf_MD_16_MD X hw hM1.1 d_MD_delete_66 ?_
                refine lv_iload hx hb d_MD_delete_69 (lv_at hl 0 rfl) ?_
                refine dw_iald hx hb X.K hw 0 hM1.2.2.2.1 rfl (i := k) (by omega) (by omega) (by omega) (hgk) d_MD_delete_71 ?_
                refine dw_iast hx hb X.K hw 0 hM1.2.2.2.1 rfl (i := (Wk.length : Int)) (by omega) (by omega) (by omega) d_MD_delete_72 (fun H locs hw => ?_)
                obtain ⟨f5, e_f5⟩ : ∃ g9 : dw_M, g9 = dw_up f1 bu (.inl (G.2.1 0, 60, .inl (upd g1 ((Wk.length : Int)).toNat (iI (gt B k))))) := ⟨_, rfl⟩
                rw [← e_f5] at hw
                have hM_f5 : mdS G f5 y 0 (T.length : Int) (B.length : Int) (M.length : Int) (Z.length : Int) (Y.length : Int) (C.length : Int) si un bu ma bt so co gsi gun (upd g1 ((Wk.length : Int)).toNat (iI (gt B k))) gma gbt gso gco := by rw [e_f5]; exact hM1.w_bu _
                refine lv_iinc (v := iI ((Wk.length : Int) + 1)) (lv' := [(3, .int (iI ((Wk.length : Int) + 1))), (4, .int (iI k)), (0, .ref y), (1, .int (iI fr)), (2, .int (iI to))]) hx hb d_MD_delete_73 hl (k := 1) rfl (iI_add _ _) (by decide) rfl (fun ls hl => ?_)
                refine lv_iinc (v := iI (k + 1)) (lv' := [(4, .int (iI (k + 1))), (3, .int (iI ((Wk.length : Int) + 1))), (0, .ref y), (1, .int (iI fr)), (2, .int (iI to))]) hx hb d_MD_delete_76 hl (k := 1) rfl (iI_add _ _) (by decide) rfl (fun ls hl => ?_)
                refine lv_goto (tgt := 39) hx hb d_MD_delete_79 (by decide) ?_
                rw [show (Wk.length : Int) + 1 = (((Wk ++ [gt B k]).length : Nat) : Int) from el.symm] at hl
                exact ih (k + 1) (Wk ++ [gt B k]) (upd g1 ((Wk.length : Int)).toNat (iI (gt B k))) _ _ _ _ (by omega) (by omega) (by omega) (by rw [hWk, if_pos (by omega), sbl_nil (us := B) (lo := to) (hi := k) (by omega) (by omega), sbl_nil (us := B) (lo := to) (hi := k + 1) (by omega) (by omega), List.append_nil, List.append_nil]; split; (rw [sbl_snoc (by omega) (by omega) (by omega), gt_in (by omega) (by omega)]); (rw [show fr = k + 1 by omega, sbl_snoc (by omega) (by omega) (by omega), gt_in (by omega) (by omega)])) (by rw [el]; omega) (hM_f5) (by rw [Int.toNat_natCast]; exact hA1.snoc (by omega) _) (fun j hj => by rw [upd, if_neg (by omega)]; exact hrest j (by omega)) hw (lv_sub hl [0, 1, 2, 3, 4] rfl)
              · refine lv_iload hx hb d_MD_delete_54 (lv_at hl 0 rfl) ?_
                refine lv_iload_n hx hb d_MD_delete_56 rfl (lv_at hl 4 rfl) ?_
                refine di_icmp_lt (tgt := 76) hx hb d_MD_delete_57 (by decide) ⟨by omega, by omega⟩ ⟨by omega, by omega⟩ (fun bq57 => ?_) (fun bq57 => ?_)
                · refine lv_iinc (v := iI (k + 1)) (lv' := [(4, .int (iI (k + 1))), (3, .int (iI ((Wk.length : Int)))), (0, .ref y), (1, .int (iI fr)), (2, .int (iI to))]) hx hb d_MD_delete_76 hl (k := 0) rfl (iI_add _ _) (by decide) rfl (fun ls hl => ?_)
                  refine lv_goto (tgt := 39) hx hb d_MD_delete_79 (by decide) ?_
                  exact ih (k + 1) (Wk) (g1) _ _ _ _ (by omega) (by omega) (by omega) (by rw [hWk, if_neg (by omega), if_neg (by omega), sbl_nil (us := B) (lo := to) (hi := k) (by omega) (by omega), sbl_nil (us := B) (lo := to) (hi := k + 1) (by omega) (by omega)]) (by omega) (hM1) (hA1) (fun j hj => hrest j (by omega)) hw (lv_sub hl [0, 1, 2, 3, 4] rfl)
                · have el : (((Wk ++ [gt B k]).length : Nat) : Int) = (Wk.length : Int) + 1 := by simp
                  refine lv_aload_n hx hb d_MD_delete_60 rfl (lv_at hl 2 rfl) ?_
                  refine gf_MD_16_MD X hw hM1.1 d_MD_delete_61 ?_
                  refine lv_iload_n hx hb d_MD_delete_64 rfl (lv_at hl 1 rfl) ?_
                  refine lv_aload_n hx hb d_MD_delete_65 rfl (lv_at hl 2 rfl) ?_
                  refine gf_MD_16_MD X hw hM1.1 d_MD_delete_66 ?_
                  refine lv_iload hx hb d_MD_delete_69 (lv_at hl 0 rfl) ?_
                  refine dw_iald hx hb X.K hw 0 hM1.2.2.2.1 rfl (i := k) (by omega) (by omega) (by omega) (hgk) d_MD_delete_71 ?_
                  refine dw_iast hx hb X.K hw 0 hM1.2.2.2.1 rfl (i := (Wk.length : Int)) (by omega) (by omega) (by omega) d_MD_delete_72 (fun H locs hw => ?_)
                  obtain ⟨f6, e_f6⟩ : ∃ g9 : dw_M, g9 = dw_up f1 bu (.inl (G.2.1 0, 60, .inl (upd g1 ((Wk.length : Int)).toNat (iI (gt B k))))) := ⟨_, rfl⟩
                  rw [← e_f6] at hw
                  have hM_f6 : mdS G f6 y 0 (T.length : Int) (B.length : Int) (M.length : Int) (Z.length : Int) (Y.length : Int) (C.length : Int) si un bu ma bt so co gsi gun (upd g1 ((Wk.length : Int)).toNat (iI (gt B k))) gma gbt gso gco := by rw [e_f6]; exact hM1.w_bu _
                  refine lv_iinc (v := iI ((Wk.length : Int) + 1)) (lv' := [(3, .int (iI ((Wk.length : Int) + 1))), (4, .int (iI k)), (0, .ref y), (1, .int (iI fr)), (2, .int (iI to))]) hx hb d_MD_delete_73 hl (k := 1) rfl (iI_add _ _) (by decide) rfl (fun ls hl => ?_)
                  refine lv_iinc (v := iI (k + 1)) (lv' := [(4, .int (iI (k + 1))), (3, .int (iI ((Wk.length : Int) + 1))), (0, .ref y), (1, .int (iI fr)), (2, .int (iI to))]) hx hb d_MD_delete_76 hl (k := 1) rfl (iI_add _ _) (by decide) rfl (fun ls hl => ?_)
                  refine lv_goto (tgt := 39) hx hb d_MD_delete_79 (by decide) ?_
                  rw [show (Wk.length : Int) + 1 = (((Wk ++ [gt B k]).length : Nat) : Int) from el.symm] at hl
                  exact ih (k + 1) (Wk ++ [gt B k]) (upd g1 ((Wk.length : Int)).toNat (iI (gt B k))) _ _ _ _ (by omega) (by omega) (by omega) (by rw [hWk, if_neg (by omega), if_neg (by omega), sbl_snoc (by omega) (by omega) (by omega), gt_in (by omega) (by omega), List.append_assoc]) (by rw [el]; omega) (hM_f6) (by rw [Int.toNat_natCast]; exact hA1.snoc (by omega) _) (fun j hj => by rw [upd, if_neg (by omega)]; exact hrest j (by omega)) hw (lv_sub hl [0, 1, 2, 3, 4] rfl)
        exact loop (((B.length : Int) - 0).toNat + 1) (0) ([]) (gbu) _ _ _ _ (by omega) (by omega) (by omega) (by rw [sbl_nil (us := B) (lo := to) (hi := 0) (by omega) (by omega)]; split; (rw [sbl_nil (Int.le_refl _) (Int.le_refl _)]; rfl); (rw [show fr = 0 by omega, sbl_nil (Int.le_refl _) (Int.le_refl _)]; rfl)) (by simp) (hM_f3) (rA.nil _ _) (fun _ _ => rfl) hw (lv_sub hl [0, 1, 2, 3, 4] rfl)
      · refine lv_iconst (v := iI (1)) hx hb d_MD_delete_18 rfl ?_
        refine lv_goto (tgt := 23) hx hb d_MD_delete_19 (by decide) ?_
        refine pf_MD_31_MD X hw hM.1 rfl rfl d_MD_delete_23 (fun H locs hw => ?_)
        obtain ⟨f7, e_f7⟩ : ∃ g9 : dw_M, g9 = dw_up f y (.inr (6, [.int (iI 1), .int (iI ((T.length : Int))), .ref si, .ref un, .int (iI ((B.length : Int))), .ref bu, .int (iI ((M.length : Int))), .ref ma, .int (iI ((Z.length : Int))), .ref bt, .int (iI ((Y.length : Int))), .ref so, .int (iI ((C.length : Int))), .ref co])) := ⟨_, rfl⟩
        rw [← e_f7] at hw
        have hM_f7 : mdS G f7 y 1 (T.length : Int) (B.length : Int) (M.length : Int) (Z.length : Int) (Y.length : Int) (C.length : Int) si un bu ma bt so co gsi gun gbu gma gbt gso gco := by rw [e_f7]; exact hM.obj 1 (T.length : Int) (B.length : Int) (M.length : Int) (Z.length : Int) (Y.length : Int) (C.length : Int)
        refine lv_aload_n hx hb d_MD_delete_26 rfl (lv_at hl 0 rfl) ?_
        refine gf_MD_31_MD X hw hM_f7.1 d_MD_delete_27 ?_
        refine di_if_le (tgt := 34) hx hb d_MD_delete_30 (by decide) ⟨by decide, by decide⟩ (fun q9 => absurd q9 (by decide)) (fun _ => ?_)
        have e9 : sp_delete T Y B Z fr to = (1, 0, T, Y, B, Z) := by rw [sp_delete, if_pos (by omega)]
        exact cn_vret hx hb hr hlk hw  (⟨rfl, by rw [e9]; exact mdP_of (M := M) (C := C) ⟨si, un, bu, ma, bt, so, co, _, _, _, _, _, _, _, hM_f7, hT, hB, hZ, hMa, hC, hY⟩⟩) (Nat.le_refl _) (Nat.le_refl _) d_MD_delete_33
set_option maxRecDepth 100000 in
set_option maxHeartbeats 4000000 in
theorem c_MD_reverse (l : Launch) (G : ct_G) (f : dw_M) (sz : Nat) (y : Nat) (th : Int) (T Y : List (List Int)) (B Z M C : List Int) (hL : mdL G f y th T Y B Z M C) : cn l y_MD_reverse w_MD_reverse (1) (21) G f sz [.ref y] (fun v f' => v = none ∧ mdP G f' y (sp_reverse T Y B Z)) (0) (0) := by
  refine cn_of (own := "TextDeskModel") (nm := "reverse") (ds := "()V") (by decide) (Nat.le_of_ble_eq_true rfl) ?_
  intro p e s m args below meth c ls X hnm hr hlk hs0 hz hw hl
  have hx := X.1
  have hb := X.2.1
  have hl : lv_has ls 3 [(0, .ref y)] := hl
  obtain ⟨si, un, bu, ma, bt, so, co, gsi, gun, gbu, gma, gbt, gso, gco, hM, hT, hB, hZ, hMa, hC, hY⟩ := id hL
  have hTl := hT.1
  have hBl := hB.1.1
  have hZl := hZ.1.1
  have hYl := hY.1
  have hCl := hC.1
  refine lv_aload_n hx hb d_MD_reverse_0 rfl (lv_at hl 0 rfl) ?_
  refine lv_iconst (v := iI (0)) hx hb d_MD_reverse_1 rfl ?_
  refine pf_MD_31_MD X hw hM.1 rfl rfl d_MD_reverse_2 (fun H locs hw => ?_)
  obtain ⟨f1, e_f1⟩ : ∃ g9 : dw_M, g9 = dw_up f y (.inr (6, [.int (iI 0), .int (iI ((T.length : Int))), .ref si, .ref un, .int (iI ((B.length : Int))), .ref bu, .int (iI ((M.length : Int))), .ref ma, .int (iI ((Z.length : Int))), .ref bt, .int (iI ((Y.length : Int))), .ref so, .int (iI ((C.length : Int))), .ref co])) := ⟨_, rfl⟩
  rw [← e_f1] at hw
  have hM_f1 : mdS G f1 y 0 (T.length : Int) (B.length : Int) (M.length : Int) (Z.length : Int) (Y.length : Int) (C.length : Int) si un bu ma bt so co gsi gun gbu gma gbt gso gco := by rw [e_f1]; exact hM.obj 0 (T.length : Int) (B.length : Int) (M.length : Int) (Z.length : Int) (Y.length : Int) (C.length : Int)
  refine lv_aload_n hx hb d_MD_reverse_5 rfl (lv_at hl 0 rfl) ?_
  refine lv_iconst (v := iI (0)) hx hb d_MD_reverse_6 rfl ?_
  refine pf_MD_55_MD X hw hM_f1.1 rfl rfl d_MD_reverse_7 (fun H locs hw => ?_)
  obtain ⟨f2, e_f2⟩ : ∃ g9 : dw_M, g9 = dw_up f1 y (.inr (6, [.int (iI 0), .int (iI ((T.length : Int))), .ref si, .ref un, .int (iI ((B.length : Int))), .ref bu, .int (iI 0), .ref ma, .int (iI ((Z.length : Int))), .ref bt, .int (iI ((Y.length : Int))), .ref so, .int (iI ((C.length : Int))), .ref co])) := ⟨_, rfl⟩
  rw [← e_f2] at hw
  have hM_f2 : mdS G f2 y 0 (T.length : Int) (B.length : Int) 0 (Z.length : Int) (Y.length : Int) (C.length : Int) si un bu ma bt so co gsi gun gbu gma gbt gso gco := by rw [e_f2]; exact hM_f1.obj 0 (T.length : Int) (B.length : Int) 0 (Z.length : Int) (Y.length : Int) (C.length : Int)
  refine lv_aload_n hx hb d_MD_reverse_10 rfl (lv_at hl 0 rfl) ?_
  refine gf_MD_68_MD X hw hM_f2.1 d_MD_reverse_11 ?_
  refine lv_iconst (v := iI (1)) hx hb d_MD_reverse_14 rfl ?_
  refine di_sub hx hb d_MD_reverse_15 ?_
  refine lv_istore_n (lv' := [(1, .int (iI ((B.length : Int) - 1))), (0, .ref y)]) hx hb d_MD_reverse_16 rfl hl (by decide) rfl (fun ls hl => ?_)
  have loop : ∀ (N : Nat) (k : Int) (Mk : List Int) (f1 : dw_M) (H : Heap) (locs : List Loc) (ls : Array Slot), (k + 1).toNat < N → -1 ≤ k → k < (B.length : Int) → rvk B B.length = Mk ++ rvk B (k + 1).toNat → (Mk.length : Int) + k + 1 = (B.length : Int) → mdL G f1 y 0 T Y B Z Mk C → dw G.1 dk_cl (dw_A f sz) s.heap f1 H locs → lv_has ls 3 [(1, .int (iI k)), (0, .ref y)] → W p l e { frames := 1, locals := 21, cells := 0, slots := 0 } s m args below meth c H locs (0) (0) (MQ below (ct_Q G f sz (fun v f' => v = none ∧ mdP G f' y (sp_reverse T Y B Z))) args s (0) (0) (dw_A f sz)) (F0 m 17 ls []) := by
    intro N
    induction N with
    | zero => intros; omega
    | succ N ih =>
      intro k Mk f1 H locs ls hN hk0 hkb hrv hdl hL1 hw hl
      obtain ⟨si, un, bu, ma, bt, so, co, gsi, gun, gbu, gma, gbt, gso, gco, hM, hT, hB, hZ, hMa, hC, hY⟩ := id hL1
      have hrB := hB.2
      refine lv_iload_n hx hb d_MD_reverse_17 rfl (lv_at hl 0 rfl) ?_
      refine di_if_lt (tgt := 100) hx hb d_MD_reverse_18 (by decide) ⟨by omega, by omega⟩ (fun bq18 => ?_) (fun bq18 => ?_)
      · have hDk : rvk B B.length = Mk := by rw [hrv, show k = -1 by omega]; simp [rvk]
        have hDl := rvk_len B B.length
        rw [hDk] at hDl
        refine lv_iconst (v := iI (0)) hx hb d_MD_reverse_100 rfl ?_
        refine lv_istore_n (lv' := [(2, .int (iI 0)), (1, .int (iI k)), (0, .ref y)]) hx hb d_MD_reverse_101 rfl hl (by decide) rfl (fun ls hl => ?_)
        have loop2 : ∀ (N : Nat) (i9 : Int) (g1 : Nat → Int32) (f1 : dw_M) (H : Heap) (locs : List Loc) (ls : Array Slot), ((B.length : Int) - i9).toNat < N → 0 ≤ i9 → i9 ≤ (B.length : Int) → mdS G f1 y 0 (T.length : Int) (B.length : Int) (Mk.length : Int) (Z.length : Int) (Y.length : Int) (C.length : Int) si un bu ma bt so co gsi gun g1 gma gbt gso gco → (∀ j : Nat, (j : Int) < i9 → j < Mk.length → g1 j = iI (Mk.getD j 0)) → dw G.1 dk_cl (dw_A f sz) s.heap f1 H locs → lv_has ls 3 [(2, .int (iI i9)), (0, .ref y)] → W p l e { frames := 1, locals := 21, cells := 0, slots := 0 } s m args below meth c H locs (0) (0) (MQ below (ct_Q G f sz (fun v f' => v = none ∧ mdP G f' y (sp_reverse T Y B Z))) args s (0) (0) (dw_A f sz)) (F0 m 102 ls []) := by
          intro N
          induction N with
          | zero => intros; omega
          | succ N ih =>
            intro i9 g1 f1 H locs ls hN hk0 hk1 hM1 hnew hw hl
            refine lv_iload_n hx hb d_MD_reverse_102 rfl (lv_at hl 0 rfl) ?_
            refine lv_aload_n hx hb d_MD_reverse_103 rfl (lv_at hl 1 rfl) ?_
            refine gf_MD_68_MD X hw hM1.1 d_MD_reverse_104 ?_
            refine di_icmp_ge (tgt := 128) hx hb d_MD_reverse_107 (by decide) ⟨by omega, by omega⟩ ⟨by omega, by omega⟩ (fun bq107 => ?_) (fun bq107 => ?_)
            · have e9 : sp_reverse T Y B Z = (0, 0, T, Y, Mk, Z) := by rw [sp_reverse, hDk]
              exact cn_vret hx hb hr hlk hw  (⟨rfl, by rw [e9]; exact mdP_of (M := Mk) (C := C) ⟨si, un, bu, ma, bt, so, co, _, _, _, _, _, _, _, (by rw [← hDl] at hM1; exact hM1), hT, ⟨⟨by omega, fun j hj => hnew j (by omega) hj⟩, by rw [← hDk]; exact fun u h => hB.2 u (rvk_mem _ (Nat.le_refl _) u h)⟩, hZ, hMa, hC, hY⟩⟩) (Nat.le_refl _) (Nat.le_refl _) d_MD_reverse_128
            · refine lv_aload_n hx hb d_MD_reverse_110 rfl (lv_at hl 1 rfl) ?_
              refine gf_MD_16_MD X hw hM1.1 d_MD_reverse_111 ?_
              refine lv_iload_n hx hb d_MD_reverse_114 rfl (lv_at hl 0 rfl) ?_
              refine lv_aload_n hx hb d_MD_reverse_115 rfl (lv_at hl 1 rfl) ?_
              refine gf_MD_19_MD X hw hM1.1 d_MD_reverse_116 ?_
              refine lv_iload_n hx hb d_MD_reverse_119 rfl (lv_at hl 0 rfl) ?_
              refine dw_iald hx hb X.K hw 0 hM1.2.2.2.2.1 rfl (i := i9) (by omega) (by omega) (by omega) (hMa.at (by omega) (by omega) (by omega)) d_MD_reverse_120 ?_
              refine dw_iast hx hb X.K hw 0 hM1.2.2.2.1 rfl (i := i9) (by omega) (by omega) (by omega) d_MD_reverse_121 (fun H locs hw => ?_)
              obtain ⟨f3, e_f3⟩ : ∃ g9 : dw_M, g9 = dw_up f1 bu (.inl (G.2.1 0, 60, .inl (upd g1 (i9).toNat (iI (gt Mk i9))))) := ⟨_, rfl⟩
              rw [← e_f3] at hw
              have hM_f3 : mdS G f3 y 0 (T.length : Int) (B.length : Int) (Mk.length : Int) (Z.length : Int) (Y.length : Int) (C.length : Int) si un bu ma bt so co gsi gun (upd g1 (i9).toNat (iI (gt Mk i9))) gma gbt gso gco := by rw [e_f3]; exact hM1.w_bu _
              refine lv_iinc (v := iI (i9 + 1)) (lv' := [(2, .int (iI (i9 + 1))), (0, .ref y)]) hx hb d_MD_reverse_122 hl (k := 0) rfl (iI_add _ _) (by decide) rfl (fun ls hl => ?_)
              refine lv_goto (tgt := 102) hx hb d_MD_reverse_125 (by decide) ?_
              exact ih (i9 + 1) (upd g1 (i9).toNat (iI (gt Mk i9))) _ _ _ _ (by omega) (by omega) (by omega) (hM_f3) (fun j hj hj2 => by
                unfold upd
                by_cases q : j = i9.toNat
                · subst q
                  rw [if_pos rfl, gt_in (by omega) (by omega)]
                · rw [if_neg (by omega)]; exact hnew j (by omega) hj2) hw (lv_sub hl [0, 1] rfl)
        exact loop2 (((B.length : Int) - 0).toNat + 1) (0) (gbu) _ _ _ _ (by omega) (by omega) (by omega) (hM) (fun j h1 h2 => by omega) hw (lv_sub hl [0, 2] rfl)
      · have hg0 := gt_rng hrB k
        have hg1 := gt_rng hrB (k - 1)
        have hbA := b2_01 (hi (gt B (k - 1)))
        have hbB := b2_01 (lw (gt B k))
        refine lv_iload_n hx hb d_MD_reverse_21 rfl (lv_at hl 0 rfl) ?_
        refine di_if_le (tgt := 55) hx hb d_MD_reverse_22 (by decide) ⟨by omega, by omega⟩ (fun bq22 => ?_) (fun bq22 => ?_)
        · have hpr : pr B (k - 1) = false := by rw [show k - 1 = -1 by omega, pr_m1]
          refine lv_iconst (v := iI (0)) hx hb d_MD_reverse_55 rfl ?_
          refine lv_istore_n (lv' := [(2, .int (iI 0)), (1, .int (iI k)), (0, .ref y)]) hx hb d_MD_reverse_56 rfl hl (by decide) rfl (fun ls hl => ?_)
          refine lv_iload_n hx hb d_MD_reverse_57 rfl (lv_at hl 0 rfl) ?_
          refine di_if_eq (tgt := 73) hx hb d_MD_reverse_58 (by decide) ⟨by decide, by decide⟩ (fun _ => ?_) (fun q9 => absurd rfl q9)
          refine lv_aload_n hx hb d_MD_reverse_73 rfl (lv_at hl 2 rfl) ?_
          refine lv_aload_n hx hb d_MD_reverse_74 rfl (lv_at hl 2 rfl) ?_
          refine gf_MD_16_MD X hw hM.1 d_MD_reverse_75 ?_
          refine lv_iload_n hx hb d_MD_reverse_78 rfl (lv_at hl 1 rfl) ?_
          refine dw_iald hx hb X.K hw 0 hM.2.2.2.1 rfl (i := k) (by omega) (by omega) (by omega) (hB.1.at (by omega) (by omega)) d_MD_reverse_79 ?_
          refine cs_MD_64 X hz hw hl.1 hM.1 (c_MD_make l G f1 _ y 0 T Y B Z Mk C (gt B k) (by omega) ⟨si, un, bu, ma, bt, so, co, _, _, _, _, _, _, _, hM, hT, hB, hZ, hMa, hC, hY⟩) ⟨Nat.le_of_ble_eq_true rfl, Nat.le_of_ble_eq_true rfl⟩ ⟨by show 0 + 0 ≤ 0; omega, by show 0 + 0 ≤ 0; omega⟩ (Nat.le_of_ble_eq_true rfl) d_MD_reverse_80 (fun v f3 H locs hp hw hsz9 hkp9 hdm9 => ?_)
          obtain ⟨rfl, hL_f3⟩ := hp
          refine W.eq (g2 := F0 m 83 ls []) rfl ?_
          obtain ⟨si, un, bu, ma, bt, so, co, gsi, gun, gbu, gma, gbt, gso, gco, hM, hT, hB, hZ, hMa, hC, hY⟩ := id hL_f3
          refine lv_iload_n hx hb d_MD_reverse_83 rfl (lv_at hl 0 rfl) ?_
          refine di_if_eq (tgt := 93) hx hb d_MD_reverse_84 (by decide) ⟨by decide, by decide⟩ (fun _ => ?_) (fun q9 => absurd rfl q9)
          refine lv_iload_n hx hb d_MD_reverse_93 rfl (lv_at hl 1 rfl) ?_
          refine lv_iconst (v := iI (1)) hx hb d_MD_reverse_94 rfl ?_
          refine di_sub hx hb d_MD_reverse_95 ?_
          refine lv_istore_n (lv' := [(1, .int (iI (k - 1))), (2, .int (iI 0)), (0, .ref y)]) hx hb d_MD_reverse_96 rfl hl (by decide) rfl (fun ls hl => ?_)
          refine lv_goto (tgt := 17) hx hb d_MD_reverse_97 (by decide) ?_
          exact ih (k - 1) (Mk ++ [gt B k]) _ _ _ _ (by omega) (by omega) (by omega) (by rw [hrv, rvk_1 (by omega) hpr, show k - 1 + 1 = k by omega]; simp) (by rw [List.length_append]; simp; omega) (hL_f3) hw (lv_sub hl [0, 2] rfl)
        · refine lv_aload_n hx hb d_MD_reverse_25 rfl (lv_at hl 1 rfl) ?_
          refine gf_MD_16_MD X hw hM.1 d_MD_reverse_26 ?_
          refine lv_iload_n hx hb d_MD_reverse_29 rfl (lv_at hl 0 rfl) ?_
          refine lv_iconst (v := iI (1)) hx hb d_MD_reverse_30 rfl ?_
          refine di_sub hx hb d_MD_reverse_31 ?_
          refine dw_iald hx hb X.K hw 0 hM.2.2.2.1 rfl (i := k - 1) (by omega) (by omega) (by omega) (hB.1.at (by omega) (by omega)) d_MD_reverse_32 ?_
          refine cs_MD_43 X hz hw hl.1 (c_MD_high l G f1 _ (gt B (k - 1)) ⟨by omega, by omega⟩) ⟨Nat.le_of_ble_eq_true rfl, Nat.le_of_ble_eq_true rfl⟩ ⟨by show 0 + 0 ≤ 0; omega, by show 0 + 0 ≤ 0; omega⟩ (Nat.le_of_ble_eq_true rfl) d_MD_reverse_33 (fun v f9 H locs hp hw hsz9 hkp9 hdm9 => ?_)
          obtain ⟨rfl, hfe⟩ := hp
          rw [hfe] at hw
          refine W.eq (g2 := F0 m 36 ls [.int (iI (b2 (hi (gt B (k - 1)))))]) rfl ?_
          refine di_if_eq (tgt := 55) hx hb d_MD_reverse_36 (by decide) ⟨by omega, by omega⟩ (fun bq36 => ?_) (fun bq36 => ?_)
          · have hpr : pr B (k - 1) = false := by rw [pr, b2_0 bq36, Bool.false_and]
            refine lv_iconst (v := iI (0)) hx hb d_MD_reverse_55 rfl ?_
            refine lv_istore_n (lv' := [(2, .int (iI 0)), (1, .int (iI k)), (0, .ref y)]) hx hb d_MD_reverse_56 rfl hl (by decide) rfl (fun ls hl => ?_)
            refine lv_iload_n hx hb d_MD_reverse_57 rfl (lv_at hl 0 rfl) ?_
            refine di_if_eq (tgt := 73) hx hb d_MD_reverse_58 (by decide) ⟨by decide, by decide⟩ (fun _ => ?_) (fun q9 => absurd rfl q9)
            refine lv_aload_n hx hb d_MD_reverse_73 rfl (lv_at hl 2 rfl) ?_
            refine lv_aload_n hx hb d_MD_reverse_74 rfl (lv_at hl 2 rfl) ?_
            refine gf_MD_16_MD X hw hM.1 d_MD_reverse_75 ?_
            refine lv_iload_n hx hb d_MD_reverse_78 rfl (lv_at hl 1 rfl) ?_
            refine dw_iald hx hb X.K hw 0 hM.2.2.2.1 rfl (i := k) (by omega) (by omega) (by omega) (hB.1.at (by omega) (by omega)) d_MD_reverse_79 ?_
            refine cs_MD_64 X hz hw hl.1 hM.1 (c_MD_make l G f1 _ y 0 T Y B Z Mk C (gt B k) (by omega) ⟨si, un, bu, ma, bt, so, co, _, _, _, _, _, _, _, hM, hT, hB, hZ, hMa, hC, hY⟩) ⟨Nat.le_of_ble_eq_true rfl, Nat.le_of_ble_eq_true rfl⟩ ⟨by show 0 + 0 ≤ 0; omega, by show 0 + 0 ≤ 0; omega⟩ (Nat.le_of_ble_eq_true rfl) d_MD_reverse_80 (fun v f3 H locs hp hw hsz9 hkp9 hdm9 => ?_)
            obtain ⟨rfl, hL_f3⟩ := hp
            refine W.eq (g2 := F0 m 83 ls []) rfl ?_
            obtain ⟨si, un, bu, ma, bt, so, co, gsi, gun, gbu, gma, gbt, gso, gco, hM, hT, hB, hZ, hMa, hC, hY⟩ := id hL_f3
            refine lv_iload_n hx hb d_MD_reverse_83 rfl (lv_at hl 0 rfl) ?_
            refine di_if_eq (tgt := 93) hx hb d_MD_reverse_84 (by decide) ⟨by decide, by decide⟩ (fun _ => ?_) (fun q9 => absurd rfl q9)
            refine lv_iload_n hx hb d_MD_reverse_93 rfl (lv_at hl 1 rfl) ?_
            refine lv_iconst (v := iI (1)) hx hb d_MD_reverse_94 rfl ?_
            refine di_sub hx hb d_MD_reverse_95 ?_
            refine lv_istore_n (lv' := [(1, .int (iI (k - 1))), (2, .int (iI 0)), (0, .ref y)]) hx hb d_MD_reverse_96 rfl hl (by decide) rfl (fun ls hl => ?_)
            refine lv_goto (tgt := 17) hx hb d_MD_reverse_97 (by decide) ?_
            exact ih (k - 1) (Mk ++ [gt B k]) _ _ _ _ (by omega) (by omega) (by omega) (by rw [hrv, rvk_1 (by omega) hpr, show k - 1 + 1 = k by omega]; simp) (by rw [List.length_append]; simp; omega) (hL_f3) hw (lv_sub hl [0, 2] rfl)
          · refine lv_aload_n hx hb d_MD_reverse_39 rfl (lv_at hl 1 rfl) ?_
            refine gf_MD_16_MD X hw hM.1 d_MD_reverse_40 ?_
            refine lv_iload_n hx hb d_MD_reverse_43 rfl (lv_at hl 0 rfl) ?_
            refine dw_iald hx hb X.K hw 0 hM.2.2.2.1 rfl (i := k) (by omega) (by omega) (by omega) (hB.1.at (by omega) (by omega)) d_MD_reverse_44 ?_
            refine cs_MD_47 X hz hw hl.1 (c_MD_low l G f1 _ (gt B k) ⟨by omega, by omega⟩) ⟨Nat.le_of_ble_eq_true rfl, Nat.le_of_ble_eq_true rfl⟩ ⟨by show 0 + 0 ≤ 0; omega, by show 0 + 0 ≤ 0; omega⟩ (Nat.le_of_ble_eq_true rfl) d_MD_reverse_45 (fun v f9 H locs hp hw hsz9 hkp9 hdm9 => ?_)
            obtain ⟨rfl, hfe⟩ := hp
            rw [hfe] at hw
            refine W.eq (g2 := F0 m 48 ls [.int (iI (b2 (lw (gt B k))))]) rfl ?_
            refine di_if_eq (tgt := 55) hx hb d_MD_reverse_48 (by decide) ⟨by omega, by omega⟩ (fun bq48 => ?_) (fun bq48 => ?_)
            · have hpr : pr B (k - 1) = false := by rw [pr, show k - 1 + 1 = k by omega, b2_0 bq48, Bool.and_false]
              refine lv_iconst (v := iI (0)) hx hb d_MD_reverse_55 rfl ?_
              refine lv_istore_n (lv' := [(2, .int (iI 0)), (1, .int (iI k)), (0, .ref y)]) hx hb d_MD_reverse_56 rfl hl (by decide) rfl (fun ls hl => ?_)
              refine lv_iload_n hx hb d_MD_reverse_57 rfl (lv_at hl 0 rfl) ?_
              refine di_if_eq (tgt := 73) hx hb d_MD_reverse_58 (by decide) ⟨by decide, by decide⟩ (fun _ => ?_) (fun q9 => absurd rfl q9)
              refine lv_aload_n hx hb d_MD_reverse_73 rfl (lv_at hl 2 rfl) ?_
              refine lv_aload_n hx hb d_MD_reverse_74 rfl (lv_at hl 2 rfl) ?_
              refine gf_MD_16_MD X hw hM.1 d_MD_reverse_75 ?_
              refine lv_iload_n hx hb d_MD_reverse_78 rfl (lv_at hl 1 rfl) ?_
              refine dw_iald hx hb X.K hw 0 hM.2.2.2.1 rfl (i := k) (by omega) (by omega) (by omega) (hB.1.at (by omega) (by omega)) d_MD_reverse_79 ?_
              refine cs_MD_64 X hz hw hl.1 hM.1 (c_MD_make l G f1 _ y 0 T Y B Z Mk C (gt B k) (by omega) ⟨si, un, bu, ma, bt, so, co, _, _, _, _, _, _, _, hM, hT, hB, hZ, hMa, hC, hY⟩) ⟨Nat.le_of_ble_eq_true rfl, Nat.le_of_ble_eq_true rfl⟩ ⟨by show 0 + 0 ≤ 0; omega, by show 0 + 0 ≤ 0; omega⟩ (Nat.le_of_ble_eq_true rfl) d_MD_reverse_80 (fun v f3 H locs hp hw hsz9 hkp9 hdm9 => ?_)
              obtain ⟨rfl, hL_f3⟩ := hp
              refine W.eq (g2 := F0 m 83 ls []) rfl ?_
              obtain ⟨si, un, bu, ma, bt, so, co, gsi, gun, gbu, gma, gbt, gso, gco, hM, hT, hB, hZ, hMa, hC, hY⟩ := id hL_f3
              refine lv_iload_n hx hb d_MD_reverse_83 rfl (lv_at hl 0 rfl) ?_
              refine di_if_eq (tgt := 93) hx hb d_MD_reverse_84 (by decide) ⟨by decide, by decide⟩ (fun _ => ?_) (fun q9 => absurd rfl q9)
              refine lv_iload_n hx hb d_MD_reverse_93 rfl (lv_at hl 1 rfl) ?_
              refine lv_iconst (v := iI (1)) hx hb d_MD_reverse_94 rfl ?_
              refine di_sub hx hb d_MD_reverse_95 ?_
              refine lv_istore_n (lv' := [(1, .int (iI (k - 1))), (2, .int (iI 0)), (0, .ref y)]) hx hb d_MD_reverse_96 rfl hl (by decide) rfl (fun ls hl => ?_)
              refine lv_goto (tgt := 17) hx hb d_MD_reverse_97 (by decide) ?_
              exact ih (k - 1) (Mk ++ [gt B k]) _ _ _ _ (by omega) (by omega) (by omega) (by rw [hrv, rvk_1 (by omega) hpr, show k - 1 + 1 = k by omega]; simp) (by rw [List.length_append]; simp; omega) (hL_f3) hw (lv_sub hl [0, 2] rfl)
            · have hpr : pr B (k - 1) = true := by rw [pr, show k - 1 + 1 = k by omega, b2_1 bq36, b2_1 bq48]; rfl
              refine lv_iconst (v := iI (1)) hx hb d_MD_reverse_51 rfl ?_
              refine lv_goto (tgt := 56) hx hb d_MD_reverse_52 (by decide) ?_
              refine lv_istore_n (lv' := [(2, .int (iI 1)), (1, .int (iI k)), (0, .ref y)]) hx hb d_MD_reverse_56 rfl hl (by decide) rfl (fun ls hl => ?_)
              refine lv_iload_n hx hb d_MD_reverse_57 rfl (lv_at hl 0 rfl) ?_
              refine di_if_eq (tgt := 73) hx hb d_MD_reverse_58 (by decide) ⟨by decide, by decide⟩ (fun q9 => absurd q9 (by decide)) (fun _ => ?_)
              refine lv_aload_n hx hb d_MD_reverse_61 rfl (lv_at hl 2 rfl) ?_
              refine lv_aload_n hx hb d_MD_reverse_62 rfl (lv_at hl 2 rfl) ?_
              refine gf_MD_16_MD X hw hM.1 d_MD_reverse_63 ?_
              refine lv_iload_n hx hb d_MD_reverse_66 rfl (lv_at hl 1 rfl) ?_
              refine lv_iconst (v := iI (1)) hx hb d_MD_reverse_67 rfl ?_
              refine di_sub hx hb d_MD_reverse_68 ?_
              refine dw_iald hx hb X.K hw 0 hM.2.2.2.1 rfl (i := k - 1) (by omega) (by omega) (by omega) (hB.1.at (by omega) (by omega)) d_MD_reverse_69 ?_
              refine cs_MD_64 X hz hw hl.1 hM.1 (c_MD_make l G f1 _ y 0 T Y B Z Mk C (gt B (k - 1)) (by omega) ⟨si, un, bu, ma, bt, so, co, _, _, _, _, _, _, _, hM, hT, hB, hZ, hMa, hC, hY⟩) ⟨Nat.le_of_ble_eq_true rfl, Nat.le_of_ble_eq_true rfl⟩ ⟨by show 0 + 0 ≤ 0; omega, by show 0 + 0 ≤ 0; omega⟩ (Nat.le_of_ble_eq_true rfl) d_MD_reverse_70 (fun v f2 H locs hp hw hsz9 hkp9 hdm9 => ?_)
              obtain ⟨rfl, hL_f2⟩ := hp
              refine W.eq (g2 := F0 m 73 ls []) rfl ?_
              obtain ⟨si, un, bu, ma, bt, so, co, gsi, gun, gbu, gma, gbt, gso, gco, hM, hT, hB, hZ, hMa, hC, hY⟩ := id hL_f2
              refine lv_aload_n hx hb d_MD_reverse_73 rfl (lv_at hl 2 rfl) ?_
              refine lv_aload_n hx hb d_MD_reverse_74 rfl (lv_at hl 2 rfl) ?_
              refine gf_MD_16_MD X hw hM.1 d_MD_reverse_75 ?_
              refine lv_iload_n hx hb d_MD_reverse_78 rfl (lv_at hl 1 rfl) ?_
              refine dw_iald hx hb X.K hw 0 hM.2.2.2.1 rfl (i := k) (by omega) (by omega) (by omega) (hB.1.at (by omega) (by omega)) d_MD_reverse_79 ?_
              refine cs_MD_64 X hz hw hl.1 hM.1 (c_MD_make l G f2 _ y 0 T Y B Z (Mk ++ [gt B (k - 1)]) C (gt B k) (by simp; omega) ⟨si, un, bu, ma, bt, so, co, _, _, _, _, _, _, _, hM, hT, hB, hZ, hMa, hC, hY⟩) ⟨Nat.le_of_ble_eq_true rfl, Nat.le_of_ble_eq_true rfl⟩ ⟨by show 0 + 0 ≤ 0; omega, by show 0 + 0 ≤ 0; omega⟩ (Nat.le_of_ble_eq_true rfl) d_MD_reverse_80 (fun v f3 H locs hp hw hsz9 hkp9 hdm9 => ?_)
              obtain ⟨rfl, hL_f3⟩ := hp
              refine W.eq (g2 := F0 m 83 ls []) rfl ?_
              obtain ⟨si, un, bu, ma, bt, so, co, gsi, gun, gbu, gma, gbt, gso, gco, hM, hT, hB, hZ, hMa, hC, hY⟩ := id hL_f3
              refine lv_iload_n hx hb d_MD_reverse_83 rfl (lv_at hl 0 rfl) ?_
              refine di_if_eq (tgt := 93) hx hb d_MD_reverse_84 (by decide) ⟨by decide, by decide⟩ (fun q9 => absurd q9 (by decide)) (fun _ => ?_)
              refine lv_iload_n hx hb d_MD_reverse_87 rfl (lv_at hl 1 rfl) ?_
              refine lv_iconst (v := iI (2)) hx hb d_MD_reverse_88 rfl ?_
              refine di_sub hx hb d_MD_reverse_89 ?_
              refine lv_goto (tgt := 96) hx hb d_MD_reverse_90 (by decide) ?_
              refine lv_istore_n (lv' := [(1, .int (iI (k - 2))), (2, .int (iI 1)), (0, .ref y)]) hx hb d_MD_reverse_96 rfl hl (by decide) rfl (fun ls hl => ?_)
              refine lv_goto (tgt := 17) hx hb d_MD_reverse_97 (by decide) ?_
              exact ih (k - 2) (Mk ++ [gt B (k - 1)] ++ [gt B k]) _ _ _ _ (by omega) (by omega) (by omega) (by rw [hrv, rvk_2 (by omega) hpr, show k - 2 + 1 = k - 1 by omega]; simp) (by rw [List.length_append, List.length_append]; simp; omega) (hL_f3) hw (lv_sub hl [0, 2] rfl)
  exact loop (((B.length : Int) - 1 + 1).toNat + 1) ((B.length : Int) - 1) ([]) _ _ _ _ (by omega) (by omega) (by omega) (by rw [show ((B.length : Int) - 1 + 1).toNat = B.length by omega]; rfl) (by simp) (⟨si, un, bu, ma, bt, so, co, _, _, _, _, _, _, _, hM_f2, hT, hB, hZ, (rM.nil _), hC, hY⟩) hw (lv_sub hl [0, 1] rfl)
set_option maxRecDepth 100000 in
set_option maxHeartbeats 4000000 in
theorem c_MD_stands (l : Launch) (G : ct_G) (f : dw_M) (sz : Nat) (y : Nat) (th : Int) (T Y : List (List Int)) (B Z M C : List Int) (ka kb k : Int) (ha : isT T ka) (hb0 : isT T kb) (hk : -1000 ≤ k ∧ k ≤ 1000) (hL : mdL G f y th T Y B Z M C) : cn l y_MD_stands w_MD_stands (1) (22) G f sz [.ref y, .int (iI ka), .int (iI kb), .int (iI k)] (fun v f' => v = some (.int (iI (b2 (sta (tt T ka) (tt T kb) k)))) ∧ f' = f) (0) (0) := by
  refine cn_of (own := "TextDeskModel") (nm := "stands") (ds := "(III)Z") (by decide) (Nat.le_of_ble_eq_true rfl) ?_
  intro p e s m args below meth c ls X hnm hr hlk hs0 hz hw hl
  have hx := X.1
  have hb := X.2.1
  have hl : lv_has ls 6 [(0, .ref y), (1, .int (iI ka)), (2, .int (iI kb)), (3, .int (iI k))] := hl
  obtain ⟨si, un, bu, ma, bt, so, co, gsi, gun, gbu, gma, gbt, gso, gco, hM, hT, hB, hZ, hMa, hC, hY⟩ := id hL
  have hTl := hT.1
  have hBl := hB.1.1
  have hZl := hZ.1.1
  have hYl := hY.1
  have hCl := hC.1
  have hla := hT.len ka
  have hlb := hT.len kb
  have ha0 := ha.1
  have ha1 := ha.2
  have hb1 := hb0.1
  have hb2 := hb0.2
  obtain ⟨hk0, hk1⟩ := hk
  refine lv_iload_n hx hb d_MD_stands_0 rfl (lv_at hl 3 rfl) ?_
  refine di_if_lt (tgt := 21) hx hb d_MD_stands_1 (by decide) ⟨by omega, by omega⟩ (fun bq1 => ?_) (fun bq1 => ?_)
  · refine lv_iconst (v := iI (0)) hx hb d_MD_stands_21 rfl ?_
    exact cn_zret hx hb hr hlk hw rfl (⟨by rw [show sta (tt T ka) (tt T kb) k = false from decide_eq_false (fun q => by omega)]; rfl, rfl⟩) (Nat.le_refl _) (Nat.le_refl _) d_MD_stands_22
  · refine lv_iload_n hx hb d_MD_stands_4 rfl (lv_at hl 3 rfl) ?_
    refine lv_aload_n hx hb d_MD_stands_5 rfl (lv_at hl 0 rfl) ?_
    refine gf_MD_7_MD X hw hM.1 d_MD_stands_6 ?_
    refine lv_iload_n hx hb d_MD_stands_9 rfl (lv_at hl 2 rfl) ?_
    refine dw_iald hx hb X.K hw 0 hM.2.1 rfl (i := kb) (by omega) (by omega) (by omega) (hT.sz hb0) d_MD_stands_10 ?_
    refine di_add hx hb d_MD_stands_11 ?_
    refine lv_aload_n hx hb d_MD_stands_12 rfl (lv_at hl 0 rfl) ?_
    refine gf_MD_7_MD X hw hM.1 d_MD_stands_13 ?_
    refine lv_iload_n hx hb d_MD_stands_16 rfl (lv_at hl 1 rfl) ?_
    refine dw_iald hx hb X.K hw 0 hM.2.1 rfl (i := ka) (by omega) (by omega) (by omega) (hT.sz ha) d_MD_stands_17 ?_
    refine di_icmp_le (tgt := 23) hx hb d_MD_stands_18 (by decide) ⟨by omega, by omega⟩ ⟨by omega, by omega⟩ (fun bq18 => ?_) (fun bq18 => ?_)
    · refine lv_iconst (v := iI (1)) hx hb d_MD_stands_23 rfl ?_
      refine lv_istore (lv' := [(4, .int (iI 1)), (0, .ref y), (1, .int (iI ka)), (2, .int (iI kb)), (3, .int (iI k))]) hx hb d_MD_stands_24 hl (by decide) rfl (fun ls hl => ?_)
      refine lv_iconst (v := iI (0)) hx hb d_MD_stands_26 rfl ?_
      refine lv_istore (lv' := [(5, .int (iI 0)), (4, .int (iI 1)), (0, .ref y), (1, .int (iI ka)), (2, .int (iI kb)), (3, .int (iI k))]) hx hb d_MD_stands_27 hl (by decide) rfl (fun ls hl => ?_)
      have loop : ∀ (N : Nat) (i : Int) (sm : Bool) (H : Heap) (locs : List Loc) (ls : Array Slot), (((tt T kb).length : Int) - i).toNat < N → 0 ≤ i → i ≤ ((tt T kb).length : Int) → sm = decide (∀ j : Nat, j < i.toNat → gt (tt T ka) (k + j) = gt (tt T kb) j) → dw G.1 dk_cl (dw_A f sz) s.heap f H locs → lv_has ls 6 [(5, .int (iI i)), (4, .int (iI (b2 sm))), (0, .ref y), (1, .int (iI ka)), (2, .int (iI kb)), (3, .int (iI k))] → W p l e { frames := 1, locals := 22, cells := 0, slots := 0 } s m args below meth c H locs (0) (0) (MQ below (ct_Q G f sz (fun v f' => v = some (.int (iI (b2 (sta (tt T ka) (tt T kb) k)))) ∧ f' = f)) args s (0) (0) (dw_A f sz)) (F0 m 29 ls []) := by
        intro N
        induction N with
        | zero => intros; omega
        | succ N ih =>
          intro i sm H locs ls hN hi0 hi1 hsm hw hl
          refine lv_iload hx hb d_MD_stands_29 (lv_at hl 0 rfl) ?_
          refine lv_aload_n hx hb d_MD_stands_31 rfl (lv_at hl 2 rfl) ?_
          refine gf_MD_7_MD X hw hM.1 d_MD_stands_32 ?_
          refine lv_iload_n hx hb d_MD_stands_35 rfl (lv_at hl 4 rfl) ?_
          refine dw_iald hx hb X.K hw 0 hM.2.1 rfl (i := kb) (by omega) (by omega) (by omega) (hT.sz hb0) d_MD_stands_36 ?_
          refine di_icmp_ge (tgt := 77) hx hb d_MD_stands_37 (by decide) ⟨by omega, by omega⟩ ⟨by omega, by omega⟩ (fun bq37 => ?_) (fun bq37 => ?_)
          · have hres : sta (tt T ka) (tt T kb) k = sm := by
              rw [hsm]
              unfold sta
              refine decide_eq_decide.mpr ⟨fun q j hj => q.2.2 j (by omega), fun q => ⟨by omega, by omega, fun j hj => q j (by omega)⟩⟩
            have hb01 := b2_01 sm
            refine lv_iload hx hb d_MD_stands_77 (lv_at hl 1 rfl) ?_
            exact cn_zret hx hb hr hlk hw (by rcases hb01 with h | h <;> rw [h] <;> rfl) (⟨by rw [hres], rfl⟩) (Nat.le_refl _) (Nat.le_refl _) d_MD_stands_79
          · have hb01 := b2_01 sm
            have hga := gt_rng (hT.rng ka) (k + i)
            have hgb := gt_rng (hT.rng kb) i
            refine lv_iload hx hb d_MD_stands_40 (lv_at hl 1 rfl) ?_
            refine di_if_eq (tgt := 68) hx hb d_MD_stands_42 (by decide) ⟨by omega, by omega⟩ (fun bq42 => ?_) (fun bq42 => ?_)
            · refine lv_iconst (v := iI (0)) hx hb d_MD_stands_68 rfl ?_
              rw [show (0 : Int) = b2 false from rfl]
              refine lv_istore (lv' := [(4, .int (iI (b2 false))), (5, .int (iI i)), (0, .ref y), (1, .int (iI ka)), (2, .int (iI kb)), (3, .int (iI k))]) hx hb d_MD_stands_69 hl (by decide) rfl (fun ls hl => ?_)
              refine lv_iinc (v := iI (i + 1)) (lv' := [(5, .int (iI (i + 1))), (4, .int (iI (b2 false))), (0, .ref y), (1, .int (iI ka)), (2, .int (iI kb)), (3, .int (iI k))]) hx hb d_MD_stands_71 hl (k := 1) rfl (iI_add _ _) (by decide) rfl (fun ls hl => ?_)
              refine lv_goto (tgt := 29) hx hb d_MD_stands_74 (by decide) ?_
              exact ih (i + 1) (false) _ _ _ (by omega) (by omega) (by omega) (by
                have h9 := of_decide_eq_false ((hsm.symm.trans (b2_0 bq42)))
                exact (decide_eq_false (fun q => h9 (fun j hj => q j (by omega)))).symm) hw (lv_sub hl [0, 1, 2, 3, 4, 5] rfl)
            · have h9 := of_decide_eq_true (hsm.symm.trans (b2_1 bq42))
              refine lv_aload_n hx hb d_MD_stands_45 rfl (lv_at hl 2 rfl) ?_
              refine lv_iload_n hx hb d_MD_stands_46 rfl (lv_at hl 3 rfl) ?_
              refine lv_iload_n hx hb d_MD_stands_47 rfl (lv_at hl 5 rfl) ?_
              refine lv_iload hx hb d_MD_stands_48 (lv_at hl 0 rfl) ?_
              refine di_add hx hb d_MD_stands_50 ?_
              refine cs_MD_39 X hz hw hl.1 hM.1 (c_MD_unitOf l G f _ y th T Y B Z M C ka (k + i) ha ⟨by omega, by omega⟩ ⟨si, un, bu, ma, bt, so, co, _, _, _, _, _, _, _, hM, hT, hB, hZ, hMa, hC, hY⟩) ⟨Nat.le_of_ble_eq_true rfl, Nat.le_of_ble_eq_true rfl⟩ ⟨by show 0 + 0 ≤ 0; omega, by show 0 + 0 ≤ 0; omega⟩ (Nat.le_of_ble_eq_true rfl) d_MD_stands_51 (fun v f9 H locs hp hw hsz9 hkp9 hdm9 => ?_)
              obtain ⟨rfl, hfe⟩ := hp
              rw [hfe] at hw
              refine W.eq (g2 := F0 m 54 ls [.int (iI (gt (tt T ka) (k + i)))]) rfl ?_
              refine lv_aload_n hx hb d_MD_stands_54 rfl (lv_at hl 2 rfl) ?_
              refine lv_iload_n hx hb d_MD_stands_55 rfl (lv_at hl 4 rfl) ?_
              refine lv_iload hx hb d_MD_stands_56 (lv_at hl 0 rfl) ?_
              refine cs_MD_39 X hz hw hl.1 hM.1 (c_MD_unitOf l G f _ y th T Y B Z M C kb i hb0 ⟨by omega, by omega⟩ ⟨si, un, bu, ma, bt, so, co, _, _, _, _, _, _, _, hM, hT, hB, hZ, hMa, hC, hY⟩) ⟨Nat.le_of_ble_eq_true rfl, Nat.le_of_ble_eq_true rfl⟩ ⟨by show 0 + 0 ≤ 0; omega, by show 0 + 0 ≤ 0; omega⟩ (Nat.le_of_ble_eq_true rfl) d_MD_stands_58 (fun v f9 H locs hp hw hsz9 hkp9 hdm9 => ?_)
              obtain ⟨rfl, hfe⟩ := hp
              rw [hfe] at hw
              refine W.eq (g2 := F0 m 61 ls [.int (iI (gt (tt T kb) i)), .int (iI (gt (tt T ka) (k + i)))]) rfl ?_
              refine di_icmp_ne (tgt := 68) hx hb d_MD_stands_61 (by decide) ⟨by omega, by omega⟩ ⟨by omega, by omega⟩ (fun bq61 => ?_) (fun bq61 => ?_)
              · refine lv_iconst (v := iI (0)) hx hb d_MD_stands_68 rfl ?_
                rw [show (0 : Int) = b2 false from rfl]
                refine lv_istore (lv' := [(4, .int (iI (b2 false))), (5, .int (iI i)), (0, .ref y), (1, .int (iI ka)), (2, .int (iI kb)), (3, .int (iI k))]) hx hb d_MD_stands_69 hl (by decide) rfl (fun ls hl => ?_)
                refine lv_iinc (v := iI (i + 1)) (lv' := [(5, .int (iI (i + 1))), (4, .int (iI (b2 false))), (0, .ref y), (1, .int (iI ka)), (2, .int (iI kb)), (3, .int (iI k))]) hx hb d_MD_stands_71 hl (k := 1) rfl (iI_add _ _) (by decide) rfl (fun ls hl => ?_)
                refine lv_goto (tgt := 29) hx hb d_MD_stands_74 (by decide) ?_
                exact ih (i + 1) (false) _ _ _ (by omega) (by omega) (by omega) (by
                  refine (decide_eq_false (fun q => ?_)).symm
                  have h8 := q i.toNat (by omega)
                  rw [show ((i.toNat : Nat) : Int) = i by omega] at h8
                  omega) hw (lv_sub hl [0, 1, 2, 3, 4, 5] rfl)
              · refine lv_iconst (v := iI (1)) hx hb d_MD_stands_64 rfl ?_
                refine lv_goto (tgt := 69) hx hb d_MD_stands_65 (by decide) ?_
                rw [show (1 : Int) = b2 true from rfl]
                refine lv_istore (lv' := [(4, .int (iI (b2 true))), (5, .int (iI i)), (0, .ref y), (1, .int (iI ka)), (2, .int (iI kb)), (3, .int (iI k))]) hx hb d_MD_stands_69 hl (by decide) rfl (fun ls hl => ?_)
                refine lv_iinc (v := iI (i + 1)) (lv' := [(5, .int (iI (i + 1))), (4, .int (iI (b2 true))), (0, .ref y), (1, .int (iI ka)), (2, .int (iI kb)), (3, .int (iI k))]) hx hb d_MD_stands_71 hl (k := 1) rfl (iI_add _ _) (by decide) rfl (fun ls hl => ?_)
                refine lv_goto (tgt := 29) hx hb d_MD_stands_74 (by decide) ?_
                exact ih (i + 1) (true) _ _ _ (by omega) (by omega) (by omega) (by
                  refine (decide_eq_true (fun j hj => ?_)).symm
                  by_cases q : (j : Int) = i
                  · rw [q]; omega
                  · exact h9 j (by omega)) hw (lv_sub hl [0, 1, 2, 3, 4, 5] rfl)
      exact loop ((((tt T kb).length : Int) - 0).toNat + 1) (0) (true) _ _ _ (by omega) (by omega) (by omega) ((decide_eq_true (fun j hj => by omega)).symm) hw (lv_sub hl [0, 1, 2, 3, 4, 5] rfl)
    · refine lv_iconst (v := iI (0)) hx hb d_MD_stands_21 rfl ?_
      exact cn_zret hx hb hr hlk hw rfl (⟨by rw [show sta (tt T ka) (tt T kb) k = false from decide_eq_false (fun q => by omega)]; rfl, rfl⟩) (Nat.le_refl _) (Nat.le_refl _) d_MD_stands_22
set_option maxRecDepth 100000 in
set_option maxHeartbeats 4000000 in
theorem c_MD_replace (l : Launch) (G : ct_G) (f : dw_M) (sz : Nat) (y : Nat) (th : Int) (T Y : List (List Int)) (B Z M C : List Int) (ka : Int) (kb : Int) (kc : Int) (hka : iR ka) (hkb : iR kb) (hkc : iR kc) (hL : mdL G f y th T Y B Z M C) : cn l y_MD_replace w_MD_replace (2) (47) G f sz [.ref y, .int (iI ka), .int (iI kb), .int (iI kc)] (fun v f' => v = some (.int (iI (sp_replace T Y B Z ka kb kc).2.1)) ∧ mdP G f' y (sp_replace T Y B Z ka kb kc)) (0) (0) := by
  refine cn_of (own := "TextDeskModel") (nm := "replace") (ds := "(III)I") (by decide) (Nat.le_of_ble_eq_true rfl) ?_
  intro p e s m args below meth c ls X hnm hr hlk hs0 hz hw hl
  have hx := X.1
  have hb := X.2.1
  have hl : lv_has ls 6 [(0, .ref y), (1, .int (iI ka)), (2, .int (iI kb)), (3, .int (iI kc))] := hl
  obtain ⟨si, un, bu, ma, bt, so, co, gsi, gun, gbu, gma, gbt, gso, gco, hM, hT, hB, hZ, hMa, hC, hY⟩ := id hL
  have hTl := hT.1
  have hBl := hB.1.1
  have hZl := hZ.1.1
  have hYl := hY.1
  have hCl := hC.1
  obtain ⟨hka0, hka1⟩ := hka
  obtain ⟨hkb0, hkb1⟩ := hkb
  obtain ⟨hkc0, hkc1⟩ := hkc
  refine lv_aload_n hx hb d_MD_replace_0 rfl (lv_at hl 0 rfl) ?_
  refine lv_aload_n hx hb d_MD_replace_1 rfl (lv_at hl 0 rfl) ?_
  refine lv_iload_n hx hb d_MD_replace_2 rfl (lv_at hl 1 rfl) ?_
  refine cs_MD_71 X hz hw hl.1 hM.1 (c_MD_isText l G f _ y th T Y B Z M C ka ⟨by omega, by omega⟩ ⟨si, un, bu, ma, bt, so, co, _, _, _, _, _, _, _, hM, hT, hB, hZ, hMa, hC, hY⟩) ⟨Nat.le_of_ble_eq_true rfl, Nat.le_of_ble_eq_true rfl⟩ ⟨by show 0 + 0 ≤ 0; omega, by show 0 + 0 ≤ 0; omega⟩ (Nat.le_of_ble_eq_true rfl) d_MD_replace_3 (fun v f9 H locs hp hw hsz9 hkp9 hdm9 => ?_)
  obtain ⟨rfl, hfe⟩ := hp
  rw [hfe] at hw
  refine W.eq (g2 := F0 m 6 ls [.int (iI (b2 (decide (isT T ka)))), .ref y]) rfl ?_
  have hbt0 := b2_01 (decide (isT T ka))
  refine di_if_eq (tgt := 25) hx hb d_MD_replace_6 (by decide) ⟨by omega, by omega⟩ (fun bq6 => ?_) (fun bq6 => ?_)
  · have nT : ¬ isT T ka := of_decide_eq_false (b2_0 (by omega))
    refine lv_iconst (v := iI (1)) hx hb d_MD_replace_25 rfl ?_
    refine lv_goto (tgt := 43) hx hb d_MD_replace_26 (by decide) ?_
    refine pf_MD_31_MD X hw hM.1 rfl rfl d_MD_replace_43 (fun H locs hw => ?_)
    obtain ⟨f1, e_f1⟩ : ∃ g9 : dw_M, g9 = dw_up f y (.inr (6, [.int (iI 1), .int (iI ((T.length : Int))), .ref si, .ref un, .int (iI ((B.length : Int))), .ref bu, .int (iI ((M.length : Int))), .ref ma, .int (iI ((Z.length : Int))), .ref bt, .int (iI ((Y.length : Int))), .ref so, .int (iI ((C.length : Int))), .ref co])) := ⟨_, rfl⟩
    rw [← e_f1] at hw
    have hM_f1 : mdS G f1 y 1 (T.length : Int) (B.length : Int) (M.length : Int) (Z.length : Int) (Y.length : Int) (C.length : Int) si un bu ma bt so co gsi gun gbu gma gbt gso gco := by rw [e_f1]; exact hM.obj 1 (T.length : Int) (B.length : Int) (M.length : Int) (Z.length : Int) (Y.length : Int) (C.length : Int)
    refine lv_aload_n hx hb d_MD_replace_46 rfl (lv_at hl 0 rfl) ?_
    refine gf_MD_31_MD X hw hM_f1.1 d_MD_replace_47 ?_
    refine di_if_le (tgt := 55) hx hb d_MD_replace_50 (by decide) ⟨by decide, by decide⟩ (fun q9 => absurd q9 (by decide)) (fun _ => ?_)
    refine lv_iconst (v := iI (0)) hx hb d_MD_replace_53 rfl ?_
    have e9 : sp_replace T Y B Z ka kb kc = (1, 0, T, Y, B, Z) := by rw [sp_replace, if_pos (fun q => nT q.1)]
    exact cn_iret hx hb hr hlk hw  (⟨by rw [e9], by rw [e9]; exact mdP_of (M := M) (C := C) ⟨si, un, bu, ma, bt, so, co, _, _, _, _, _, _, _, hM_f1, hT, hB, hZ, hMa, hC, hY⟩⟩) (Nat.le_refl _) (Nat.le_refl _) d_MD_replace_54
  · have hT0 : isT T ka := of_decide_eq_true (b2_1 (by omega))
    have hT0a := hT0.1
    have hT0b := hT0.2
    have hT0l := hT.len ka
    refine lv_aload_n hx hb d_MD_replace_9 rfl (lv_at hl 0 rfl) ?_
    refine lv_iload_n hx hb d_MD_replace_10 rfl (lv_at hl 2 rfl) ?_
    refine cs_MD_71 X hz hw hl.1 hM.1 (c_MD_isText l G f _ y th T Y B Z M C kb ⟨by omega, by omega⟩ ⟨si, un, bu, ma, bt, so, co, _, _, _, _, _, _, _, hM, hT, hB, hZ, hMa, hC, hY⟩) ⟨Nat.le_of_ble_eq_true rfl, Nat.le_of_ble_eq_true rfl⟩ ⟨by show 0 + 0 ≤ 0; omega, by show 0 + 0 ≤ 0; omega⟩ (Nat.le_of_ble_eq_true rfl) d_MD_replace_11 (fun v f9 H locs hp hw hsz9 hkp9 hdm9 => ?_)
    obtain ⟨rfl, hfe⟩ := hp
    rw [hfe] at hw
    refine W.eq (g2 := F0 m 14 ls [.int (iI (b2 (decide (isT T kb)))), .ref y]) rfl ?_
    have hbt1 := b2_01 (decide (isT T kb))
    refine di_if_eq (tgt := 25) hx hb d_MD_replace_14 (by decide) ⟨by omega, by omega⟩ (fun bq14 => ?_) (fun bq14 => ?_)
    · have nT : ¬ isT T kb := of_decide_eq_false (b2_0 (by omega))
      refine lv_iconst (v := iI (1)) hx hb d_MD_replace_25 rfl ?_
      refine lv_goto (tgt := 43) hx hb d_MD_replace_26 (by decide) ?_
      refine pf_MD_31_MD X hw hM.1 rfl rfl d_MD_replace_43 (fun H locs hw => ?_)
      obtain ⟨f2, e_f2⟩ : ∃ g9 : dw_M, g9 = dw_up f y (.inr (6, [.int (iI 1), .int (iI ((T.length : Int))), .ref si, .ref un, .int (iI ((B.length : Int))), .ref bu, .int (iI ((M.length : Int))), .ref ma, .int (iI ((Z.length : Int))), .ref bt, .int (iI ((Y.length : Int))), .ref so, .int (iI ((C.length : Int))), .ref co])) := ⟨_, rfl⟩
      rw [← e_f2] at hw
      have hM_f2 : mdS G f2 y 1 (T.length : Int) (B.length : Int) (M.length : Int) (Z.length : Int) (Y.length : Int) (C.length : Int) si un bu ma bt so co gsi gun gbu gma gbt gso gco := by rw [e_f2]; exact hM.obj 1 (T.length : Int) (B.length : Int) (M.length : Int) (Z.length : Int) (Y.length : Int) (C.length : Int)
      refine lv_aload_n hx hb d_MD_replace_46 rfl (lv_at hl 0 rfl) ?_
      refine gf_MD_31_MD X hw hM_f2.1 d_MD_replace_47 ?_
      refine di_if_le (tgt := 55) hx hb d_MD_replace_50 (by decide) ⟨by decide, by decide⟩ (fun q9 => absurd q9 (by decide)) (fun _ => ?_)
      refine lv_iconst (v := iI (0)) hx hb d_MD_replace_53 rfl ?_
      have e9 : sp_replace T Y B Z ka kb kc = (1, 0, T, Y, B, Z) := by rw [sp_replace, if_pos (fun q => nT q.2.1)]
      exact cn_iret hx hb hr hlk hw  (⟨by rw [e9], by rw [e9]; exact mdP_of (M := M) (C := C) ⟨si, un, bu, ma, bt, so, co, _, _, _, _, _, _, _, hM_f2, hT, hB, hZ, hMa, hC, hY⟩⟩) (Nat.le_refl _) (Nat.le_refl _) d_MD_replace_54
    · have hT1 : isT T kb := of_decide_eq_true (b2_1 (by omega))
      have hT1a := hT1.1
      have hT1b := hT1.2
      have hT1l := hT.len kb
      refine lv_aload_n hx hb d_MD_replace_17 rfl (lv_at hl 0 rfl) ?_
      refine lv_iload_n hx hb d_MD_replace_18 rfl (lv_at hl 3 rfl) ?_
      refine cs_MD_71 X hz hw hl.1 hM.1 (c_MD_isText l G f _ y th T Y B Z M C kc ⟨by omega, by omega⟩ ⟨si, un, bu, ma, bt, so, co, _, _, _, _, _, _, _, hM, hT, hB, hZ, hMa, hC, hY⟩) ⟨Nat.le_of_ble_eq_true rfl, Nat.le_of_ble_eq_true rfl⟩ ⟨by show 0 + 0 ≤ 0; omega, by show 0 + 0 ≤ 0; omega⟩ (Nat.le_of_ble_eq_true rfl) d_MD_replace_19 (fun v f9 H locs hp hw hsz9 hkp9 hdm9 => ?_)
      obtain ⟨rfl, hfe⟩ := hp
      rw [hfe] at hw
      refine W.eq (g2 := F0 m 22 ls [.int (iI (b2 (decide (isT T kc)))), .ref y]) rfl ?_
      have hbt2 := b2_01 (decide (isT T kc))
      refine di_if_ne (tgt := 29) hx hb d_MD_replace_22 (by decide) ⟨by omega, by omega⟩ (fun bq22 => ?_) (fun bq22 => ?_)
      · have hT2 : isT T kc := of_decide_eq_true (b2_1 (by omega))
        have hT2a := hT2.1
        have hT2b := hT2.2
        have hT2l := hT.len kc
        refine lv_aload_n hx hb d_MD_replace_29 rfl (lv_at hl 0 rfl) ?_
        refine gf_MD_58_MD X hw hM.1 d_MD_replace_30 ?_
        refine lv_bipush (v := iI (24)) hx hb d_MD_replace_33 rfl ?_
        refine di_icmp_ne (tgt := 42) hx hb d_MD_replace_35 (by decide) ⟨by omega, by omega⟩ ⟨by omega, by omega⟩ (fun bq35 => ?_) (fun bq35 => ?_)
        · refine lv_iconst (v := iI (0)) hx hb d_MD_replace_42 rfl ?_
          refine pf_MD_31_MD X hw hM.1 rfl rfl d_MD_replace_43 (fun H locs hw => ?_)
          obtain ⟨f3, e_f3⟩ : ∃ g9 : dw_M, g9 = dw_up f y (.inr (6, [.int (iI 0), .int (iI ((T.length : Int))), .ref si, .ref un, .int (iI ((B.length : Int))), .ref bu, .int (iI ((M.length : Int))), .ref ma, .int (iI ((Z.length : Int))), .ref bt, .int (iI ((Y.length : Int))), .ref so, .int (iI ((C.length : Int))), .ref co])) := ⟨_, rfl⟩
          rw [← e_f3] at hw
          have hM_f3 : mdS G f3 y 0 (T.length : Int) (B.length : Int) (M.length : Int) (Z.length : Int) (Y.length : Int) (C.length : Int) si un bu ma bt so co gsi gun gbu gma gbt gso gco := by rw [e_f3]; exact hM.obj 0 (T.length : Int) (B.length : Int) (M.length : Int) (Z.length : Int) (Y.length : Int) (C.length : Int)
          refine lv_aload_n hx hb d_MD_replace_46 rfl (lv_at hl 0 rfl) ?_
          refine gf_MD_31_MD X hw hM_f3.1 d_MD_replace_47 ?_
          refine di_if_le (tgt := 55) hx hb d_MD_replace_50 (by decide) ⟨by decide, by decide⟩ (fun _ => ?_) (fun q9 => absurd q9 (by decide))
          refine lv_aload_n hx hb d_MD_replace_55 rfl (lv_at hl 0 rfl) ?_
          refine lv_iconst (v := iI (0)) hx hb d_MD_replace_56 rfl ?_
          refine pf_MD_55_MD X hw hM_f3.1 rfl rfl d_MD_replace_57 (fun H locs hw => ?_)
          obtain ⟨f4, e_f4⟩ : ∃ g9 : dw_M, g9 = dw_up f3 y (.inr (6, [.int (iI 0), .int (iI ((T.length : Int))), .ref si, .ref un, .int (iI ((B.length : Int))), .ref bu, .int (iI 0), .ref ma, .int (iI ((Z.length : Int))), .ref bt, .int (iI ((Y.length : Int))), .ref so, .int (iI ((C.length : Int))), .ref co])) := ⟨_, rfl⟩
          rw [← e_f4] at hw
          have hM_f4 : mdS G f4 y 0 (T.length : Int) (B.length : Int) 0 (Z.length : Int) (Y.length : Int) (C.length : Int) si un bu ma bt so co gsi gun gbu gma gbt gso gco := by rw [e_f4]; exact hM_f3.obj 0 (T.length : Int) (B.length : Int) 0 (Z.length : Int) (Y.length : Int) (C.length : Int)
          refine lv_iconst (v := iI (0)) hx hb d_MD_replace_60 rfl ?_
          refine lv_istore (lv' := [(4, .int (iI 0)), (0, .ref y), (1, .int (iI ka)), (2, .int (iI kb)), (3, .int (iI kc))]) hx hb d_MD_replace_61 hl (by decide) rfl (fun ls hl => ?_)
          have fin166 : ∀ (Mk : List Int) (f1 : dw_M) (H : Heap) (locs : List Loc) (ls : Array Slot), Mk.length ≤ 200 → (∀ u ∈ Mk, 0 ≤ u ∧ u < 65536) → (Mk.length ≤ 60 → rplc (tt T ka) (tt T kb) (tt T kc) = Mk) → (60 < Mk.length → 60 < (rplc (tt T ka) (tt T kb) (tt T kc)).length) → mdL G f1 y 0 T Y B Z Mk C → dw G.1 dk_cl (dw_A f sz) s.heap f1 H locs → lv_has ls 6 [(0, .ref y)] → W p l e { frames := 2, locals := 47, cells := 0, slots := 0 } s m args below meth c H locs (0) (0) (MQ below (ct_Q G f sz (fun v f' => v = some (.int (iI (sp_replace T Y B Z ka kb kc).2.1)) ∧ mdP G f' y (sp_replace T Y B Z ka kb kc))) args s (0) (0) (dw_A f sz)) (F0 m 166 ls []) := by
            intro Mk f1 H locs ls hMl hrM hfin hfin2 hL1 hw hl
            obtain ⟨si, un, bu, ma, bt, so, co, gsi, gun, gbu, gma, gbt, gso, gco, hM, hT, hB, hZ, hMa, hC, hY⟩ := id hL1
            refine lv_aload_n hx hb d_MD_replace_166 rfl (lv_at hl 0 rfl) ?_
            refine gf_MD_55_MD X hw hM.1 d_MD_replace_167 ?_
            refine lv_bipush (v := iI (60)) hx hb d_MD_replace_170 rfl ?_
            refine di_icmp_le (tgt := 181) hx hb d_MD_replace_172 (by decide) ⟨by omega, by omega⟩ ⟨by omega, by omega⟩ (fun bq172 => ?_) (fun bq172 => ?_)
            · have hRM := hfin (by omega)
              refine lv_aload_n hx hb d_MD_replace_181 rfl (lv_at hl 0 rfl) ?_
              refine cs_MD_78 X hz hw hl.1 hM.1 (c_MD_addMade l G f1 _ y 0 T Y B Z Mk C (by omega) (by omega) hrM ⟨si, un, bu, ma, bt, so, co, _, _, _, _, _, _, _, hM, hT, hB, hZ, hMa, hC, hY⟩) ⟨Nat.le_of_ble_eq_true rfl, Nat.le_of_ble_eq_true rfl⟩ ⟨by show 0 + 0 ≤ 0; omega, by show 0 + 0 ≤ 0; omega⟩ (Nat.le_of_ble_eq_true rfl) d_MD_replace_182 (fun v f9 H locs hp hw hsz9 hkp9 hdm9 => ?_)
              obtain ⟨rfl, hL_f9⟩ := hp
              refine W.eq (g2 := F0 m 185 ls [.int (iI ((T.length : Int)))]) rfl ?_
              obtain ⟨si, un, bu, ma, bt, so, co, gsi, gun, gbu, gma, gbt, gso, gco, hM, hT, hB, hZ, hMa, hC, hY⟩ := id hL_f9
              have e9 : sp_replace T Y B Z ka kb kc = (0, (T.length : Int), T ++ [Mk], Y, B, Z) := by rw [sp_replace, if_neg (fun q => q ⟨hT0, hT1, hT2⟩), hRM, if_neg (by omega)]
              exact cn_iret hx hb hr hlk hw  (⟨by rw [e9], by rw [e9]; exact mdP_of (M := Mk) (C := C) ⟨si, un, bu, ma, bt, so, co, _, _, _, _, _, _, _, hM, hT, hB, hZ, hMa, hC, hY⟩⟩) (Nat.le_refl _) (Nat.le_refl _) d_MD_replace_185
            · have hRM := hfin2 (by omega)
              refine lv_aload_n hx hb d_MD_replace_175 rfl (lv_at hl 0 rfl) ?_
              refine lv_iconst (v := iI (2)) hx hb d_MD_replace_176 rfl ?_
              refine cs_MD_86 X hz hw hl.1 hM.1 (c_MD_fail l G f1 _ y 0 T Y B Z Mk C 2 ⟨si, un, bu, ma, bt, so, co, _, _, _, _, _, _, _, hM, hT, hB, hZ, hMa, hC, hY⟩) ⟨Nat.le_of_ble_eq_true rfl, Nat.le_of_ble_eq_true rfl⟩ ⟨by show 0 + 0 ≤ 0; omega, by show 0 + 0 ≤ 0; omega⟩ (Nat.le_of_ble_eq_true rfl) d_MD_replace_177 (fun v f9 H locs hp hw hsz9 hkp9 hdm9 => ?_)
              obtain ⟨rfl, hL_f9⟩ := hp
              refine W.eq (g2 := F0 m 180 ls [.int (iI 0)]) rfl ?_
              obtain ⟨si, un, bu, ma, bt, so, co, gsi, gun, gbu, gma, gbt, gso, gco, hM, hT, hB, hZ, hMa, hC, hY⟩ := id hL_f9
              have e9 : sp_replace T Y B Z ka kb kc = (2, 0, T, Y, B, Z) := by rw [sp_replace, if_neg (fun q => q ⟨hT0, hT1, hT2⟩), if_pos (by omega)]
              exact cn_iret hx hb hr hlk hw  (⟨by rw [e9], by rw [e9]; exact mdP_of (M := Mk) (C := C) ⟨si, un, bu, ma, bt, so, co, _, _, _, _, _, _, _, hM, hT, hB, hZ, hMa, hC, hY⟩⟩) (Nat.le_refl _) (Nat.le_refl _) d_MD_replace_180
          have loop : ∀ (N : Nat) (k : Int) (Mk : List Int) (fu : Nat) (f1 : dw_M) (H : Heap) (locs : List Loc) (ls : Array Slot), (((tt T ka).length : Int) + 2 - k).toNat < N → 0 ≤ k → k ≤ ((tt T ka).length : Int) + 1 → ((tt T ka).length : Int) - k < (fu : Int) → rplc (tt T ka) (tt T kb) (tt T kc) = Mk ++ rpl (tt T ka) (tt T kb) (tt T kc) (fu + 1) k → (∀ u ∈ Mk, 0 ≤ u ∧ u < 65536) → Mk.length ≤ 121 → mdL G f1 y 0 T Y B Z Mk C → dw G.1 dk_cl (dw_A f sz) s.heap f1 H locs → lv_has ls 6 [(4, .int (iI k)), (0, .ref y), (1, .int (iI ka)), (2, .int (iI kb)), (3, .int (iI kc))] → W p l e { frames := 2, locals := 47, cells := 0, slots := 0 } s m args below meth c H locs (0) (0) (MQ below (ct_Q G f sz (fun v f' => v = some (.int (iI (sp_replace T Y B Z ka kb kc).2.1)) ∧ mdP G f' y (sp_replace T Y B Z ka kb kc))) args s (0) (0) (dw_A f sz)) (F0 m 63 ls []) := by
            intro N
            induction N with
            | zero => intros; omega
            | succ N ih =>
              intro k Mk fu f1 H locs ls hN hk0 hk1 hfu hspl hrM hMl hL1 hw hl
              obtain ⟨si, un, bu, ma, bt, so, co, gsi, gun, gbu, gma, gbt, gso, gco, hM, hT, hB, hZ, hMa, hC, hY⟩ := id hL1
              refine lv_iload hx hb d_MD_replace_63 (lv_at hl 0 rfl) ?_
              refine lv_aload_n hx hb d_MD_replace_65 rfl (lv_at hl 1 rfl) ?_
              refine gf_MD_7_MD X hw hM.1 d_MD_replace_66 ?_
              refine lv_iload_n hx hb d_MD_replace_69 rfl (lv_at hl 2 rfl) ?_
              refine dw_iald hx hb X.K hw 0 hM.2.1 rfl (i := ka) (by omega) (by omega) (by omega) (hT.sz hT0) d_MD_replace_70 ?_
              refine di_icmp_gt (tgt := 166) hx hb d_MD_replace_71 (by decide) ⟨by omega, by omega⟩ ⟨by omega, by omega⟩ (fun bq71 => ?_) (fun bq71 => ?_)
              · have hend : rplc (tt T ka) (tt T kb) (tt T kc) = Mk := by rw [hspl, rpl, if_pos (by omega), List.append_nil]
                exact fin166 (Mk) _ _ _ _ (by omega) (hrM) (fun _ => hend) (fun q => by rw [hend]; exact q) (hL1) hw (lv_sub hl [1] rfl)
              · refine lv_aload_n hx hb d_MD_replace_74 rfl (lv_at hl 1 rfl) ?_
                refine gf_MD_55_MD X hw hM.1 d_MD_replace_75 ?_
                refine lv_bipush (v := iI (60)) hx hb d_MD_replace_78 rfl ?_
                refine di_icmp_gt (tgt := 166) hx hb d_MD_replace_80 (by decide) ⟨by omega, by omega⟩ ⟨by omega, by omega⟩ (fun bq80 => ?_) (fun bq80 => ?_)
                · exact fin166 (Mk) _ _ _ _ (by omega) (hrM) (fun q => by omega) (fun q => by rw [hspl, List.length_append]; omega) (hL1) hw (lv_sub hl [1] rfl)
                · refine lv_aload_n hx hb d_MD_replace_83 rfl (lv_at hl 1 rfl) ?_
                  refine lv_iload_n hx hb d_MD_replace_84 rfl (lv_at hl 2 rfl) ?_
                  refine lv_iload_n hx hb d_MD_replace_85 rfl (lv_at hl 3 rfl) ?_
                  refine lv_iload hx hb d_MD_replace_86 (lv_at hl 0 rfl) ?_
                  refine cs_MD_82 X hz hw hl.1 hM.1 (c_MD_stands l G f1 _ y 0 T Y B Z Mk C ka kb k hT0 hT1 ⟨by omega, by omega⟩ ⟨si, un, bu, ma, bt, so, co, _, _, _, _, _, _, _, hM, hT, hB, hZ, hMa, hC, hY⟩) ⟨Nat.le_of_ble_eq_true rfl, Nat.le_of_ble_eq_true rfl⟩ ⟨by show 0 + 0 ≤ 0; omega, by show 0 + 0 ≤ 0; omega⟩ (Nat.le_of_ble_eq_true rfl) d_MD_replace_88 (fun v f9 H locs hp hw hsz9 hkp9 hdm9 => ?_)
                  obtain ⟨rfl, hfe⟩ := hp
                  rw [hfe] at hw
                  refine W.eq (g2 := F0 m 91 ls [.int (iI (b2 (sta (tt T ka) (tt T kb) k)))]) rfl ?_
                  have hb01 := b2_01 (sta (tt T ka) (tt T kb) k)
                  refine lv_istore (lv' := [(5, .int (iI (b2 (sta (tt T ka) (tt T kb) k)))), (4, .int (iI k)), (0, .ref y), (1, .int (iI ka)), (2, .int (iI kb)), (3, .int (iI kc))]) hx hb d_MD_replace_91 hl (by decide) rfl (fun ls hl => ?_)
                  refine lv_iload hx hb d_MD_replace_93 (lv_at hl 0 rfl) ?_
                  refine di_if_eq (tgt := 110) hx hb d_MD_replace_95 (by decide) ⟨by omega, by omega⟩ (fun bq95 => ?_) (fun bq95 => ?_)
                  · refine lv_iload hx hb d_MD_replace_110 (lv_at hl 0 rfl) ?_
                    have hrm1 := hrM
                    refine di_if_eq (tgt := 138) hx hb d_MD_replace_112 (by decide) ⟨by omega, by omega⟩ (fun bq112 => ?_) (fun bq112 => ?_)
                    · refine lv_iload hx hb d_MD_replace_138 (lv_at hl 1 rfl) ?_
                      refine lv_aload_n hx hb d_MD_replace_140 rfl (lv_at hl 2 rfl) ?_
                      refine gf_MD_7_MD X hw hM.1 d_MD_replace_141 ?_
                      refine lv_iload_n hx hb d_MD_replace_144 rfl (lv_at hl 3 rfl) ?_
                      refine dw_iald hx hb X.K hw 0 hM.2.1 rfl (i := ka) (by omega) (by omega) (by omega) (hT.sz hT0) d_MD_replace_145 ?_
                      obtain ⟨fu2, rfl⟩ : ∃ z, fu = z + 1 := ⟨fu - 1, by omega⟩
                      refine di_icmp_ge (tgt := 160) hx hb d_MD_replace_146 (by decide) ⟨by omega, by omega⟩ ⟨by omega, by omega⟩ (fun bq146 => ?_) (fun bq146 => ?_)
                      · refine lv_iinc (v := iI (k + 1)) (lv' := [(4, .int (iI (k + 1))), (5, .int (iI (b2 (sta (tt T ka) (tt T kb) k)))), (0, .ref y), (1, .int (iI ka)), (2, .int (iI kb)), (3, .int (iI kc))]) hx hb d_MD_replace_160 hl (k := 1) rfl (iI_add _ _) (by decide) rfl (fun ls hl => ?_)
                        refine lv_goto (tgt := 63) hx hb d_MD_replace_163 (by decide) ?_
                        exact ih (k + 1) (Mk) (fu2) _ _ _ _ (by omega) (by omega) (by omega) (by omega) (by rw [hspl, rpl, if_neg (by omega), if_neg (by rw [b2_0 bq95]; decide), show sbl (tt T ka) k (k + 1) = [] from List.drop_eq_nil_of_le (by simp only [List.length_take]; omega)]; simp only [List.nil_append, List.append_assoc]) (hrm1) (by omega) (hL1) hw (lv_sub hl [0, 2, 3, 4, 5] rfl)
                      · refine lv_aload_n hx hb d_MD_replace_149 rfl (lv_at hl 2 rfl) ?_
                        refine lv_aload_n hx hb d_MD_replace_150 rfl (lv_at hl 2 rfl) ?_
                        refine lv_iload_n hx hb d_MD_replace_151 rfl (lv_at hl 3 rfl) ?_
                        refine lv_iload hx hb d_MD_replace_152 (lv_at hl 1 rfl) ?_
                        refine cs_MD_39 X hz hw hl.1 hM.1 (c_MD_unitOf l G f1 _ y 0 T Y B Z Mk C ka k hT0 ⟨by omega, by omega⟩ ⟨si, un, bu, ma, bt, so, co, _, _, _, _, _, _, _, hM, hT, hB, hZ, hMa, hC, hY⟩) ⟨Nat.le_of_ble_eq_true rfl, Nat.le_of_ble_eq_true rfl⟩ ⟨by show 0 + 0 ≤ 0; omega, by show 0 + 0 ≤ 0; omega⟩ (Nat.le_of_ble_eq_true rfl) d_MD_replace_154 (fun v f9 H locs hp hw hsz9 hkp9 hdm9 => ?_)
                        obtain ⟨rfl, hfe⟩ := hp
                        rw [hfe] at hw
                        refine W.eq (g2 := F0 m 157 ls [.int (iI (gt (tt T ka) k)), .ref y]) rfl ?_
                        refine cs_MD_64 X hz hw hl.1 hM.1 (c_MD_make l G f1 _ y 0 T Y B Z Mk C (gt (tt T ka) k) (by omega) ⟨si, un, bu, ma, bt, so, co, _, _, _, _, _, _, _, hM, hT, hB, hZ, hMa, hC, hY⟩) ⟨Nat.le_of_ble_eq_true rfl, Nat.le_of_ble_eq_true rfl⟩ ⟨by show 0 + 0 ≤ 0; omega, by show 0 + 0 ≤ 0; omega⟩ (Nat.le_of_ble_eq_true rfl) d_MD_replace_157 (fun v f8 H locs hp hw hsz9 hkp9 hdm9 => ?_)
                        obtain ⟨rfl, hL_f8⟩ := hp
                        refine W.eq (g2 := F0 m 160 ls []) rfl ?_
                        obtain ⟨si, un, bu, ma, bt, so, co, gsi, gun, gbu, gma, gbt, gso, gco, hM, hT, hB, hZ, hMa, hC, hY⟩ := id hL_f8
                        refine lv_iinc (v := iI (k + 1)) (lv' := [(4, .int (iI (k + 1))), (5, .int (iI (b2 (sta (tt T ka) (tt T kb) k)))), (0, .ref y), (1, .int (iI ka)), (2, .int (iI kb)), (3, .int (iI kc))]) hx hb d_MD_replace_160 hl (k := 1) rfl (iI_add _ _) (by decide) rfl (fun ls hl => ?_)
                        refine lv_goto (tgt := 63) hx hb d_MD_replace_163 (by decide) ?_
                        exact ih (k + 1) (Mk ++ [gt (tt T ka) k]) (fu2) _ _ _ _ (by omega) (by omega) (by omega) (by omega) (by rw [hspl, rpl, if_neg (by omega), if_neg (by rw [b2_0 bq95]; decide), show sbl (tt T ka) k (k + 1) = [gt (tt T ka) k] from (by rw [sbl_snoc (by omega) (Int.le_refl _) (by omega), sbl_nil (Int.le_refl _) (by omega), gt_in (by omega) (by omega), List.nil_append])]; simp only [List.nil_append, List.append_assoc]) (mem_app hrm1 (mem_one (gt_mem (hT.rng ka) (by omega) (by omega)))) (by simp only [List.length_append, List.length_singleton]; omega) (hL_f8) hw (lv_sub hl [0, 2, 3, 4, 5] rfl)
                    · exact absurd bq95 bq112
                  · refine lv_aload_n hx hb d_MD_replace_98 rfl (lv_at hl 2 rfl) ?_
                    refine lv_iload_n hx hb d_MD_replace_99 rfl (lv_at hl 5 rfl) ?_
                    refine lv_iconst (v := iI (0)) hx hb d_MD_replace_100 rfl ?_
                    refine lv_aload_n hx hb d_MD_replace_101 rfl (lv_at hl 2 rfl) ?_
                    refine gf_MD_7_MD X hw hM.1 d_MD_replace_102 ?_
                    refine lv_iload_n hx hb d_MD_replace_105 rfl (lv_at hl 5 rfl) ?_
                    refine dw_iald hx hb X.K hw 0 hM.2.1 rfl (i := kc) (by omega) (by omega) (by omega) (hT.sz hT2) d_MD_replace_106 ?_
                    refine cs_MD_74 X hz hw hl.1 hM.1 (c_MD_makePart l G f1 _ y 0 T Y B Z Mk C kc 0 ((tt T kc).length : Int) hT2 (by omega) (by omega) ⟨si, un, bu, ma, bt, so, co, _, _, _, _, _, _, _, hM, hT, hB, hZ, hMa, hC, hY⟩) ⟨Nat.le_of_ble_eq_true rfl, Nat.le_of_ble_eq_true rfl⟩ ⟨by show 0 + 0 ≤ 0; omega, by show 0 + 0 ≤ 0; omega⟩ (Nat.le_of_ble_eq_true rfl) d_MD_replace_107 (fun v f5 H locs hp hw hsz9 hkp9 hdm9 => ?_)
                    obtain ⟨rfl, hL_f5⟩ := hp
                    refine W.eq (g2 := F0 m 110 ls []) rfl ?_
                    obtain ⟨si, un, bu, ma, bt, so, co, gsi, gun, gbu, gma, gbt, gso, gco, hM, hT, hB, hZ, hMa, hC, hY⟩ := id hL_f5
                    rw [sbl_all] at hL_f5 hM hMa
                    have hrm_f5 := mem_app hrM (hT.rng kc)
                    refine lv_iload hx hb d_MD_replace_110 (lv_at hl 0 rfl) ?_
                    refine di_if_eq (tgt := 138) hx hb d_MD_replace_112 (by decide) ⟨by omega, by omega⟩ (fun bq112 => ?_) (fun bq112 => ?_)
                    · exact absurd bq112 bq95
                    · refine lv_aload_n hx hb d_MD_replace_115 rfl (lv_at hl 2 rfl) ?_
                      refine gf_MD_7_MD X hw hM.1 d_MD_replace_116 ?_
                      refine lv_iload_n hx hb d_MD_replace_119 rfl (lv_at hl 4 rfl) ?_
                      refine dw_iald hx hb X.K hw 0 hM.2.1 rfl (i := kb) (by omega) (by omega) (by omega) (hT.sz hT1) d_MD_replace_120 ?_
                      refine di_if_le (tgt := 138) hx hb d_MD_replace_121 (by decide) ⟨by omega, by omega⟩ (fun bq121 => ?_) (fun bq121 => ?_)
                      · refine lv_iload hx hb d_MD_replace_138 (lv_at hl 1 rfl) ?_
                        refine lv_aload_n hx hb d_MD_replace_140 rfl (lv_at hl 2 rfl) ?_
                        refine gf_MD_7_MD X hw hM.1 d_MD_replace_141 ?_
                        refine lv_iload_n hx hb d_MD_replace_144 rfl (lv_at hl 3 rfl) ?_
                        refine dw_iald hx hb X.K hw 0 hM.2.1 rfl (i := ka) (by omega) (by omega) (by omega) (hT.sz hT0) d_MD_replace_145 ?_
                        obtain ⟨fu2, rfl⟩ : ∃ z, fu = z + 1 := ⟨fu - 1, by omega⟩
                        refine di_icmp_ge (tgt := 160) hx hb d_MD_replace_146 (by decide) ⟨by omega, by omega⟩ ⟨by omega, by omega⟩ (fun bq146 => ?_) (fun bq146 => ?_)
                        · refine lv_iinc (v := iI (k + 1)) (lv' := [(4, .int (iI (k + 1))), (5, .int (iI (b2 (sta (tt T ka) (tt T kb) k)))), (0, .ref y), (1, .int (iI ka)), (2, .int (iI kb)), (3, .int (iI kc))]) hx hb d_MD_replace_160 hl (k := 1) rfl (iI_add _ _) (by decide) rfl (fun ls hl => ?_)
                          refine lv_goto (tgt := 63) hx hb d_MD_replace_163 (by decide) ?_
                          exact ih (k + 1) (Mk ++ (tt T kc)) (fu2) _ _ _ _ (by omega) (by omega) (by omega) (by omega) (by rw [hspl, rpl, if_neg (by omega), if_pos (b2_1 bq95), if_neg (by omega), show sbl (tt T ka) k (k + 1) = [] from List.drop_eq_nil_of_le (by simp only [List.length_take]; omega)]; simp only [List.nil_append, List.append_assoc]) (hrm_f5) (by simp only [List.length_append]; omega) (hL_f5) hw (lv_sub hl [0, 2, 3, 4, 5] rfl)
                        · refine lv_aload_n hx hb d_MD_replace_149 rfl (lv_at hl 2 rfl) ?_
                          refine lv_aload_n hx hb d_MD_replace_150 rfl (lv_at hl 2 rfl) ?_
                          refine lv_iload_n hx hb d_MD_replace_151 rfl (lv_at hl 3 rfl) ?_
                          refine lv_iload hx hb d_MD_replace_152 (lv_at hl 1 rfl) ?_
                          refine cs_MD_39 X hz hw hl.1 hM.1 (c_MD_unitOf l G f5 _ y 0 T Y B Z (Mk ++ (tt T kc)) C ka k hT0 ⟨by omega, by omega⟩ ⟨si, un, bu, ma, bt, so, co, _, _, _, _, _, _, _, hM, hT, hB, hZ, hMa, hC, hY⟩) ⟨Nat.le_of_ble_eq_true rfl, Nat.le_of_ble_eq_true rfl⟩ ⟨by show 0 + 0 ≤ 0; omega, by show 0 + 0 ≤ 0; omega⟩ (Nat.le_of_ble_eq_true rfl) d_MD_replace_154 (fun v f9 H locs hp hw hsz9 hkp9 hdm9 => ?_)
                          obtain ⟨rfl, hfe⟩ := hp
                          rw [hfe] at hw
                          refine W.eq (g2 := F0 m 157 ls [.int (iI (gt (tt T ka) k)), .ref y]) rfl ?_
                          refine cs_MD_64 X hz hw hl.1 hM.1 (c_MD_make l G f5 _ y 0 T Y B Z (Mk ++ (tt T kc)) C (gt (tt T ka) k) (by simp only [List.length_append]; omega) ⟨si, un, bu, ma, bt, so, co, _, _, _, _, _, _, _, hM, hT, hB, hZ, hMa, hC, hY⟩) ⟨Nat.le_of_ble_eq_true rfl, Nat.le_of_ble_eq_true rfl⟩ ⟨by show 0 + 0 ≤ 0; omega, by show 0 + 0 ≤ 0; omega⟩ (Nat.le_of_ble_eq_true rfl) d_MD_replace_157 (fun v f8 H locs hp hw hsz9 hkp9 hdm9 => ?_)
                          obtain ⟨rfl, hL_f8⟩ := hp
                          refine W.eq (g2 := F0 m 160 ls []) rfl ?_
                          obtain ⟨si, un, bu, ma, bt, so, co, gsi, gun, gbu, gma, gbt, gso, gco, hM, hT, hB, hZ, hMa, hC, hY⟩ := id hL_f8
                          refine lv_iinc (v := iI (k + 1)) (lv' := [(4, .int (iI (k + 1))), (5, .int (iI (b2 (sta (tt T ka) (tt T kb) k)))), (0, .ref y), (1, .int (iI ka)), (2, .int (iI kb)), (3, .int (iI kc))]) hx hb d_MD_replace_160 hl (k := 1) rfl (iI_add _ _) (by decide) rfl (fun ls hl => ?_)
                          refine lv_goto (tgt := 63) hx hb d_MD_replace_163 (by decide) ?_
                          exact ih (k + 1) (Mk ++ (tt T kc) ++ [gt (tt T ka) k]) (fu2) _ _ _ _ (by omega) (by omega) (by omega) (by omega) (by rw [hspl, rpl, if_neg (by omega), if_pos (b2_1 bq95), if_neg (by omega), show sbl (tt T ka) k (k + 1) = [gt (tt T ka) k] from (by rw [sbl_snoc (by omega) (Int.le_refl _) (by omega), sbl_nil (Int.le_refl _) (by omega), gt_in (by omega) (by omega), List.nil_append])]; simp only [List.nil_append, List.append_assoc]) (mem_app hrm_f5 (mem_one (gt_mem (hT.rng ka) (by omega) (by omega)))) (by simp only [List.length_append, List.length_singleton]; omega) (hL_f8) hw (lv_sub hl [0, 2, 3, 4, 5] rfl)
                      · obtain ⟨fu2, rfl⟩ : ∃ z, fu = z + 1 := ⟨fu - 1, by omega⟩
                        have hsta := b2_1 bq95
                        have hst2 := of_decide_eq_true hsta
                        refine lv_iload hx hb d_MD_replace_124 (lv_at hl 1 rfl) ?_
                        refine lv_aload_n hx hb d_MD_replace_126 rfl (lv_at hl 2 rfl) ?_
                        refine gf_MD_7_MD X hw hM.1 d_MD_replace_127 ?_
                        refine lv_iload_n hx hb d_MD_replace_130 rfl (lv_at hl 4 rfl) ?_
                        refine dw_iald hx hb X.K hw 0 hM.2.1 rfl (i := kb) (by omega) (by omega) (by omega) (hT.sz hT1) d_MD_replace_131 ?_
                        refine di_add hx hb d_MD_replace_132 ?_
                        refine lv_istore (lv' := [(4, .int (iI (k + ((tt T kb).length : Int)))), (5, .int (iI (b2 (sta (tt T ka) (tt T kb) k)))), (0, .ref y), (1, .int (iI ka)), (2, .int (iI kb)), (3, .int (iI kc))]) hx hb d_MD_replace_133 hl (by decide) rfl (fun ls hl => ?_)
                        refine lv_goto (tgt := 163) hx hb d_MD_replace_135 (by decide) ?_
                        refine lv_goto (tgt := 63) hx hb d_MD_replace_163 (by decide) ?_
                        exact ih (k + ((tt T kb).length : Int)) (Mk ++ (tt T kc)) (fu2) _ _ _ _ (by omega) (by omega) (by omega) (by omega) (by rw [hspl, rpl, if_neg (by omega), if_pos hsta, if_pos (by omega), List.append_assoc]) (hrm_f5) (by rw [List.length_append]; omega) (hL_f5) hw (lv_sub hl [0, 2, 3, 4, 5] rfl)
          exact loop ((((tt T ka).length : Int) + 2 - 0).toNat + 1) (0) ([]) ((tt T ka).length + 1) _ _ _ _ (by omega) (by omega) (by omega) (by omega) (rfl) (mem_nil) (by simp) (⟨si, un, bu, ma, bt, so, co, _, _, _, _, _, _, _, hM_f4, hT, hB, hZ, (rM.nil _), hC, hY⟩) hw (lv_sub hl [0, 1, 2, 3, 4] rfl)
        · refine lv_iconst (v := iI (2)) hx hb d_MD_replace_38 rfl ?_
          refine lv_goto (tgt := 43) hx hb d_MD_replace_39 (by decide) ?_
          refine pf_MD_31_MD X hw hM.1 rfl rfl d_MD_replace_43 (fun H locs hw => ?_)
          obtain ⟨f5, e_f5⟩ : ∃ g9 : dw_M, g9 = dw_up f y (.inr (6, [.int (iI 2), .int (iI ((T.length : Int))), .ref si, .ref un, .int (iI ((B.length : Int))), .ref bu, .int (iI ((M.length : Int))), .ref ma, .int (iI ((Z.length : Int))), .ref bt, .int (iI ((Y.length : Int))), .ref so, .int (iI ((C.length : Int))), .ref co])) := ⟨_, rfl⟩
          rw [← e_f5] at hw
          have hM_f5 : mdS G f5 y 2 (T.length : Int) (B.length : Int) (M.length : Int) (Z.length : Int) (Y.length : Int) (C.length : Int) si un bu ma bt so co gsi gun gbu gma gbt gso gco := by rw [e_f5]; exact hM.obj 2 (T.length : Int) (B.length : Int) (M.length : Int) (Z.length : Int) (Y.length : Int) (C.length : Int)
          refine lv_aload_n hx hb d_MD_replace_46 rfl (lv_at hl 0 rfl) ?_
          refine gf_MD_31_MD X hw hM_f5.1 d_MD_replace_47 ?_
          refine di_if_le (tgt := 55) hx hb d_MD_replace_50 (by decide) ⟨by decide, by decide⟩ (fun q9 => absurd q9 (by decide)) (fun _ => ?_)
          refine lv_iconst (v := iI (0)) hx hb d_MD_replace_53 rfl ?_
          have e9 : sp_replace T Y B Z ka kb kc = (2, 0, T, Y, B, Z) := by rw [sp_replace, if_neg (fun q => q ⟨hT0, hT1, hT2⟩), if_pos (by omega)]
          exact cn_iret hx hb hr hlk hw  (⟨by rw [e9], by rw [e9]; exact mdP_of (M := M) (C := C) ⟨si, un, bu, ma, bt, so, co, _, _, _, _, _, _, _, hM_f5, hT, hB, hZ, hMa, hC, hY⟩⟩) (Nat.le_refl _) (Nat.le_refl _) d_MD_replace_54
      · have nT : ¬ isT T kc := of_decide_eq_false (b2_0 (by omega))
        refine lv_iconst (v := iI (1)) hx hb d_MD_replace_25 rfl ?_
        refine lv_goto (tgt := 43) hx hb d_MD_replace_26 (by decide) ?_
        refine pf_MD_31_MD X hw hM.1 rfl rfl d_MD_replace_43 (fun H locs hw => ?_)
        obtain ⟨f6, e_f6⟩ : ∃ g9 : dw_M, g9 = dw_up f y (.inr (6, [.int (iI 1), .int (iI ((T.length : Int))), .ref si, .ref un, .int (iI ((B.length : Int))), .ref bu, .int (iI ((M.length : Int))), .ref ma, .int (iI ((Z.length : Int))), .ref bt, .int (iI ((Y.length : Int))), .ref so, .int (iI ((C.length : Int))), .ref co])) := ⟨_, rfl⟩
        rw [← e_f6] at hw
        have hM_f6 : mdS G f6 y 1 (T.length : Int) (B.length : Int) (M.length : Int) (Z.length : Int) (Y.length : Int) (C.length : Int) si un bu ma bt so co gsi gun gbu gma gbt gso gco := by rw [e_f6]; exact hM.obj 1 (T.length : Int) (B.length : Int) (M.length : Int) (Z.length : Int) (Y.length : Int) (C.length : Int)
        refine lv_aload_n hx hb d_MD_replace_46 rfl (lv_at hl 0 rfl) ?_
        refine gf_MD_31_MD X hw hM_f6.1 d_MD_replace_47 ?_
        refine di_if_le (tgt := 55) hx hb d_MD_replace_50 (by decide) ⟨by decide, by decide⟩ (fun q9 => absurd q9 (by decide)) (fun _ => ?_)
        refine lv_iconst (v := iI (0)) hx hb d_MD_replace_53 rfl ?_
        have e9 : sp_replace T Y B Z ka kb kc = (1, 0, T, Y, B, Z) := by rw [sp_replace, if_pos (fun q => nT q.2.2)]
        exact cn_iret hx hb hr hlk hw  (⟨by rw [e9], by rw [e9]; exact mdP_of (M := M) (C := C) ⟨si, un, bu, ma, bt, so, co, _, _, _, _, _, _, _, hM_f6, hT, hB, hZ, hMa, hC, hY⟩⟩) (Nat.le_refl _) (Nat.le_refl _) d_MD_replace_54
set_option maxRecDepth 100000 in
set_option maxHeartbeats 4000000 in
theorem c_MD_strip (l : Launch) (G : ct_G) (f : dw_M) (sz : Nat) (y : Nat) (th : Int) (T Y : List (List Int)) (B Z M C : List Int) (k0 : Int) (hk0 : iR k0) (hL : mdL G f y th T Y B Z M C) : cn l y_MD_strip w_MD_strip (2) (46) G f sz [.ref y, .int (iI k0)] (fun v f' => v = some (.int (iI (sp_strip T Y B Z k0).2.1)) ∧ mdP G f' y (sp_strip T Y B Z k0)) (0) (0) := by
  refine cn_of (own := "TextDeskModel") (nm := "strip") (ds := "(I)I") (by decide) (Nat.le_of_ble_eq_true rfl) ?_
  intro p e s m args below meth c ls X hnm hr hlk hs0 hz hw hl
  have hx := X.1
  have hb := X.2.1
  have hl : lv_has ls 5 [(0, .ref y), (1, .int (iI k0))] := hl
  obtain ⟨si, un, bu, ma, bt, so, co, gsi, gun, gbu, gma, gbt, gso, gco, hM, hT, hB, hZ, hMa, hC, hY⟩ := id hL
  have hTl := hT.1
  have hBl := hB.1.1
  have hZl := hZ.1.1
  have hYl := hY.1
  have hCl := hC.1
  obtain ⟨hk00, hk01⟩ := hk0
  refine lv_aload_n hx hb d_MD_strip_0 rfl (lv_at hl 0 rfl) ?_
  refine lv_aload_n hx hb d_MD_strip_1 rfl (lv_at hl 0 rfl) ?_
  refine lv_iload_n hx hb d_MD_strip_2 rfl (lv_at hl 1 rfl) ?_
  refine cs_MD_71 X hz hw hl.1 hM.1 (c_MD_isText l G f _ y th T Y B Z M C k0 ⟨by omega, by omega⟩ ⟨si, un, bu, ma, bt, so, co, _, _, _, _, _, _, _, hM, hT, hB, hZ, hMa, hC, hY⟩) ⟨Nat.le_of_ble_eq_true rfl, Nat.le_of_ble_eq_true rfl⟩ ⟨by show 0 + 0 ≤ 0; omega, by show 0 + 0 ≤ 0; omega⟩ (Nat.le_of_ble_eq_true rfl) d_MD_strip_3 (fun v f9 H locs hp hw hsz9 hkp9 hdm9 => ?_)
  obtain ⟨rfl, hfe⟩ := hp
  rw [hfe] at hw
  refine W.eq (g2 := F0 m 6 ls [.int (iI (b2 (decide (isT T k0)))), .ref y]) rfl ?_
  have hbt0 := b2_01 (decide (isT T k0))
  refine di_if_ne (tgt := 13) hx hb d_MD_strip_6 (by decide) ⟨by omega, by omega⟩ (fun bq6 => ?_) (fun bq6 => ?_)
  · have hT0 : isT T k0 := of_decide_eq_true (b2_1 (by omega))
    have hT0a := hT0.1
    have hT0b := hT0.2
    have hT0l := hT.len k0
    refine lv_aload_n hx hb d_MD_strip_13 rfl (lv_at hl 0 rfl) ?_
    refine gf_MD_58_MD X hw hM.1 d_MD_strip_14 ?_
    refine lv_bipush (v := iI (24)) hx hb d_MD_strip_17 rfl ?_
    refine di_icmp_ne (tgt := 26) hx hb d_MD_strip_19 (by decide) ⟨by omega, by omega⟩ ⟨by omega, by omega⟩ (fun bq19 => ?_) (fun bq19 => ?_)
    · refine lv_iconst (v := iI (0)) hx hb d_MD_strip_26 rfl ?_
      refine pf_MD_31_MD X hw hM.1 rfl rfl d_MD_strip_27 (fun H locs hw => ?_)
      obtain ⟨f1, e_f1⟩ : ∃ g9 : dw_M, g9 = dw_up f y (.inr (6, [.int (iI 0), .int (iI ((T.length : Int))), .ref si, .ref un, .int (iI ((B.length : Int))), .ref bu, .int (iI ((M.length : Int))), .ref ma, .int (iI ((Z.length : Int))), .ref bt, .int (iI ((Y.length : Int))), .ref so, .int (iI ((C.length : Int))), .ref co])) := ⟨_, rfl⟩
      rw [← e_f1] at hw
      have hM_f1 : mdS G f1 y 0 (T.length : Int) (B.length : Int) (M.length : Int) (Z.length : Int) (Y.length : Int) (C.length : Int) si un bu ma bt so co gsi gun gbu gma gbt gso gco := by rw [e_f1]; exact hM.obj 0 (T.length : Int) (B.length : Int) (M.length : Int) (Z.length : Int) (Y.length : Int) (C.length : Int)
      refine lv_aload_n hx hb d_MD_strip_30 rfl (lv_at hl 0 rfl) ?_
      refine gf_MD_31_MD X hw hM_f1.1 d_MD_strip_31 ?_
      refine di_if_le (tgt := 39) hx hb d_MD_strip_34 (by decide) ⟨by decide, by decide⟩ (fun _ => ?_) (fun q9 => absurd q9 (by decide))
      refine lv_aload_n hx hb d_MD_strip_39 rfl (lv_at hl 0 rfl) ?_
      refine gf_MD_7_MD X hw hM_f1.1 d_MD_strip_40 ?_
      refine lv_iload_n hx hb d_MD_strip_43 rfl (lv_at hl 1 rfl) ?_
      refine dw_iald hx hb X.K hw 0 hM_f1.2.1 rfl (i := k0) (by omega) (by omega) (by omega) (hT.sz hT0) d_MD_strip_44 ?_
      refine lv_istore_n (lv' := [(2, .int (iI (((tt T k0).length : Int)))), (0, .ref y), (1, .int (iI k0))]) hx hb d_MD_strip_45 rfl hl (by decide) rfl (fun ls hl => ?_)
      refine lv_iconst (v := iI (0)) hx hb d_MD_strip_46 rfl ?_
      refine lv_istore_n (lv' := [(3, .int (iI 0)), (2, .int (iI (((tt T k0).length : Int)))), (0, .ref y), (1, .int (iI k0))]) hx hb d_MD_strip_47 rfl hl (by decide) rfl (fun ls hl => ?_)
      refine lv_iconst (v := iI (0)) hx hb d_MD_strip_48 rfl ?_
      refine lv_istore (lv' := [(4, .int (iI 0)), (3, .int (iI 0)), (2, .int (iI (((tt T k0).length : Int)))), (0, .ref y), (1, .int (iI k0))]) hx hb d_MD_strip_49 hl (by decide) rfl (fun ls hl => ?_)
      have loop : ∀ (N : Nat) (k : Int) (fr : Int) (to : Int) (H : Heap) (locs : List Loc) (ls : Array Slot), (((tt T k0).length : Int) - k).toNat < N → 0 ≤ k → k ≤ ((tt T k0).length : Int) → 0 ≤ fr ∧ fr ≤ ((tt T k0).length : Int) → 0 ≤ to ∧ to ≤ ((tt T k0).length : Int) → (∀ j : Int, 0 ≤ j → j < k → j < fr → gt (tt T k0) j ≤ 32) → (∀ j : Int, to ≤ j → j < k → gt (tt T k0) j ≤ 32) → (fr = ((tt T k0).length : Int) ∧ to = 0 ∨ fr < to ∧ to ≤ k ∧ 32 < gt (tt T k0) fr ∧ 32 < gt (tt T k0) (to - 1)) → dw G.1 dk_cl (dw_A f sz) s.heap f1 H locs → lv_has ls 5 [(4, .int (iI k)), (2, .int (iI fr)), (3, .int (iI to)), (0, .ref y), (1, .int (iI k0))] → W p l e { frames := 2, locals := 46, cells := 0, slots := 0 } s m args below meth c H locs (0) (0) (MQ below (ct_Q G f sz (fun v f' => v = some (.int (iI (sp_strip T Y B Z k0).2.1)) ∧ mdP G f' y (sp_strip T Y B Z k0))) args s (0) (0) (dw_A f sz)) (F0 m 51 ls []) := by
        intro N
        induction N with
        | zero => intros; omega
        | succ N ih =>
          intro k fr to H locs ls hN hk0 hk1 hfr hto hlow hup hbo hw hl
          refine lv_iload hx hb d_MD_strip_51 (lv_at hl 0 rfl) ?_
          refine lv_aload_n hx hb d_MD_strip_53 rfl (lv_at hl 3 rfl) ?_
          refine gf_MD_7_MD X hw hM_f1.1 d_MD_strip_54 ?_
          refine lv_iload_n hx hb d_MD_strip_57 rfl (lv_at hl 4 rfl) ?_
          refine dw_iald hx hb X.K hw 0 hM_f1.2.1 rfl (i := k0) (by omega) (by omega) (by omega) (hT.sz hT0) d_MD_strip_58 ?_
          refine di_icmp_ge (tgt := 98) hx hb d_MD_strip_59 (by decide) ⟨by omega, by omega⟩ ⟨by omega, by omega⟩ (fun bq59 => ?_) (fun bq59 => ?_)
          · have hstp : stp (tt T k0) (sbl (tt T k0) fr to) := ⟨fr, to, by omega, rfl, fun j h1 h2 => hlow j h1 (by omega) h2, fun j h1 h2 => hup j h1 (by omega), by rcases hbo with q | q <;> omega⟩
            have hsl := sbl_len (tt T k0) fr to
            refine lv_aload_n hx hb d_MD_strip_98 rfl (lv_at hl 3 rfl) ?_
            refine lv_iconst (v := iI (0)) hx hb d_MD_strip_99 rfl ?_
            refine pf_MD_55_MD X hw hM_f1.1 rfl rfl d_MD_strip_100 (fun H locs hw => ?_)
            obtain ⟨f2, e_f2⟩ : ∃ g9 : dw_M, g9 = dw_up f1 y (.inr (6, [.int (iI 0), .int (iI ((T.length : Int))), .ref si, .ref un, .int (iI ((B.length : Int))), .ref bu, .int (iI 0), .ref ma, .int (iI ((Z.length : Int))), .ref bt, .int (iI ((Y.length : Int))), .ref so, .int (iI ((C.length : Int))), .ref co])) := ⟨_, rfl⟩
            rw [← e_f2] at hw
            have hM_f2 : mdS G f2 y 0 (T.length : Int) (B.length : Int) 0 (Z.length : Int) (Y.length : Int) (C.length : Int) si un bu ma bt so co gsi gun gbu gma gbt gso gco := by rw [e_f2]; exact hM_f1.obj 0 (T.length : Int) (B.length : Int) 0 (Z.length : Int) (Y.length : Int) (C.length : Int)
            refine lv_aload_n hx hb d_MD_strip_103 rfl (lv_at hl 3 rfl) ?_
            refine lv_iload_n hx hb d_MD_strip_104 rfl (lv_at hl 4 rfl) ?_
            refine lv_iload_n hx hb d_MD_strip_105 rfl (lv_at hl 1 rfl) ?_
            refine lv_iload_n hx hb d_MD_strip_106 rfl (lv_at hl 2 rfl) ?_
            refine cs_MD_74 X hz hw hl.1 hM_f2.1 (c_MD_makePart l G f2 _ y 0 T Y B Z [] C k0 fr to hT0 (by omega) (by simp) ⟨si, un, bu, ma, bt, so, co, _, _, _, _, _, _, _, hM_f2, hT, hB, hZ, (rM.nil _), hC, hY⟩) ⟨Nat.le_of_ble_eq_true rfl, Nat.le_of_ble_eq_true rfl⟩ ⟨by show 0 + 0 ≤ 0; omega, by show 0 + 0 ≤ 0; omega⟩ (Nat.le_of_ble_eq_true rfl) d_MD_strip_107 (fun v f7 H locs hp hw hsz9 hkp9 hdm9 => ?_)
            obtain ⟨rfl, hL_f7⟩ := hp
            refine W.eq (g2 := F0 m 110 ls []) rfl ?_
            obtain ⟨si, un, bu, ma, bt, so, co, gsi, gun, gbu, gma, gbt, gso, gco, hM, hT, hB, hZ, hMa, hC, hY⟩ := id hL_f7
            refine lv_aload_n hx hb d_MD_strip_110 rfl (lv_at hl 3 rfl) ?_
            rw [List.nil_append] at hM hMa
            refine cs_MD_78 X hz hw hl.1 hM.1 (c_MD_addMade l G f7 _ y 0 T Y B Z (sbl (tt T k0) fr to) C (by omega) (by omega) (fun u h => hT.rng k0 u (sbl_mem h)) ⟨si, un, bu, ma, bt, so, co, _, _, _, _, _, _, _, hM, hT, hB, hZ, hMa, hC, hY⟩) ⟨Nat.le_of_ble_eq_true rfl, Nat.le_of_ble_eq_true rfl⟩ ⟨by show 0 + 0 ≤ 0; omega, by show 0 + 0 ≤ 0; omega⟩ (Nat.le_of_ble_eq_true rfl) d_MD_strip_111 (fun v f9 H locs hp hw hsz9 hkp9 hdm9 => ?_)
            obtain ⟨rfl, hL_f9⟩ := hp
            refine W.eq (g2 := F0 m 114 ls [.int (iI ((T.length : Int)))]) rfl ?_
            obtain ⟨si, un, bu, ma, bt, so, co, gsi, gun, gbu, gma, gbt, gso, gco, hM, hT, hB, hZ, hMa, hC, hY⟩ := id hL_f9
            have e9 : sp_strip T Y B Z k0 = (0, (T.length : Int), T ++ [sbl (tt T k0) fr to], Y, B, Z) := by rw [sp_strip, if_neg (fun q => q hT0), if_neg (by omega), strp_eq hstp]
            exact cn_iret hx hb hr hlk hw  (⟨by rw [e9], by rw [e9]; exact mdP_of (M := (sbl (tt T k0) fr to)) (C := C) ⟨si, un, bu, ma, bt, so, co, _, _, _, _, _, _, _, hM, hT, hB, hZ, hMa, hC, hY⟩⟩) (Nat.le_refl _) (Nat.le_refl _) d_MD_strip_114
          · have hg := gt_rng (hT.rng k0) k
            refine lv_aload_n hx hb d_MD_strip_62 rfl (lv_at hl 3 rfl) ?_
            refine lv_iload_n hx hb d_MD_strip_63 rfl (lv_at hl 4 rfl) ?_
            refine lv_iload hx hb d_MD_strip_64 (lv_at hl 0 rfl) ?_
            refine cs_MD_39 X hz hw hl.1 hM_f1.1 (c_MD_unitOf l G f1 _ y 0 T Y B Z M C k0 k hT0 ⟨by omega, by omega⟩ ⟨si, un, bu, ma, bt, so, co, _, _, _, _, _, _, _, hM_f1, hT, hB, hZ, hMa, hC, hY⟩) ⟨Nat.le_of_ble_eq_true rfl, Nat.le_of_ble_eq_true rfl⟩ ⟨by show 0 + 0 ≤ 0; omega, by show 0 + 0 ≤ 0; omega⟩ (Nat.le_of_ble_eq_true rfl) d_MD_strip_66 (fun v f9 H locs hp hw hsz9 hkp9 hdm9 => ?_)
            obtain ⟨rfl, hfe⟩ := hp
            rw [hfe] at hw
            refine W.eq (g2 := F0 m 69 ls [.int (iI (gt (tt T k0) k))]) rfl ?_
            refine lv_bipush (v := iI (32)) hx hb d_MD_strip_69 rfl ?_
            refine di_icmp_le (tgt := 92) hx hb d_MD_strip_71 (by decide) ⟨by omega, by omega⟩ ⟨by omega, by omega⟩ (fun bq71 => ?_) (fun bq71 => ?_)
            · refine lv_iinc (v := iI (k + 1)) (lv' := [(4, .int (iI (k + 1))), (2, .int (iI fr)), (3, .int (iI to)), (0, .ref y), (1, .int (iI k0))]) hx hb d_MD_strip_92 hl (k := 0) rfl (iI_add _ _) (by decide) rfl (fun ls hl => ?_)
              refine lv_goto (tgt := 51) hx hb d_MD_strip_95 (by decide) ?_
              exact ih (k + 1) (fr) (to) _ _ _ (by omega) (by omega) (by omega) (by omega) (by omega) (fun j h1 h2 h3 => by
                by_cases q : j = k
                · rw [q]; omega
                · exact hlow j h1 (by omega) h3) (fun j h1 h2 => by
                by_cases q : j = k
                · rw [q]; omega
                · exact hup j h1 (by omega)) (hbo.elim Or.inl (fun q => Or.inr ⟨q.1, by omega, q.2.2.1, q.2.2.2⟩)) hw (lv_sub hl [0, 1, 2, 3, 4] rfl)
            · refine lv_iload hx hb d_MD_strip_74 (lv_at hl 0 rfl) ?_
              refine lv_iload_n hx hb d_MD_strip_76 rfl (lv_at hl 1 rfl) ?_
              refine di_icmp_ge (tgt := 85) hx hb d_MD_strip_77 (by decide) ⟨by omega, by omega⟩ ⟨by omega, by omega⟩ (fun bq77 => ?_) (fun bq77 => ?_)
              · refine lv_iload_n hx hb d_MD_strip_85 rfl (lv_at hl 1 rfl) ?_
                refine lv_istore_n (lv' := [(2, .int (iI fr)), (4, .int (iI k)), (3, .int (iI to)), (0, .ref y), (1, .int (iI k0))]) hx hb d_MD_strip_86 rfl hl (by decide) rfl (fun ls hl => ?_)
                refine lv_iload hx hb d_MD_strip_87 (lv_at hl 1 rfl) ?_
                refine lv_iconst (v := iI (1)) hx hb d_MD_strip_89 rfl ?_
                refine di_add hx hb d_MD_strip_90 ?_
                refine lv_istore_n (lv' := [(3, .int (iI (k + 1))), (2, .int (iI fr)), (4, .int (iI k)), (0, .ref y), (1, .int (iI k0))]) hx hb d_MD_strip_91 rfl hl (by decide) rfl (fun ls hl => ?_)
                refine lv_iinc (v := iI (k + 1)) (lv' := [(4, .int (iI (k + 1))), (3, .int (iI (k + 1))), (2, .int (iI fr)), (0, .ref y), (1, .int (iI k0))]) hx hb d_MD_strip_92 hl (k := 2) rfl (iI_add _ _) (by decide) rfl (fun ls hl => ?_)
                refine lv_goto (tgt := 51) hx hb d_MD_strip_95 (by decide) ?_
                exact ih (k + 1) (fr) (k + 1) _ _ _ (by omega) (by omega) (by omega) (by omega) (by omega) (fun j h1 h2 h3 => hlow j h1 (by omega) h3) (fun j h1 h2 => by omega) (hbo.elim (fun q => by omega) (fun q => Or.inr ⟨by omega, by omega, q.2.2.1, by rw [show k + 1 - 1 = k by omega]; omega⟩)) hw (lv_sub hl [0, 2, 1, 3, 4] rfl)
              · refine lv_iload hx hb d_MD_strip_80 (lv_at hl 0 rfl) ?_
                refine lv_goto (tgt := 86) hx hb d_MD_strip_82 (by decide) ?_
                refine lv_istore_n (lv' := [(2, .int (iI k)), (4, .int (iI k)), (3, .int (iI to)), (0, .ref y), (1, .int (iI k0))]) hx hb d_MD_strip_86 rfl hl (by decide) rfl (fun ls hl => ?_)
                refine lv_iload hx hb d_MD_strip_87 (lv_at hl 1 rfl) ?_
                refine lv_iconst (v := iI (1)) hx hb d_MD_strip_89 rfl ?_
                refine di_add hx hb d_MD_strip_90 ?_
                refine lv_istore_n (lv' := [(3, .int (iI (k + 1))), (2, .int (iI k)), (4, .int (iI k)), (0, .ref y), (1, .int (iI k0))]) hx hb d_MD_strip_91 rfl hl (by decide) rfl (fun ls hl => ?_)
                refine lv_iinc (v := iI (k + 1)) (lv' := [(4, .int (iI (k + 1))), (3, .int (iI (k + 1))), (2, .int (iI k)), (0, .ref y), (1, .int (iI k0))]) hx hb d_MD_strip_92 hl (k := 2) rfl (iI_add _ _) (by decide) rfl (fun ls hl => ?_)
                refine lv_goto (tgt := 51) hx hb d_MD_strip_95 (by decide) ?_
                exact ih (k + 1) (k) (k + 1) _ _ _ (by omega) (by omega) (by omega) (by omega) (by omega) (fun j h1 h2 h3 => hlow j h1 (by omega) (by omega)) (fun j h1 h2 => by omega) (Or.inr ⟨by omega, by omega, by omega, by rw [show k + 1 - 1 = k by omega]; omega⟩) hw (lv_sub hl [0, 2, 1, 3, 4] rfl)
      exact loop ((((tt T k0).length : Int) - 0).toNat + 1) (0) (((tt T k0).length : Int)) (0) _ _ _ (by omega) (by omega) (by omega) (by omega) (by omega) (fun j h1 h2 h3 => by omega) (fun j h1 h2 => by omega) (Or.inl ⟨rfl, rfl⟩) hw (lv_sub hl [0, 2, 1, 3, 4] rfl)
    · refine lv_iconst (v := iI (2)) hx hb d_MD_strip_22 rfl ?_
      refine lv_goto (tgt := 27) hx hb d_MD_strip_23 (by decide) ?_
      refine pf_MD_31_MD X hw hM.1 rfl rfl d_MD_strip_27 (fun H locs hw => ?_)
      obtain ⟨f3, e_f3⟩ : ∃ g9 : dw_M, g9 = dw_up f y (.inr (6, [.int (iI 2), .int (iI ((T.length : Int))), .ref si, .ref un, .int (iI ((B.length : Int))), .ref bu, .int (iI ((M.length : Int))), .ref ma, .int (iI ((Z.length : Int))), .ref bt, .int (iI ((Y.length : Int))), .ref so, .int (iI ((C.length : Int))), .ref co])) := ⟨_, rfl⟩
      rw [← e_f3] at hw
      have hM_f3 : mdS G f3 y 2 (T.length : Int) (B.length : Int) (M.length : Int) (Z.length : Int) (Y.length : Int) (C.length : Int) si un bu ma bt so co gsi gun gbu gma gbt gso gco := by rw [e_f3]; exact hM.obj 2 (T.length : Int) (B.length : Int) (M.length : Int) (Z.length : Int) (Y.length : Int) (C.length : Int)
      refine lv_aload_n hx hb d_MD_strip_30 rfl (lv_at hl 0 rfl) ?_
      refine gf_MD_31_MD X hw hM_f3.1 d_MD_strip_31 ?_
      refine di_if_le (tgt := 39) hx hb d_MD_strip_34 (by decide) ⟨by decide, by decide⟩ (fun q9 => absurd q9 (by decide)) (fun _ => ?_)
      refine lv_iconst (v := iI (0)) hx hb d_MD_strip_37 rfl ?_
      have e9 : sp_strip T Y B Z k0 = (2, 0, T, Y, B, Z) := by rw [sp_strip, if_neg (fun q => q hT0), if_pos (by omega)]
      exact cn_iret hx hb hr hlk hw  (⟨by rw [e9], by rw [e9]; exact mdP_of (M := M) (C := C) ⟨si, un, bu, ma, bt, so, co, _, _, _, _, _, _, _, hM_f3, hT, hB, hZ, hMa, hC, hY⟩⟩) (Nat.le_refl _) (Nat.le_refl _) d_MD_strip_38
  · have nT : ¬ isT T k0 := of_decide_eq_false (b2_0 (by omega))
    refine lv_iconst (v := iI (1)) hx hb d_MD_strip_9 rfl ?_
    refine lv_goto (tgt := 27) hx hb d_MD_strip_10 (by decide) ?_
    refine pf_MD_31_MD X hw hM.1 rfl rfl d_MD_strip_27 (fun H locs hw => ?_)
    obtain ⟨f4, e_f4⟩ : ∃ g9 : dw_M, g9 = dw_up f y (.inr (6, [.int (iI 1), .int (iI ((T.length : Int))), .ref si, .ref un, .int (iI ((B.length : Int))), .ref bu, .int (iI ((M.length : Int))), .ref ma, .int (iI ((Z.length : Int))), .ref bt, .int (iI ((Y.length : Int))), .ref so, .int (iI ((C.length : Int))), .ref co])) := ⟨_, rfl⟩
    rw [← e_f4] at hw
    have hM_f4 : mdS G f4 y 1 (T.length : Int) (B.length : Int) (M.length : Int) (Z.length : Int) (Y.length : Int) (C.length : Int) si un bu ma bt so co gsi gun gbu gma gbt gso gco := by rw [e_f4]; exact hM.obj 1 (T.length : Int) (B.length : Int) (M.length : Int) (Z.length : Int) (Y.length : Int) (C.length : Int)
    refine lv_aload_n hx hb d_MD_strip_30 rfl (lv_at hl 0 rfl) ?_
    refine gf_MD_31_MD X hw hM_f4.1 d_MD_strip_31 ?_
    refine di_if_le (tgt := 39) hx hb d_MD_strip_34 (by decide) ⟨by decide, by decide⟩ (fun q9 => absurd q9 (by decide)) (fun _ => ?_)
    refine lv_iconst (v := iI (0)) hx hb d_MD_strip_37 rfl ?_
    have e9 : sp_strip T Y B Z k0 = (1, 0, T, Y, B, Z) := by rw [sp_strip, if_pos (fun q => nT q)]
    exact cn_iret hx hb hr hlk hw  (⟨by rw [e9], by rw [e9]; exact mdP_of (M := M) (C := C) ⟨si, un, bu, ma, bt, so, co, _, _, _, _, _, _, _, hM_f4, hT, hB, hZ, hMa, hC, hY⟩⟩) (Nat.le_refl _) (Nat.le_refl _) d_MD_strip_38
