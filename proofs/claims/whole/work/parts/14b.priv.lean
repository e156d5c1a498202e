set_option maxRecDepth 100000 in
set_option maxHeartbeats 4000000 in
theorem c_JT_init (l : Launch) (G : ct_G) (f : dw_M) (sz : Nat) (a x y d e0 : Nat) (ux uy : List Int) (h0 : f a = some (.inr (3, [.int (iI 0), .int (iI 0), .null, .null, .null]))) (htx : tx G d f x ux) (hty : tx G e0 f y uy) (hlen : ux.length + uy.length ≤ 60) : cn l y_JT_init w_JT_init (3) (80) G f sz [.ref a, .ref x, .ref y] (fun v f' => v = none ∧ f' a = some (.inr (3, [.int (iI ((ux ++ uy).length : Int)), .int (iI (nar (ux ++ uy))), .ref x, .ref y, .null])) ∧ ∀ b, b ≠ a → f' b = f b) (0) (0) := by
  refine cn_of (own := "TextDesk$JoinedText") (nm := "<init>") (ds := "(LTextDesk$Text;LTextDesk$Text;)V") (by decide) (Nat.le_of_ble_eq_true rfl) ?_
  intro p e s m args below meth c ls X hnm hr hlk hs0 hz hw hl
  have hx := X.1
  have hb := X.2.1
  have hl : lv_has ls 3 [(0, .ref a), (1, .ref x), (2, .ref y)] := hl
  have hle : ((ux ++ uy).length : Int) = (ux.length : Int) + (uy.length : Int) := by simp
  refine lv_aload_n hx hb d_JT_init_0 rfl (lv_at hl 0 rfl) ?_
  refine lv_aload_n hx hb d_JT_init_1 rfl (lv_at hl 1 rfl) ?_
  refine st_JT_1 X hz hw hl.1 htx ⟨Nat.le_of_ble_eq_true rfl, Nat.le_of_ble_eq_true rfl⟩ ⟨by show 0 ≤ 0; omega, by show 0 ≤ 0; omega⟩ (Nat.le_of_ble_eq_true rfl) d_JT_init_2 (fun H locs hw => ?_)
  refine W.eq (g2 := F0 m 5 ls [.int (iI ((ux.length : Int))), .ref a]) rfl ?_
  refine lv_aload_n hx hb d_JT_init_5 rfl (lv_at hl 2 rfl) ?_
  refine st_JT_1 X hz hw hl.1 hty ⟨Nat.le_of_ble_eq_true rfl, Nat.le_of_ble_eq_true rfl⟩ ⟨by show 0 ≤ 0; omega, by show 0 ≤ 0; omega⟩ (Nat.le_of_ble_eq_true rfl) d_JT_init_6 (fun H locs hw => ?_)
  refine W.eq (g2 := F0 m 9 ls [.int (iI ((uy.length : Int))), .int (iI ((ux.length : Int))), .ref a]) rfl ?_
  refine di_add hx hb d_JT_init_9 ?_
  refine lv_aload_n hx hb d_JT_init_10 rfl (lv_at hl 1 rfl) ?_
  refine st_JT_7 X hz hw hl.1 htx ⟨Nat.le_of_ble_eq_true rfl, Nat.le_of_ble_eq_true rfl⟩ ⟨by show 0 ≤ 0; omega, by show 0 ≤ 0; omega⟩ (Nat.le_of_ble_eq_true rfl) d_JT_init_11 (fun H locs hw => ?_)
  refine W.eq (g2 := F0 m 14 ls [.int (iI (nar ux)), .int (iI ((ux.length : Int) + (uy.length : Int))), .ref a]) rfl ?_
  have hn1 := nar_01 ux
  have hn2 := nar_01 uy
  refine di_if_eq (tgt := 28) hx hb d_JT_init_14 (by decide) ⟨by omega, by omega⟩ (fun bq14 => ?_) (fun bq14 => ?_)
  · refine lv_iconst (v := iI (0)) hx hb d_JT_init_28 rfl ?_
    have hnar : nar (ux ++ uy) = 0 := by rw [nar_app, if_pos bq14]
    refine cs_JT_11 X hz hw hl.1 (c_TX_init_JT l G f _ a ((ux.length : Int) + (uy.length : Int)) 0 (by decide) h0) ⟨Nat.le_of_ble_eq_true rfl, Nat.le_of_ble_eq_true rfl⟩ ⟨by show 0 + 0 ≤ 0; omega, by show 0 + 0 ≤ 0; omega⟩ (Nat.le_of_ble_eq_true rfl) d_JT_init_29 (fun v f2 H locs hp hw hsz9 hkp9 hdm9 => ?_)
    obtain ⟨rfl, h2, hk2⟩ := hp
    rw [← hnar, ← hle] at h2
    refine W.eq (g2 := F0 m 32 ls []) rfl ?_
    refine lv_aload_n hx hb d_JT_init_32 rfl (lv_at hl 0 rfl) ?_
    refine lv_aload_n hx hb d_JT_init_33 rfl (lv_at hl 1 rfl) ?_
    refine pf_JT_15_JT X hnm hw h2 (rfl) (rfl) d_JT_init_34 (fun H locs hw => ?_)
    obtain ⟨f3, e_f3⟩ : ∃ g9 : dw_M, g9 = dw_up f2 a (.inr (3, [.int (iI (((ux ++ uy).length : Int))), .int (iI (nar (ux ++ uy))), .ref x, .null, .null])) := ⟨_, rfl⟩
    rw [← e_f3] at hw
    have k_f3_a : f3 a = some (.inr (3, [.int (iI (((ux ++ uy).length : Int))), .int (iI (nar (ux ++ uy))), .ref x, .null, .null])) := by rw [e_f3]; exact dw_up_self _ _ _
    refine lv_aload_n hx hb d_JT_init_37 rfl (lv_at hl 0 rfl) ?_
    refine lv_aload_n hx hb d_JT_init_38 rfl (lv_at hl 2 rfl) ?_
    refine pf_JT_21_JT X hnm hw k_f3_a (rfl) (rfl) d_JT_init_39 (fun H locs hw => ?_)
    obtain ⟨f4, e_f4⟩ : ∃ g9 : dw_M, g9 = dw_up f3 a (.inr (3, [.int (iI (((ux ++ uy).length : Int))), .int (iI (nar (ux ++ uy))), .ref x, .ref y, .null])) := ⟨_, rfl⟩
    rw [← e_f4] at hw
    have k_f4_a : f4 a = some (.inr (3, [.int (iI (((ux ++ uy).length : Int))), .int (iI (nar (ux ++ uy))), .ref x, .ref y, .null])) := by rw [e_f4]; exact dw_up_self _ _ _
    exact cn_vret hx hb hr hlk hw  (⟨rfl, k_f4_a, fun b h8 => by rw [e_f4, dw_up_ne _ _ h8, e_f3, dw_up_ne _ _ h8]; exact hk2 b h8⟩) (Nat.le_refl _) (Nat.le_refl _) d_JT_init_42
  · refine lv_aload_n hx hb d_JT_init_17 rfl (lv_at hl 2 rfl) ?_
    refine st_JT_7 X hz hw hl.1 hty ⟨Nat.le_of_ble_eq_true rfl, Nat.le_of_ble_eq_true rfl⟩ ⟨by show 0 ≤ 0; omega, by show 0 ≤ 0; omega⟩ (Nat.le_of_ble_eq_true rfl) d_JT_init_18 (fun H locs hw => ?_)
    refine W.eq (g2 := F0 m 21 ls [.int (iI (nar uy)), .int (iI ((ux.length : Int) + (uy.length : Int))), .ref a]) rfl ?_
    refine di_if_eq (tgt := 28) hx hb d_JT_init_21 (by decide) ⟨by omega, by omega⟩ (fun bq21 => ?_) (fun bq21 => ?_)
    · refine lv_iconst (v := iI (0)) hx hb d_JT_init_28 rfl ?_
      have hnar : nar (ux ++ uy) = 0 := by rw [nar_app, bq21]; split <;> rfl
      refine cs_JT_11 X hz hw hl.1 (c_TX_init_JT l G f _ a ((ux.length : Int) + (uy.length : Int)) 0 (by decide) h0) ⟨Nat.le_of_ble_eq_true rfl, Nat.le_of_ble_eq_true rfl⟩ ⟨by show 0 + 0 ≤ 0; omega, by show 0 + 0 ≤ 0; omega⟩ (Nat.le_of_ble_eq_true rfl) d_JT_init_29 (fun v f2 H locs hp hw hsz9 hkp9 hdm9 => ?_)
      obtain ⟨rfl, h2, hk2⟩ := hp
      rw [← hnar, ← hle] at h2
      refine W.eq (g2 := F0 m 32 ls []) rfl ?_
      refine lv_aload_n hx hb d_JT_init_32 rfl (lv_at hl 0 rfl) ?_
      refine lv_aload_n hx hb d_JT_init_33 rfl (lv_at hl 1 rfl) ?_
      refine pf_JT_15_JT X hnm hw h2 (rfl) (rfl) d_JT_init_34 (fun H locs hw => ?_)
      obtain ⟨f3, e_f3⟩ : ∃ g9 : dw_M, g9 = dw_up f2 a (.inr (3, [.int (iI (((ux ++ uy).length : Int))), .int (iI (nar (ux ++ uy))), .ref x, .null, .null])) := ⟨_, rfl⟩
      rw [← e_f3] at hw
      have k_f3_a : f3 a = some (.inr (3, [.int (iI (((ux ++ uy).length : Int))), .int (iI (nar (ux ++ uy))), .ref x, .null, .null])) := by rw [e_f3]; exact dw_up_self _ _ _
      refine lv_aload_n hx hb d_JT_init_37 rfl (lv_at hl 0 rfl) ?_
      refine lv_aload_n hx hb d_JT_init_38 rfl (lv_at hl 2 rfl) ?_
      refine pf_JT_21_JT X hnm hw k_f3_a (rfl) (rfl) d_JT_init_39 (fun H locs hw => ?_)
      obtain ⟨f4, e_f4⟩ : ∃ g9 : dw_M, g9 = dw_up f3 a (.inr (3, [.int (iI (((ux ++ uy).length : Int))), .int (iI (nar (ux ++ uy))), .ref x, .ref y, .null])) := ⟨_, rfl⟩
      rw [← e_f4] at hw
      have k_f4_a : f4 a = some (.inr (3, [.int (iI (((ux ++ uy).length : Int))), .int (iI (nar (ux ++ uy))), .ref x, .ref y, .null])) := by rw [e_f4]; exact dw_up_self _ _ _
      exact cn_vret hx hb hr hlk hw  (⟨rfl, k_f4_a, fun b h8 => by rw [e_f4, dw_up_ne _ _ h8, e_f3, dw_up_ne _ _ h8]; exact hk2 b h8⟩) (Nat.le_refl _) (Nat.le_refl _) d_JT_init_42
    · refine lv_iconst (v := iI (1)) hx hb d_JT_init_24 rfl ?_
      refine lv_goto (tgt := 29) hx hb d_JT_init_25 (by decide) ?_
      have hnar : nar (ux ++ uy) = 1 := by rw [nar_app, if_neg bq14]; omega
      refine cs_JT_11 X hz hw hl.1 (c_TX_init_JT l G f _ a ((ux.length : Int) + (uy.length : Int)) 1 (by decide) h0) ⟨Nat.le_of_ble_eq_true rfl, Nat.le_of_ble_eq_true rfl⟩ ⟨by show 0 + 0 ≤ 0; omega, by show 0 + 0 ≤ 0; omega⟩ (Nat.le_of_ble_eq_true rfl) d_JT_init_29 (fun v f2 H locs hp hw hsz9 hkp9 hdm9 => ?_)
      obtain ⟨rfl, h2, hk2⟩ := hp
      rw [← hnar, ← hle] at h2
      refine W.eq (g2 := F0 m 32 ls []) rfl ?_
      refine lv_aload_n hx hb d_JT_init_32 rfl (lv_at hl 0 rfl) ?_
      refine lv_aload_n hx hb d_JT_init_33 rfl (lv_at hl 1 rfl) ?_
      refine pf_JT_15_JT X hnm hw h2 (rfl) (rfl) d_JT_init_34 (fun H locs hw => ?_)
      obtain ⟨f3, e_f3⟩ : ∃ g9 : dw_M, g9 = dw_up f2 a (.inr (3, [.int (iI (((ux ++ uy).length : Int))), .int (iI (nar (ux ++ uy))), .ref x, .null, .null])) := ⟨_, rfl⟩
      rw [← e_f3] at hw
      have k_f3_a : f3 a = some (.inr (3, [.int (iI (((ux ++ uy).length : Int))), .int (iI (nar (ux ++ uy))), .ref x, .null, .null])) := by rw [e_f3]; exact dw_up_self _ _ _
      refine lv_aload_n hx hb d_JT_init_37 rfl (lv_at hl 0 rfl) ?_
      refine lv_aload_n hx hb d_JT_init_38 rfl (lv_at hl 2 rfl) ?_
      refine pf_JT_21_JT X hnm hw k_f3_a (rfl) (rfl) d_JT_init_39 (fun H locs hw => ?_)
      obtain ⟨f4, e_f4⟩ : ∃ g9 : dw_M, g9 = dw_up f3 a (.inr (3, [.int (iI (((ux ++ uy).length : Int))), .int (iI (nar (ux ++ uy))), .ref x, .ref y, .null])) := ⟨_, rfl⟩
      rw [← e_f4] at hw
      have k_f4_a : f4 a = some (.inr (3, [.int (iI (((ux ++ uy).length : Int))), .int (iI (nar (ux ++ uy))), .ref x, .ref y, .null])) := by rw [e_f4]; exact dw_up_self _ _ _
      exact cn_vret hx hb hr hlk hw  (⟨rfl, k_f4_a, fun b h8 => by rw [e_f4, dw_up_ne _ _ h8, e_f3, dw_up_ne _ _ h8]; exact hk2 b h8⟩) (Nat.le_refl _) (Nat.le_refl _) d_JT_init_42
set_option maxRecDepth 100000 in
set_option maxHeartbeats 4000000 in
theorem c_DK_joined (l : Launch) (G : ct_G) (f : dw_M) (sz : Nat) (x y d : Nat) (ux uy : List Int) (htx : tx G d f x ux) (hty : tx G d f y uy) (hlen : ux.length + uy.length ≤ 60) : cn l y_DK_joined w_DK_joined (4) (110) G f sz [.ref x, .ref y] (fun v f' => ∃ t, v = some (.ref t) ∧ tx G (d + 1) f' t (ux ++ uy) ∧ ∀ b z, f b = some z → f' b = some z) (1) (5) := by
  refine cn_of (own := "TextDesk") (nm := "joined") (ds := "(LTextDesk$Text;LTextDesk$Text;)LTextDesk$Text;") (by decide) (Nat.le_of_ble_eq_true rfl) ?_
  intro p e s m args below meth c ls X hnm hr hlk hs0 hz hw hl
  have hx := X.1
  have hb := X.2.1
  have hl : lv_has ls 2 [(0, .ref x), (1, .ref y)] := hl
  have hlx := htx.len
  have hly := hty.len
  refine lv_aload_n hx hb d_DK_joined_0 rfl (lv_at hl 0 rfl) ?_
  refine st_DK_77 X hz hw hl.1 htx ⟨Nat.le_of_ble_eq_true rfl, Nat.le_of_ble_eq_true rfl⟩ ⟨by show 0 ≤ 1; omega, by show 0 ≤ 5; omega⟩ (Nat.le_of_ble_eq_true rfl) d_DK_joined_1 (fun H locs hw => ?_)
  refine W.eq (g2 := F0 m 4 ls [.int (iI ((ux.length : Int)))]) rfl ?_
  refine di_if_ne (tgt := 9) hx hb d_DK_joined_4 (by decide) ⟨by omega, by omega⟩ (fun bq4 => ?_) (fun bq4 => ?_)
  · refine lv_aload_n hx hb d_DK_joined_9 rfl (lv_at hl 1 rfl) ?_
    refine st_DK_77 X hz hw hl.1 hty ⟨Nat.le_of_ble_eq_true rfl, Nat.le_of_ble_eq_true rfl⟩ ⟨by show 0 ≤ 1; omega, by show 0 ≤ 5; omega⟩ (Nat.le_of_ble_eq_true rfl) d_DK_joined_10 (fun H locs hw => ?_)
    refine W.eq (g2 := F0 m 13 ls [.int (iI ((uy.length : Int)))]) rfl ?_
    refine di_if_ne (tgt := 18) hx hb d_DK_joined_13 (by decide) ⟨by omega, by omega⟩ (fun bq13 => ?_) (fun bq13 => ?_)
    · refine nw_DK_196 X hw (by show 0 + 1 ≤ 1; omega) (by show 0 + 5 ≤ 5; omega) d_DK_joined_18 (fun t H hq_t hw => ?_)
      obtain ⟨f2, e_f2⟩ : ∃ g9 : dw_M, g9 = dw_up f t (.inr (3, [.int (iI 0), .int (iI 0), .null, .null, .null])) := ⟨_, rfl⟩
      rw [← e_f2] at hw
      have k_f2_t : f2 t = some (.inr (3, [.int (iI 0), .int (iI 0), .null, .null, .null])) := by rw [e_f2]; exact dw_up_self _ _ _
      refine lv_dup hx hb d_DK_joined_21 rfl ?_
      refine lv_aload_n hx hb d_DK_joined_22 rfl (lv_at hl 0 rfl) ?_
      refine lv_aload_n hx hb d_DK_joined_23 rfl (lv_at hl 1 rfl) ?_
      have hm : ∀ b z, f b = some z → f2 b = some z := fun b z h9 => by rw [e_f2]; exact dw_keep h9 (dw_neN h9 hq_t)
      refine cs_DK_198 X hz hw hl.1 (c_JT_init l G f2 _ t x y d d ux uy k_f2_t (tx.agree (fun a z h9 _ => hm a z h9) htx) (tx.agree (fun a z h9 _ => hm a z h9) hty) hlen) ⟨Nat.le_of_ble_eq_true rfl, Nat.le_of_ble_eq_true rfl⟩ ⟨by show 0 + 1 + 0 ≤ 1; omega, by show 0 + 5 + 0 ≤ 5; omega⟩ (Nat.le_of_ble_eq_true rfl) d_DK_joined_24 (fun v f5 H locs hp hw hsz9 hkp9 hdm9 => ?_)
      obtain ⟨rfl, h5, hk5⟩ := hp
      have hm5 : ∀ b z, f b = some z → f5 b = some z := fun b z h9 => by rw [hk5 b (dw_neN h9 hq_t)]; exact hm b z h9
      refine W.eq (g2 := F0 m 27 ls [.ref t]) rfl ?_
      exact cn_aret hx hb hr hlk hw (Or.inr ⟨_, rfl⟩) (⟨t, rfl, Or.inr ⟨x, y, ux, uy, none, h5, tx.agree (fun a z h9 _ => hm5 a z h9) htx, tx.agree (fun a z h9 _ => hm5 a z h9) hty, rfl, (fun q h9 => by cases h9), (by rw [List.length_append]; omega)⟩, hm5⟩) (by omega) (by omega) d_DK_joined_27
    · refine lv_aload_n hx hb d_DK_joined_16 rfl (lv_at hl 0 rfl) ?_
      exact cn_aret hx hb hr hlk hw (Or.inr ⟨_, rfl⟩) (⟨x, rfl, by rw [List.length_eq_zero_iff.mp (by omega : uy.length = 0), List.append_nil]; exact htx.more, fun _ _ h9 => h9⟩) (by omega) (by omega) d_DK_joined_17
  · refine lv_aload_n hx hb d_DK_joined_7 rfl (lv_at hl 1 rfl) ?_
    exact cn_aret hx hb hr hlk hw (Or.inr ⟨_, rfl⟩) (⟨y, rfl, by rw [List.length_eq_zero_iff.mp (by omega : ux.length = 0), List.nil_append]; exact hty.more, fun _ _ h9 => h9⟩) (by omega) (by omega) d_DK_joined_8
set_option maxRecDepth 100000 in
set_option maxHeartbeats 4000000 in
theorem c_DK_refuseBadRange (l : Launch) (hlT : l.stackTraces = false) (G : ct_G) (f : dw_M) (sz : Nat) (fr to n : Int) (h1 : iR fr) (h2 : iR to) (h3 : iR n) : ct l y_DK_refuseBadRange w_DK_refuseBadRange (8) (120) G f sz [.int (iI fr), .int (iI to), .int (iI n)] (fun v f' => v = none ∧ (0 ≤ fr ∧ fr ≤ to ∧ to ≤ n) ∧ f' = f) (fun E f' => E = "java/lang/IndexOutOfBoundsException" ∧ ¬ (0 ≤ fr ∧ fr ≤ to ∧ to ≤ n) ∧ f' = f) (1) (6) := by
  refine ct_of (own := "TextDesk") (nm := "refuseBadRange") (ds := "(III)V") (by decide) (Nat.le_of_ble_eq_true rfl) ?_
  intro p e s m args below meth c ls X hnm hr hlk hnx hs0 hz hw hl
  have hx := X.1
  have hb := X.2.1
  have hl : lv_has ls 3 [(0, .int (iI fr)), (1, .int (iI to)), (2, .int (iI n))] := hl
  obtain ⟨a1, a2⟩ := h1
  obtain ⟨b1, b2⟩ := h2
  obtain ⟨c1, c2⟩ := h3
  refine lv_iload_n hx hb d_DK_refuseBadRange_0 rfl (lv_at hl 0 rfl) ?_
  refine di_if_lt (tgt := 14) hx hb d_DK_refuseBadRange_1 (by decide) ⟨by omega, by omega⟩ (fun bq1 => ?_) (fun bq1 => ?_)
  · exact th_IOB X hlT hz (is := 178) (text := "no such range") (by decide +kernel) hw hl.1 hnx hlk (⟨rfl, by omega, rfl⟩) ⟨by show 8 ≤ 8; omega, by show 120 ≤ 120; omega⟩ ⟨by show 0 + 1 ≤ 1; omega, by show 0 + 6 ≤ 6; omega⟩ ⟨by show 0 + 1 ≤ 1; omega, by show 0 + 6 ≤ 6; omega⟩ (Nat.le_of_ble_eq_true rfl) d_DK_refuseBadRange_14 d_DK_refuseBadRange_17 d_DK_refuseBadRange_18 d_DK_refuseBadRange_20 d_DK_refuseBadRange_23
  · refine lv_iload_n hx hb d_DK_refuseBadRange_4 rfl (lv_at hl 0 rfl) ?_
    refine lv_iload_n hx hb d_DK_refuseBadRange_5 rfl (lv_at hl 1 rfl) ?_
    refine di_icmp_gt (tgt := 14) hx hb d_DK_refuseBadRange_6 (by decide) ⟨by omega, by omega⟩ ⟨by omega, by omega⟩ (fun bq6 => ?_) (fun bq6 => ?_)
    · exact th_IOB X hlT hz (is := 178) (text := "no such range") (by decide +kernel) hw hl.1 hnx hlk (⟨rfl, by omega, rfl⟩) ⟨by show 8 ≤ 8; omega, by show 120 ≤ 120; omega⟩ ⟨by show 0 + 1 ≤ 1; omega, by show 0 + 6 ≤ 6; omega⟩ ⟨by show 0 + 1 ≤ 1; omega, by show 0 + 6 ≤ 6; omega⟩ (Nat.le_of_ble_eq_true rfl) d_DK_refuseBadRange_14 d_DK_refuseBadRange_17 d_DK_refuseBadRange_18 d_DK_refuseBadRange_20 d_DK_refuseBadRange_23
    · refine lv_iload_n hx hb d_DK_refuseBadRange_9 rfl (lv_at hl 1 rfl) ?_
      refine lv_iload_n hx hb d_DK_refuseBadRange_10 rfl (lv_at hl 2 rfl) ?_
      refine di_icmp_le (tgt := 24) hx hb d_DK_refuseBadRange_11 (by decide) ⟨by omega, by omega⟩ ⟨by omega, by omega⟩ (fun bq11 => ?_) (fun bq11 => ?_)
      · exact ct_vret hx hb hr  hlk hw (⟨rfl, by omega, rfl⟩) (by omega) (by omega) d_DK_refuseBadRange_24
      · exact th_IOB X hlT hz (is := 178) (text := "no such range") (by decide +kernel) hw hl.1 hnx hlk (⟨rfl, by omega, rfl⟩) ⟨by show 8 ≤ 8; omega, by show 120 ≤ 120; omega⟩ ⟨by show 0 + 1 ≤ 1; omega, by show 0 + 6 ≤ 6; omega⟩ ⟨by show 0 + 1 ≤ 1; omega, by show 0 + 6 ≤ 6; omega⟩ (Nat.le_of_ble_eq_true rfl) d_DK_refuseBadRange_14 d_DK_refuseBadRange_17 d_DK_refuseBadRange_18 d_DK_refuseBadRange_20 d_DK_refuseBadRange_23
set_option maxRecDepth 100000 in
set_option maxHeartbeats 4000000 in
theorem c_DK_refuseUnknownEncoding (l : Launch) (hlT : l.stackTraces = false) (G : ct_G) (f : dw_M) (sz : Nat) (k : Int) (h1 : iR k) : ct l y_DK_refuseUnknownEncoding w_DK_refuseUnknownEncoding (8) (120) G f sz [.int (iI k)] (fun v f' => v = none ∧ (0 ≤ k ∧ k ≤ 4) ∧ f' = f) (fun E f' => E = "java/lang/IllegalArgumentException" ∧ ¬ (0 ≤ k ∧ k ≤ 4) ∧ f' = f) (1) (6) := by
  refine ct_of (own := "TextDesk") (nm := "refuseUnknownEncoding") (ds := "(I)V") (by decide) (Nat.le_of_ble_eq_true rfl) ?_
  intro p e s m args below meth c ls X hnm hr hlk hnx hs0 hz hw hl
  have hx := X.1
  have hb := X.2.1
  have hl : lv_has ls 1 [(0, .int (iI k))] := hl
  obtain ⟨a1, a2⟩ := h1
  refine lv_iload_n hx hb d_DK_refuseUnknownEncoding_0 rfl (lv_at hl 0 rfl) ?_
  refine di_if_lt (tgt := 9) hx hb d_DK_refuseUnknownEncoding_1 (by decide) ⟨by omega, by omega⟩ (fun bq1 => ?_) (fun bq1 => ?_)
  · exact th_IAE X hlT hz (is := 180) (text := "no such encoding") (by decide +kernel) hw hl.1 hnx hlk (⟨rfl, by omega, rfl⟩) ⟨by show 8 ≤ 8; omega, by show 120 ≤ 120; omega⟩ ⟨by show 0 + 1 ≤ 1; omega, by show 0 + 6 ≤ 6; omega⟩ ⟨by show 0 + 1 ≤ 1; omega, by show 0 + 6 ≤ 6; omega⟩ (Nat.le_of_ble_eq_true rfl) d_DK_refuseUnknownEncoding_9 d_DK_refuseUnknownEncoding_12 d_DK_refuseUnknownEncoding_13 d_DK_refuseUnknownEncoding_15 d_DK_refuseUnknownEncoding_18
  · refine lv_iload_n hx hb d_DK_refuseUnknownEncoding_4 rfl (lv_at hl 0 rfl) ?_
    refine lv_iconst (v := iI (4)) hx hb d_DK_refuseUnknownEncoding_5 rfl ?_
    refine di_icmp_le (tgt := 19) hx hb d_DK_refuseUnknownEncoding_6 (by decide) ⟨by omega, by omega⟩ ⟨by omega, by omega⟩ (fun bq6 => ?_) (fun bq6 => ?_)
    · exact ct_vret hx hb hr  hlk hw (⟨rfl, by omega, rfl⟩) (by omega) (by omega) d_DK_refuseUnknownEncoding_19
    · exact th_IAE X hlT hz (is := 180) (text := "no such encoding") (by decide +kernel) hw hl.1 hnx hlk (⟨rfl, by omega, rfl⟩) ⟨by show 8 ≤ 8; omega, by show 120 ≤ 120; omega⟩ ⟨by show 0 + 1 ≤ 1; omega, by show 0 + 6 ≤ 6; omega⟩ ⟨by show 0 + 1 ≤ 1; omega, by show 0 + 6 ≤ 6; omega⟩ (Nat.le_of_ble_eq_true rfl) d_DK_refuseUnknownEncoding_9 d_DK_refuseUnknownEncoding_12 d_DK_refuseUnknownEncoding_13 d_DK_refuseUnknownEncoding_15 d_DK_refuseUnknownEncoding_18
set_option maxRecDepth 100000 in
set_option maxHeartbeats 4000000 in
theorem c_DK_sizeOrItem (l : Launch) (hlT : l.stackTraces = false) (G : ct_G) (f : dw_M) (sz : Nat) (b : Nat) (us : List Int) (k : Int) (hk : iR k) (hus : ∀ u ∈ us, 0 ≤ u ∧ u < 65536) (hsq : sq G f b us) : ct l y_DK_sizeOrItem w_DK_sizeOrItem (42) (960) G f sz [.ref b, .int (iI k)] (fun v f' => v = some (.int (iI (if k = -1 then (us.length : Int) else gt us k))) ∧ (-1 ≤ k ∧ k < (us.length : Int)) ∧ exo G no1 f f') (fun E f' => E = "java/lang/IndexOutOfBoundsException" ∧ ¬ (-1 ≤ k ∧ k < (us.length : Int)) ∧ exo G no1 f f') (4 * pot f b + 1) (140 * pot f b + 6) := by
  refine ct_of (own := "TextDesk") (nm := "sizeOrItem") (ds := "(LTextDesk$Sequence;I)I") (by decide) (Nat.le_of_ble_eq_true rfl) ?_
  intro p e s m args below meth c ls X hnm hr hlk hnx hs0 hz hw hl
  have hx := X.1
  have hb := X.2.1
  have hl : lv_has ls 3 [(0, .ref b), (1, .int (iI k))] := hl
  obtain ⟨a1, a2⟩ := hk
  have hlen := hsq.len
  refine lv_iload_n hx hb d_DK_sizeOrItem_0 rfl (lv_at hl 1 rfl) ?_
  refine lv_iconst (v := iI (-1)) hx hb d_DK_sizeOrItem_1 rfl ?_
  refine di_icmp_ne (tgt := 10) hx hb d_DK_sizeOrItem_2 (by decide) ⟨by omega, by omega⟩ ⟨by omega, by omega⟩ (fun bq2 => ?_) (fun bq2 => ?_)
  · refine lv_aload_n hx hb d_DK_sizeOrItem_10 rfl (lv_at hl 0 rfl) ?_
    refine lv_iload_n hx hb d_DK_sizeOrItem_11 rfl (lv_at hl 1 rfl) ?_
    refine sg_DK_185 X hz hw hl.1 hsq ⟨by omega, by omega⟩ ⟨Nat.le_of_ble_eq_true rfl, Nat.le_of_ble_eq_true rfl⟩ ⟨by show 0 + 4 * pot f b ≤ 4 * pot f b + 1; omega, by show 0 + 140 * pot f b ≤ 140 * pot f b + 6; omega⟩ (Nat.le_of_ble_eq_true rfl) d_DK_sizeOrItem_12 (fun f2 H locs hx_f2 hp_f2 hw => ?_)
    refine W.eq (g2 := F0 m 15 ls [.int (iI (gt us k))]) rfl ?_
    have hr1 := gt_rng hus k
    refine lv_istore_n (lv' := [(2, .int (iI (gt us k))), (0, .ref b), (1, .int (iI k))]) hx hb d_DK_sizeOrItem_15 rfl hl (by decide) rfl (fun ls hl => ?_)
    refine lv_iload_n hx hb d_DK_sizeOrItem_16 rfl (lv_at hl 0 rfl) ?_
    refine lv_iconst (v := iI (-1)) hx hb d_DK_sizeOrItem_17 rfl ?_
    refine di_icmp_ne (tgt := 31) hx hb d_DK_sizeOrItem_18 (by decide) ⟨by omega, by omega⟩ ⟨by omega, by omega⟩ (fun bq18 => ?_) (fun bq18 => ?_)
    · have hin : 0 ≤ k ∧ k < (us.length : Int) := Decidable.byContradiction (fun q => bq18 (gt_out q))
      refine lv_iload_n hx hb d_DK_sizeOrItem_31 rfl (lv_at hl 0 rfl) ?_
      exact ct_iret hx hb hr  hlk hw (⟨by rw [if_neg bq2], by omega, hx_f2⟩) (by omega) (by omega) d_DK_sizeOrItem_32
    · have hou : ¬ (0 ≤ k ∧ k < (us.length : Int)) := fun q => by
        have h8 := hus _ (getD_mem (us := us) (k := k.toNat) (by omega))
        rw [gt_in q.1 q.2] at bq18
        omega
      exact th_IOB X hlT hz (is := 186) (text := "there is nothing at this place") (by decide +kernel) hw hl.1 hnx hlk (⟨rfl, by omega, hx_f2⟩) ⟨by show 8 ≤ 42; omega, by show 120 ≤ 960; omega⟩ ⟨by show 0 + 4 * pot f b + 1 ≤ 4 * pot f b + 1; omega, by show 0 + 140 * pot f b + 6 ≤ 140 * pot f b + 6; omega⟩ ⟨by show 0 + 4 * pot f b + 1 ≤ 4 * pot f b + 1; omega, by show 0 + 140 * pot f b + 6 ≤ 140 * pot f b + 6; omega⟩ (Nat.le_of_ble_eq_true rfl) d_DK_sizeOrItem_21 d_DK_sizeOrItem_24 d_DK_sizeOrItem_25 d_DK_sizeOrItem_27 d_DK_sizeOrItem_30
  · refine lv_aload_n hx hb d_DK_sizeOrItem_5 rfl (lv_at hl 0 rfl) ?_
    refine sq_DK_182 X hz hw hl.1 hsq.w ⟨Nat.le_of_ble_eq_true rfl, Nat.le_of_ble_eq_true rfl⟩ ⟨by show 0 ≤ 4 * pot f b + 1; omega, by show 0 ≤ 140 * pot f b + 6; omega⟩ (Nat.le_of_ble_eq_true rfl) d_DK_sizeOrItem_6 (fun H locs hw => ?_)
    refine W.eq (g2 := F0 m 9 ls [.int (iI ((us.length : Int)))]) rfl ?_
    exact ct_iret hx hb hr  hlk hw (⟨by rw [if_pos bq2], by omega, exo.rf⟩) (by omega) (by omega) d_DK_sizeOrItem_9
set_option maxRecDepth 100000 in
set_option maxHeartbeats 4000000 in
theorem c_DK_textNumbered (l : Launch) (hlT : l.stackTraces = false) (G : ct_G) (f : dw_M) (sz : Nat) (k : Int) (hk : iR k) (x ta sa yr dc bu dr qy qb qd : Nat) (gT gS : Nat → Option Nat) (c0 w0 : Int32) (T Y : List (List Int)) (B Z D : List Int) (sB sZ sD : Int) (hS : dkS G f x ta sa yr dc bu dr qy qb qd gT gS c0 w0 T Y B Z D sB sZ sD) : ct l y_DK_textNumbered w_DK_textNumbered (8) (120) G f sz [.ref x, .int (iI k)] (fun v f' => ∃ t, v = some (.ref t) ∧ gT k.toNat = some t ∧ (0 ≤ k ∧ k < (T.length : Int)) ∧ f' = f) (fun E f' => E = "java/lang/IllegalArgumentException" ∧ ¬ (0 ≤ k ∧ k < (T.length : Int)) ∧ f' = f) (1) (6) := by
  refine ct_of (own := "TextDesk") (nm := "textNumbered") (ds := "(I)LTextDesk$Text;") (by decide) (Nat.le_of_ble_eq_true rfl) ?_
  intro p e s m args below meth c ls X hnm hr hlk hnx hs0 hz hw hl
  have hx := X.1
  have hb := X.2.1
  have hl : lv_has ls 2 [(0, .ref x), (1, .int (iI k))] := hl
  obtain ⟨a1, a2⟩ := hk
  have hT := hS.2.2.2.2.1.1
  refine lv_iload_n hx hb d_DK_textNumbered_0 rfl (lv_at hl 1 rfl) ?_
  refine di_if_lt (tgt := 22) hx hb d_DK_textNumbered_1 (by decide) ⟨by omega, by omega⟩ (fun bq1 => ?_) (fun bq1 => ?_)
  · exact th_IAE X hlT hz (is := 169) (text := "no such text") (by decide +kernel) hw hl.1 hnx hlk (⟨rfl, by omega, rfl⟩) ⟨by show 8 ≤ 8; omega, by show 120 ≤ 120; omega⟩ ⟨by show 0 + 1 ≤ 1; omega, by show 0 + 6 ≤ 6; omega⟩ ⟨by show 0 + 1 ≤ 1; omega, by show 0 + 6 ≤ 6; omega⟩ (Nat.le_of_ble_eq_true rfl) d_DK_textNumbered_22 d_DK_textNumbered_25 d_DK_textNumbered_26 d_DK_textNumbered_28 d_DK_textNumbered_31
  · refine lv_iload_n hx hb d_DK_textNumbered_4 rfl (lv_at hl 1 rfl) ?_
    refine lv_aload_n hx hb d_DK_textNumbered_5 rfl (lv_at hl 0 rfl) ?_
    refine gf_DK_11_DK X hw hS.1 d_DK_textNumbered_6 ?_
    refine dw_alen hx hb X.K hw 3 hS.2.1 rfl d_DK_textNumbered_9 ?_
    refine di_icmp_ge (tgt := 22) hx hb d_DK_textNumbered_10 (by decide) ⟨by omega, by omega⟩ ⟨by omega, by omega⟩ (fun bq10 => ?_) (fun bq10 => ?_)
    · exact th_IAE X hlT hz (is := 169) (text := "no such text") (by decide +kernel) hw hl.1 hnx hlk (⟨rfl, by omega, rfl⟩) ⟨by show 8 ≤ 8; omega, by show 120 ≤ 120; omega⟩ ⟨by show 0 + 1 ≤ 1; omega, by show 0 + 6 ≤ 6; omega⟩ ⟨by show 0 + 1 ≤ 1; omega, by show 0 + 6 ≤ 6; omega⟩ (Nat.le_of_ble_eq_true rfl) d_DK_textNumbered_22 d_DK_textNumbered_25 d_DK_textNumbered_26 d_DK_textNumbered_28 d_DK_textNumbered_31
    · refine lv_aload_n hx hb d_DK_textNumbered_13 rfl (lv_at hl 0 rfl) ?_
      refine gf_DK_11_DK X hw hS.1 d_DK_textNumbered_14 ?_
      refine lv_iload_n hx hb d_DK_textNumbered_17 rfl (lv_at hl 1 rfl) ?_
      by_cases hlt : k < (T.length : Int)
      · obtain ⟨t, ht, -⟩ := hS.2.2.2.2.2.1 k.toNat (by omega)
        refine dw_aald hx hb X.K hw 3 hS.2.1 rfl (by omega) (by omega) (by omega) ht d_DK_textNumbered_18 ?_
        refine W.eq (g2 := F0 m 19 ls [.ref t]) rfl ?_
        refine lv_ifnonnull (tgt := 32) hx hb d_DK_textNumbered_19 (by decide) ?_
        refine lv_aload_n hx hb d_DK_textNumbered_32 rfl (lv_at hl 0 rfl) ?_
        refine gf_DK_11_DK X hw hS.1 d_DK_textNumbered_33 ?_
        refine lv_iload_n hx hb d_DK_textNumbered_36 rfl (lv_at hl 1 rfl) ?_
        refine dw_aald hx hb X.K hw 3 hS.2.1 rfl (by omega) (by omega) (by omega) ht d_DK_textNumbered_37 ?_
        refine W.eq (g2 := F0 m 38 ls [.ref t]) rfl ?_
        exact ct_aret hx hb hr (Or.inr ⟨_, rfl⟩) hlk hw (⟨t, rfl, ht, by omega, rfl⟩) (by omega) (by omega) d_DK_textNumbered_38
      · have hnn := hS.2.2.2.2.1.2.2.2.1 k.toNat (by omega)
        refine dw_aald hx hb X.K hw 3 hS.2.1 rfl (by omega) (by omega) (by omega) hnn d_DK_textNumbered_18 ?_
        refine W.eq (g2 := F0 m 19 ls [.null]) rfl ?_
        refine lv_ifnonnullN hx hb d_DK_textNumbered_19 ?_
        exact th_IAE X hlT hz (is := 169) (text := "no such text") (by decide +kernel) hw hl.1 hnx hlk (⟨rfl, by omega, rfl⟩) ⟨by show 8 ≤ 8; omega, by show 120 ≤ 120; omega⟩ ⟨by show 0 + 1 ≤ 1; omega, by show 0 + 6 ≤ 6; omega⟩ ⟨by show 0 + 1 ≤ 1; omega, by show 0 + 6 ≤ 6; omega⟩ (Nat.le_of_ble_eq_true rfl) d_DK_textNumbered_22 d_DK_textNumbered_25 d_DK_textNumbered_26 d_DK_textNumbered_28 d_DK_textNumbered_31
set_option maxRecDepth 100000 in
set_option maxHeartbeats 4000000 in
theorem c_DK_keepText (l : Launch) (hlT : l.stackTraces = false) (G : ct_G) (f : dw_M) (sz : Nat) (t : Nat) (us : List Int) (x ta sa yr dc bu dr qy qb qd : Nat) (gT gS : Nat → Option Nat) (c0 w0 : Int32) (T Y : List (List Int)) (B Z D : List Int) (sB sZ sD : Int) (hS : dkS G f x ta sa yr dc bu dr qy qb qd gT gS c0 w0 T Y B Z D sB sZ sD) (ht : T.length < 24 → tx G T.length f t us) : ct l y_DK_keepText w_DK_keepText (8) (120) G f sz [.ref x, .ref t] (fun v f' => v = some (.int (iI (T.length : Int))) ∧ T.length < 24 ∧ dkS G f' x ta sa yr dc bu dr qy qb qd (va_up gT T.length (some t)) gS c0 w0 (T ++ [us]) Y B Z D sB sZ sD) (fun E f' => E = "java/lang/IllegalStateException" ∧ T.length = 24 ∧ f' = f) (1) (6) := by
  refine ct_of (own := "TextDesk") (nm := "keepText") (ds := "(LTextDesk$Text;)I") (by decide) (Nat.le_of_ble_eq_true rfl) ?_
  intro p e s m args below meth c ls X hnm hr hlk hnx hs0 hz hw hl
  have hx := X.1
  have hb := X.2.1
  have hl : lv_has ls 3 [(0, .ref x), (1, .ref t)] := hl
  have hG := X.E.ok
  have hT := hS.2.2.2.2.1.1
  refine lv_iconst (v := iI (0)) hx hb d_DK_keepText_0 rfl ?_
  refine lv_istore_n (lv' := [(2, .int (iI 0)), (0, .ref x), (1, .ref t)]) hx hb d_DK_keepText_1 rfl hl (by decide) rfl (fun ls hl => ?_)
  have loop : ∀ (N : Nat) (n : Int) (H : Heap) (locs : List Loc) (ls : Array Slot), ((24 : Int) - n).toNat < N → 0 ≤ n → n ≤ (T.length : Int) → dw G.1 dk_cl (dw_A f sz) s.heap f H locs → lv_has ls 3 [(2, .int (iI n)), (0, .ref x), (1, .ref t)] → W p l e { frames := 8, locals := 120, cells := 1, slots := 6 } s m args below meth c H locs (0) (0) (vx_MQ below (ct_Q G f sz (fun v f' => v = some (.int (iI (T.length : Int))) ∧ T.length < 24 ∧ dkS G f' x ta sa yr dc bu dr qy qb qd (va_up gT T.length (some t)) gS c0 w0 (T ++ [us]) Y B Z D sB sZ sD)) (ct_X G f sz (fun E f' => E = "java/lang/IllegalStateException" ∧ T.length = 24 ∧ f' = f)) args s (1) (6) (dw_A f sz)) (F0 m 2 ls []) := by
    intro N
    induction N with
    | zero => intros; omega
    | succ N ih =>
      intro n H locs ls hN hn0 hn1 hw hl
      refine lv_iload_n hx hb d_DK_keepText_2 rfl (lv_at hl 0 rfl) ?_
      refine lv_aload_n hx hb d_DK_keepText_3 rfl (lv_at hl 1 rfl) ?_
      refine gf_DK_11_DK X hw hS.1 d_DK_keepText_4 ?_
      refine dw_alen hx hb X.K hw 3 hS.2.1 rfl d_DK_keepText_7 ?_
      refine di_icmp_ge (tgt := 35) hx hb d_DK_keepText_8 (by decide) ⟨by omega, by omega⟩ ⟨by omega, by omega⟩ (fun bq8 => ?_) (fun bq8 => ?_)
      · exact th_ISE X hlT hz (is := 171) (text := "there is no room for a text") (by decide +kernel) hw hl.1 hnx hlk (⟨rfl, by omega, rfl⟩) ⟨by show 8 ≤ 8; omega, by show 120 ≤ 120; omega⟩ ⟨by show 0 + 1 ≤ 1; omega, by show 0 + 6 ≤ 6; omega⟩ ⟨by show 0 + 1 ≤ 1; omega, by show 0 + 6 ≤ 6; omega⟩ (Nat.le_of_ble_eq_true rfl) d_DK_keepText_35 d_DK_keepText_38 d_DK_keepText_39 d_DK_keepText_41 d_DK_keepText_44
      · refine lv_aload_n hx hb d_DK_keepText_11 rfl (lv_at hl 1 rfl) ?_
        refine gf_DK_11_DK X hw hS.1 d_DK_keepText_12 ?_
        refine lv_iload_n hx hb d_DK_keepText_15 rfl (lv_at hl 0 rfl) ?_
        by_cases hlt : n < (T.length : Int)
        · obtain ⟨t9, ht9, -⟩ := hS.2.2.2.2.2.1 n.toNat (by omega)
          refine dw_aald hx hb X.K hw 3 hS.2.1 rfl (by omega) (by omega) (by omega) ht9 d_DK_keepText_16 ?_
          refine W.eq (g2 := F0 m 17 ls [.ref t9]) rfl ?_
          refine lv_ifnonnull (tgt := 29) hx hb d_DK_keepText_17 (by decide) ?_
          refine lv_iinc (v := iI (n + 1)) (lv' := [(2, .int (iI (n + 1))), (0, .ref x), (1, .ref t)]) hx hb d_DK_keepText_29 hl (k := 0) rfl (iI_add _ _) (by decide) rfl (fun ls hl => ?_)
          refine lv_goto (tgt := 2) hx hb d_DK_keepText_32 (by decide) ?_
          exact ih (n + 1) _ _ _ (by omega) (by omega) (by omega) hw (lv_sub hl [0, 1, 2] rfl)
        · obtain rfl : n = (T.length : Int) := by omega
          have ht := ht (by omega)
          have hnn := hS.2.2.2.2.1.2.2.2.1 (T.length : Int).toNat (by omega)
          refine dw_aald hx hb X.K hw 3 hS.2.1 rfl (by omega) (by omega) (by omega) hnn d_DK_keepText_16 ?_
          refine W.eq (g2 := F0 m 17 ls [.null]) rfl ?_
          refine lv_ifnonnullN hx hb d_DK_keepText_17 ?_
          refine lv_aload_n hx hb d_DK_keepText_20 rfl (lv_at hl 1 rfl) ?_
          refine gf_DK_11_DK X hw hS.1 d_DK_keepText_21 ?_
          refine lv_iload_n hx hb d_DK_keepText_24 rfl (lv_at hl 0 rfl) ?_
          refine lv_aload_n hx hb d_DK_keepText_25 rfl (lv_at hl 2 rfl) ?_
          refine ra_aast X hw hS.2.1 ht (by omega) (by omega) (by omega) d_DK_keepText_26 (fun H locs hw => ?_)
          obtain ⟨f2, e_f2⟩ : ∃ g9 : dw_M, g9 = dw_up f ta (.inl (G.2.1 3, 24, .inr (.inr (.inr (.inr (va_up gT (T.length : Int).toNat (some t))))))) := ⟨_, rfl⟩
          rw [← e_f2] at hw
          have k_f2_x : f2 x = some (.inr (5, [.ref ta, .ref sa, .ref yr, .ref dc, .ref bu, .ref dr])) := by rw [e_f2]; exact dw_keep hS.1 (dw_ne hS.1 hS.2.1 (by simp))
          have k_f2_sa : f2 sa = some (.inl (G.2.1 3, 16, .inr (.inr (.inr (.inr gS))))) := by rw [e_f2]; exact dw_keep hS.2.2.1 (Ne.symm hS.2.2.2.2.1.2.2.1)
          have k_f2_ta : f2 ta = some (.inl (G.2.1 3, 24, .inr (.inr (.inr (.inr (va_up gT (T.length : Int).toNat (some t))))))) := by rw [e_f2]; exact dw_up_self _ _ _
          refine lv_iload_n hx hb d_DK_keepText_27 rfl (lv_at hl 0 rfl) ?_
          have hnew := hS.keep hG (f' := f2) (us := us) (by omega) ht k_f2_ta (fun a h9 => by rw [e_f2, dw_up_ne _ _ h9])
          exact ct_iret hx hb hr  hlk hw (⟨rfl, by omega, hnew⟩) (by omega) (by omega) d_DK_keepText_28
  exact loop (((24 : Int) - 0).toNat + 1) (0) _ _ _ (by omega) (by omega) (by omega) hw (lv_sub hl [0, 1, 2] rfl)
set_option maxRecDepth 100000 in
set_option maxHeartbeats 4000000 in
theorem c_DK_makeDraftTheBuilder (l : Launch) (G : ct_G) (f : dw_M) (sz : Nat) (x ta sa yr dc bu dr qy qb qd : Nat) (gT gS : Nat → Option Nat) (c0 w0 : Int32) (T Y : List (List Int)) (B Z D : List Int) (sB sZ sD : Int) (hS : dkS G f x ta sa yr dc bu dr qy qb qd gT gS c0 w0 T Y B Z D sB sZ sD) (rD : ∀ u ∈ D, 0 ≤ u ∧ u < 65536) : cn l y_DK_makeDraftTheBuilder w_DK_makeDraftTheBuilder (0) (0) G f sz [.ref x] (fun v f' => v = none ∧ dkS G f' x ta sa yr dc dr bu qy qd qb gT gS c0 w0 T Y D Z B sD sZ sB) (0) (0) := by
  refine cn_of (own := "TextDesk") (nm := "makeDraftTheBuilder") (ds := "()V") (by decide) (Nat.le_of_ble_eq_true rfl) ?_
  intro p e s m args below meth c ls X hnm hr hlk hs0 hz hw hl
  have hx := X.1
  have hb := X.2.1
  have hl : lv_has ls 2 [(0, .ref x)] := hl
  refine lv_aload_n hx hb d_DK_makeDraftTheBuilder_0 rfl (lv_at hl 0 rfl) ?_
  refine gf_DK_34_DK X hw hS.1 d_DK_makeDraftTheBuilder_1 ?_
  refine lv_astore_n (lv' := [(1, .ref bu), (0, .ref x)]) hx hb d_DK_makeDraftTheBuilder_4 rfl hl (by decide) rfl (fun ls hl => ?_)
  refine lv_aload_n hx hb d_DK_makeDraftTheBuilder_5 rfl (lv_at hl 1 rfl) ?_
  refine lv_aload_n hx hb d_DK_makeDraftTheBuilder_6 rfl (lv_at hl 1 rfl) ?_
  refine gf_DK_37_DK X hw hS.1 d_DK_makeDraftTheBuilder_7 ?_
  refine pf_DK_34_DK X hw hS.1 (rfl) (rfl) d_DK_makeDraftTheBuilder_10 (fun H locs hw => ?_)
  obtain ⟨f2, e_f2⟩ : ∃ g9 : dw_M, g9 = dw_up f x (.inr (5, [.ref ta, .ref sa, .ref yr, .ref dc, .ref dr, .ref dr])) := ⟨_, rfl⟩
  rw [← e_f2] at hw
  have k_f2_x : f2 x = some (.inr (5, [.ref ta, .ref sa, .ref yr, .ref dc, .ref dr, .ref dr])) := by rw [e_f2]; exact dw_up_self _ _ _
  refine lv_aload_n hx hb d_DK_makeDraftTheBuilder_13 rfl (lv_at hl 1 rfl) ?_
  refine lv_aload_n hx hb d_DK_makeDraftTheBuilder_14 rfl (lv_at hl 0 rfl) ?_
  refine pf_DK_37_DK X hw k_f2_x (rfl) (rfl) d_DK_makeDraftTheBuilder_15 (fun H locs hw => ?_)
  obtain ⟨f3, e_f3⟩ : ∃ g9 : dw_M, g9 = dw_up f2 x (.inr (5, [.ref ta, .ref sa, .ref yr, .ref dc, .ref dr, .ref bu])) := ⟨_, rfl⟩
  rw [← e_f3] at hw
  have k_f3_x : f3 x = some (.inr (5, [.ref ta, .ref sa, .ref yr, .ref dc, .ref dr, .ref bu])) := by rw [e_f3]; exact dw_up_self _ _ _
  exact cn_vret hx hb hr hlk hw  (⟨rfl, hS.swap k_f3_x (fun a h8 => by rw [e_f3, dw_up_ne _ _ h8, e_f2, dw_up_ne _ _ h8]) rD⟩) (Nat.le_refl _) (Nat.le_refl _) d_DK_makeDraftTheBuilder_18
set_option maxRecDepth 100000 in
set_option maxHeartbeats 4000000 in
theorem c_DK_refuseSpilledDraft (l : Launch) (hlT : l.stackTraces = false) (G : ct_G) (f : dw_M) (sz : Nat) (x ta sa yr dc bu dr qy qb qd : Nat) (gT gS : Nat → Option Nat) (c0 w0 : Int32) (T Y : List (List Int)) (B Z D : List Int) (sB sZ sD : Int) (hS : dkS G f x ta sa yr dc bu dr qy qb qd gT gS c0 w0 T Y B Z D sB sZ sD) (hsD : sD = 0 ∨ sD = 1) : ct l y_DK_refuseSpilledDraft w_DK_refuseSpilledDraft (8) (120) G f sz [.ref x] (fun v f' => v = none ∧ sD = 0 ∧ f' = f) (fun E f' => E = "java/lang/IllegalStateException" ∧ sD = 1 ∧ f' = f) (1) (6) := by
  refine ct_of (own := "TextDesk") (nm := "refuseSpilledDraft") (ds := "()V") (by decide) (Nat.le_of_ble_eq_true rfl) ?_
  intro p e s m args below meth c ls X hnm hr hlk hnx hs0 hz hw hl
  have hx := X.1
  have hb := X.2.1
  have hl : lv_has ls 1 [(0, .ref x)] := hl
  have hd := hS.2.2.2.2.2.2.2.1.2.2
  refine lv_aload_n hx hb d_DK_refuseSpilledDraft_0 rfl (lv_at hl 0 rfl) ?_
  refine gf_DK_37_DK X hw hS.1 d_DK_refuseSpilledDraft_1 ?_
  refine cs_DK_173 X hz hw hl.1 hd.choose_spec.1 (c_RW_hasSpilled l G f _ dr qd 60 D sD hsD hd) ⟨Nat.le_of_ble_eq_true rfl, Nat.le_of_ble_eq_true rfl⟩ ⟨by show 0 + 0 ≤ 1; omega, by show 0 + 0 ≤ 6; omega⟩ (Nat.le_of_ble_eq_true rfl) d_DK_refuseSpilledDraft_4 (fun v f9 H locs hp hw hsz9 hkp9 hdm9 => ?_)
  obtain ⟨rfl, hfe⟩ := hp
  rw [hfe] at hw
  refine W.eq (g2 := F0 m 7 ls [.int (iI sD)]) rfl ?_
  refine di_if_eq (tgt := 20) hx hb d_DK_refuseSpilledDraft_7 (by decide) ⟨by omega, by omega⟩ (fun bq7 => ?_) (fun bq7 => ?_)
  · exact ct_vret hx hb hr  hlk hw (⟨rfl, by omega, rfl⟩) (by omega) (by omega) d_DK_refuseSpilledDraft_20
  · exact th_ISE X hlT hz (is := 176) (text := "there would be too many units") (by decide +kernel) hw hl.1 hnx hlk (⟨rfl, by omega, rfl⟩) ⟨by show 8 ≤ 8; omega, by show 120 ≤ 120; omega⟩ ⟨by show 0 + 1 ≤ 1; omega, by show 0 + 6 ≤ 6; omega⟩ ⟨by show 0 + 1 ≤ 1; omega, by show 0 + 6 ≤ 6; omega⟩ (Nat.le_of_ble_eq_true rfl) d_DK_refuseSpilledDraft_10 d_DK_refuseSpilledDraft_13 d_DK_refuseSpilledDraft_14 d_DK_refuseSpilledDraft_16 d_DK_refuseSpilledDraft_19
