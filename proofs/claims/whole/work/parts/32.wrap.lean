set_option maxRecDepth 100000 in
set_option maxHeartbeats 4000000 in
theorem c_LW_unit (l : Launch) (hlT : l.stackTraces = false) (G : ct_G) (fx : dw_M) (sz : Nat) (x o : Nat) (g : Nat → Int64) (T Y : List (List Int)) (B Z : List Int) (hI : dkI G fx x T Y B Z) (ho : fx o = none) (u : Int) (hu : iR u) : ct l y_LW_unit w_LW_unit (9) (141) G (dw_up fx o (lcl G g)) sz [.ref x, .int (iI u), .ref o] (lwQ G x o (sp_unit T Y B Z u)) ct_no (1) (6) := by
  refine ct_ofH (own := "TextDeskLaw") (nm := "unit") (ds := "(LTextDesk;I[J)I") (by decide) (Nat.le_of_ble_eq_true rfl) ?_
  intro p e s m args below meth c ls X hnm hr hlk htab hs0 hz hw hl
  have hx := X.1
  have hb := X.2.1
  have hl : lv_has ls 4 [(0, .ref x), (1, .int (iI u)), (2, .ref o)] := hl
  obtain ⟨ta, sa, yr, dc, bu, dr, qy, qb, qd, gT, gS, c0, w0, D, sB, sZ, sD, hd⟩ := id hI
  have he := hd.1
  refine lv_aload_n hx hb d_LW_unit_0 rfl (lv_at hl 2 rfl) ?_
  refine lv_iconst (v := iI (0)) hx hb d_LW_unit_1 rfl ?_
  refine lv_aload_n hx hb d_LW_unit_2 rfl (lv_at hl 0 rfl) ?_
  refine lv_iload_n hx hb d_LW_unit_3 rfl (lv_at hl 1 rfl) ?_
  refine cs_LW_7 X hz (hw.fst ho) hl.1 he (c2_DK_unit l hlT G fx _ x T Y B Z hI u hu) ⟨Nat.le_of_ble_eq_true rfl, Nat.le_of_ble_eq_true rfl⟩ ⟨by show 0 + 1 ≤ 1; omega, by show 0 + 6 ≤ 6; omega⟩ (Nat.le_of_ble_eq_true rfl) d_LW_unit_4 (fun E ce q9 f1 H1 locs1 hp hw1 hsz9 hkp9 hdm9 hce hcv hcl => ?_) (fun v f1 H1 locs1 hp hw1 hsz9 hkp9 hdm9 => ?_)
  · obtain ⟨hw2, dj⟩ := hw1.side hw.snd (dj_one ho) hkp9 hdm9
    have hw3 := hw1.both hw2
    have ho1 := dj_one' dj
    obtain ⟨⟨rfl, h9⟩ | ⟨rfl, h9⟩, hd1⟩ := hp
    · refine vx_catch (own := "TextDeskLaw") (name := "java/lang/IllegalArgumentException") X.own [] ⟨0, 9, 12, 13⟩ [⟨0, 9, 15, 15⟩] (htab.trans rfl) (fun z hz9 => nomatch hz9) (by decide) (by decide) (X.hts _ mw_127) (va_Nw.use rfl (X.E.2.2.2.2.2.1 ("java/lang/IllegalArgumentException", "java/lang/IllegalArgumentException") (by decide +kernel))) hce hcv hcl ?_
      refine W.eq (g2 := F0 m 12 ls [.ref q9]) rfl ?_
      refine lv_astore_n (lv' := [(3, .ref q9), (0, .ref x), (1, .int (iI u)), (2, .ref o)]) hx hb d_LW_unit_12 rfl hl (by decide) rfl (fun ls hl => ?_)
      refine lv_iconst (v := iI (1)) hx hb d_LW_unit_13 rfl ?_
      exact ct_iret hx hb hr hlk hw3 ⟨by rw [h9], ⟨by omega, by omega⟩, f1, g, rfl, ho1, hd1, fun z => absurd (h9.symm.trans z) (by decide)⟩ (by omega) (by omega) d_LW_unit_14
    · refine vx_catch (own := "TextDeskLaw") (name := "java/lang/IllegalStateException") X.own [⟨0, 9, 12, 13⟩] ⟨0, 9, 15, 15⟩ [] (htab.trans rfl) (fun z hz9 => by
          rcases List.mem_cons.mp hz9 with rfl | hz9
          · exact Or.inr ⟨by decide, "java/lang/IllegalArgumentException", X.hts _ mw_127, X.E.2.2.2.2.2.2.2 ("java/lang/IllegalStateException", "java/lang/IllegalArgumentException") (by decide +kernel)⟩
          cases hz9) (by decide) (by decide) (X.hts _ mw_128) (va_Nw.use rfl (X.E.2.2.2.2.2.1 ("java/lang/IllegalStateException", "java/lang/IllegalStateException") (by decide +kernel))) hce hcv hcl ?_
      refine W.eq (g2 := F0 m 15 ls [.ref q9]) rfl ?_
      refine lv_astore_n (lv' := [(3, .ref q9), (0, .ref x), (1, .int (iI u)), (2, .ref o)]) hx hb d_LW_unit_15 rfl hl (by decide) rfl (fun ls hl => ?_)
      refine lv_iconst (v := iI (2)) hx hb d_LW_unit_16 rfl ?_
      exact ct_iret hx hb hr hlk hw3 ⟨by rw [h9], ⟨by omega, by omega⟩, f1, g, rfl, ho1, hd1, fun z => absurd (h9.symm.trans z) (by decide)⟩ (by omega) (by omega) d_LW_unit_17
  · obtain ⟨hw2, dj⟩ := hw1.side hw.snd (dj_one ho) hkp9 hdm9
    have hw3 := hw1.both hw2
    have ho1 := dj_one' dj
    obtain ⟨rfl, h9, hd1⟩ := hp
    refine W.eq (g2 := F0 m 7 ls [.int (iI ((sp_unit T Y B Z u).2.1)), .int (iI 0), .ref o]) rfl ?_
    refine lv_i2l hx hb d_LW_unit_7 rfl ?_
    refine dw_last hx hb X.K hw3 4 (dw_up_self _ _ _) rfl (i := 0) (by decide) (by decide) (by decide) d_LW_unit_8 (fun H locs hw4 => ?_)
    rw [dw_up_up] at hw4
    refine lv_goto (tgt := 18) hx hb d_LW_unit_9 (by decide) ?_
    refine lv_iconst (v := iI (0)) hx hb d_LW_unit_18 rfl ?_
    exact ct_iret hx hb hr hlk hw4 ⟨by rw [h9], ⟨by omega, by omega⟩, f1, _, rfl, ho1, hd1, fun _ => rfl⟩ (by omega) (by omega) d_LW_unit_19
set_option maxRecDepth 100000 in
set_option maxHeartbeats 4000000 in
theorem c_LW_insert (l : Launch) (hlT : l.stackTraces = false) (G : ct_G) (fx : dw_M) (sz : Nat) (x o : Nat) (g : Nat → Int64) (T Y : List (List Int)) (B Z : List Int) (hI : dkI G fx x T Y B Z) (ho : fx o = none) (p0 : Int) (k : Int) (hp0 : iR p0) (hk : iR k) : ct l y_LW_insert w_LW_insert (44) (1013) G (dw_up fx o (lcl G g)) sz [.ref x, .int (iI p0), .int (iI k), .ref o] (lwQ G x o (sp_insert T Y B Z p0 k)) ct_no (7) (160) := by
  refine ct_ofH (own := "TextDeskLaw") (nm := "insert") (ds := "(LTextDesk;II[J)I") (by decide) (Nat.le_of_ble_eq_true rfl) ?_
  intro p e s m args below meth c ls X hnm hr hlk htab hs0 hz hw hl
  have hx := X.1
  have hb := X.2.1
  have hl : lv_has ls 5 [(0, .ref x), (1, .int (iI p0)), (2, .int (iI k)), (3, .ref o)] := hl
  obtain ⟨ta, sa, yr, dc, bu, dr, qy, qb, qd, gT, gS, c0, w0, D, sB, sZ, sD, hd⟩ := id hI
  have he := hd.1
  refine lv_aload_n hx hb d_LW_insert_0 rfl (lv_at hl 3 rfl) ?_
  refine lv_iconst (v := iI (0)) hx hb d_LW_insert_1 rfl ?_
  refine lv_aload_n hx hb d_LW_insert_2 rfl (lv_at hl 0 rfl) ?_
  refine lv_iload_n hx hb d_LW_insert_3 rfl (lv_at hl 1 rfl) ?_
  refine lv_iload_n hx hb d_LW_insert_4 rfl (lv_at hl 2 rfl) ?_
  refine cs_LW_17 X hz (hw.fst ho) hl.1 he (c2_DK_insert l hlT G fx _ x T Y B Z hI p0 k hp0 hk) ⟨Nat.le_of_ble_eq_true rfl, Nat.le_of_ble_eq_true rfl⟩ ⟨by show 0 + 7 ≤ 7; omega, by show 0 + 160 ≤ 160; omega⟩ (Nat.le_of_ble_eq_true rfl) d_LW_insert_5 (fun E ce q9 f1 H1 locs1 hp hw1 hsz9 hkp9 hdm9 hce hcv hcl => ?_) (fun v f1 H1 locs1 hp hw1 hsz9 hkp9 hdm9 => ?_)
  · obtain ⟨hw2, dj⟩ := hw1.side hw.snd (dj_one ho) hkp9 hdm9
    have hw3 := hw1.both hw2
    have ho1 := dj_one' dj
    obtain ⟨⟨rfl, h9⟩ | ⟨rfl, h9⟩, hd1⟩ := hp
    · refine vx_catch (own := "TextDeskLaw") (name := "java/lang/IllegalArgumentException") X.own [] ⟨0, 10, 13, 13⟩ [⟨0, 10, 17, 15⟩] (htab.trans rfl) (fun z hz9 => nomatch hz9) (by decide) (by decide) (X.hts _ mw_127) (va_Nw.use rfl (X.E.2.2.2.2.2.1 ("java/lang/IllegalArgumentException", "java/lang/IllegalArgumentException") (by decide +kernel))) hce hcv hcl ?_
      refine W.eq (g2 := F0 m 13 ls [.ref q9]) rfl ?_
      refine lv_astore (lv' := [(4, .ref q9), (0, .ref x), (1, .int (iI p0)), (2, .int (iI k)), (3, .ref o)]) hx hb d_LW_insert_13 hl (by decide) rfl (fun ls hl => ?_)
      refine lv_iconst (v := iI (1)) hx hb d_LW_insert_15 rfl ?_
      exact ct_iret hx hb hr hlk hw3 ⟨by rw [h9], ⟨by omega, by omega⟩, f1, g, rfl, ho1, hd1, fun z => absurd (h9.symm.trans z) (by decide)⟩ (by omega) (by omega) d_LW_insert_16
    · refine vx_catch (own := "TextDeskLaw") (name := "java/lang/IllegalStateException") X.own [⟨0, 10, 13, 13⟩] ⟨0, 10, 17, 15⟩ [] (htab.trans rfl) (fun z hz9 => by
          rcases List.mem_cons.mp hz9 with rfl | hz9
          · exact Or.inr ⟨by decide, "java/lang/IllegalArgumentException", X.hts _ mw_127, X.E.2.2.2.2.2.2.2 ("java/lang/IllegalStateException", "java/lang/IllegalArgumentException") (by decide +kernel)⟩
          cases hz9) (by decide) (by decide) (X.hts _ mw_128) (va_Nw.use rfl (X.E.2.2.2.2.2.1 ("java/lang/IllegalStateException", "java/lang/IllegalStateException") (by decide +kernel))) hce hcv hcl ?_
      refine W.eq (g2 := F0 m 17 ls [.ref q9]) rfl ?_
      refine lv_astore (lv' := [(4, .ref q9), (0, .ref x), (1, .int (iI p0)), (2, .int (iI k)), (3, .ref o)]) hx hb d_LW_insert_17 hl (by decide) rfl (fun ls hl => ?_)
      refine lv_iconst (v := iI (2)) hx hb d_LW_insert_19 rfl ?_
      exact ct_iret hx hb hr hlk hw3 ⟨by rw [h9], ⟨by omega, by omega⟩, f1, g, rfl, ho1, hd1, fun z => absurd (h9.symm.trans z) (by decide)⟩ (by omega) (by omega) d_LW_insert_20
  · obtain ⟨hw2, dj⟩ := hw1.side hw.snd (dj_one ho) hkp9 hdm9
    have hw3 := hw1.both hw2
    have ho1 := dj_one' dj
    obtain ⟨rfl, h9, hd1⟩ := hp
    refine W.eq (g2 := F0 m 8 ls [.int (iI ((sp_insert T Y B Z p0 k).2.1)), .int (iI 0), .ref o]) rfl ?_
    refine lv_i2l hx hb d_LW_insert_8 rfl ?_
    refine dw_last hx hb X.K hw3 4 (dw_up_self _ _ _) rfl (i := 0) (by decide) (by decide) (by decide) d_LW_insert_9 (fun H locs hw4 => ?_)
    rw [dw_up_up] at hw4
    refine lv_goto (tgt := 21) hx hb d_LW_insert_10 (by decide) ?_
    refine lv_iconst (v := iI (0)) hx hb d_LW_insert_21 rfl ?_
    exact ct_iret hx hb hr hlk hw4 ⟨by rw [h9], ⟨by omega, by omega⟩, f1, _, rfl, ho1, hd1, fun _ => rfl⟩ (by omega) (by omega) d_LW_insert_22
set_option maxRecDepth 100000 in
set_option maxHeartbeats 4000000 in
theorem c_LW_delete (l : Launch) (hlT : l.stackTraces = false) (G : ct_G) (fx : dw_M) (sz : Nat) (x : Nat) (T Y : List (List Int)) (B Z : List Int) (hI : dkI G fx x T Y B Z) (fr : Int) (to : Int) (hfr : iR fr) (hto : iR to) : ct l y_LW_delete w_LW_delete (44) (1012) G fx sz [.ref x, .int (iI fr), .int (iI to)] (fun v f' => v = some (.int (iI (sp_delete T Y B Z fr to).1)) ∧ (0 ≤ (sp_delete T Y B Z fr to).1 ∧ (sp_delete T Y B Z fr to).1 ≤ 3) ∧ dkP G f' x (sp_delete T Y B Z fr to)) ct_no (1) (6) := by
  refine ct_ofH (own := "TextDeskLaw") (nm := "delete") (ds := "(LTextDesk;II)I") (by decide) (Nat.le_of_ble_eq_true rfl) ?_
  intro p e s m args below meth c ls X hnm hr hlk htab hs0 hz hw hl
  have hx := X.1
  have hb := X.2.1
  have hl : lv_has ls 4 [(0, .ref x), (1, .int (iI fr)), (2, .int (iI to))] := hl
  obtain ⟨ta, sa, yr, dc, bu, dr, qy, qb, qd, gT, gS, c0, w0, D, sB, sZ, sD, hd⟩ := id hI
  have he := hd.1
  refine lv_aload_n hx hb d_LW_delete_0 rfl (lv_at hl 0 rfl) ?_
  refine lv_iload_n hx hb d_LW_delete_1 rfl (lv_at hl 1 rfl) ?_
  refine lv_iload_n hx hb d_LW_delete_2 rfl (lv_at hl 2 rfl) ?_
  refine cs_LW_21 X hz hw hl.1 he (c2_DK_delete l hlT G fx _ x T Y B Z hI fr to hfr hto) ⟨Nat.le_of_ble_eq_true rfl, Nat.le_of_ble_eq_true rfl⟩ ⟨by show 0 + 1 ≤ 1; omega, by show 0 + 6 ≤ 6; omega⟩ (Nat.le_of_ble_eq_true rfl) d_LW_delete_3 (fun E ce q9 f1 H1 locs1 hp hw1 hsz9 hkp9 hdm9 hce hcv hcl => ?_) (fun v f1 H1 locs1 hp hw1 hsz9 hkp9 hdm9 => ?_)
  · have hw3 := hw1
    obtain ⟨⟨rfl, h9⟩, hd1⟩ := hp
    refine vx_catch (own := "TextDeskLaw") (name := "java/lang/IndexOutOfBoundsException") X.own [] ⟨0, 6, 9, 25⟩ [] (htab.trans rfl) (fun z hz9 => nomatch hz9) (by decide) (by decide) (X.hts _ mw_341) (va_Nw.use rfl (X.E.2.2.2.2.2.1 ("java/lang/IndexOutOfBoundsException", "java/lang/IndexOutOfBoundsException") (by decide +kernel))) hce hcv hcl ?_
    refine W.eq (g2 := F0 m 9 ls [.ref q9]) rfl ?_
    refine lv_astore_n (lv' := [(3, .ref q9), (0, .ref x), (1, .int (iI fr)), (2, .int (iI to))]) hx hb d_LW_delete_9 rfl hl (by decide) rfl (fun ls hl => ?_)
    refine lv_iconst (v := iI (1)) hx hb d_LW_delete_10 rfl ?_
    exact ct_iret hx hb hr hlk hw3 ⟨by rw [h9], ⟨by omega, by omega⟩, hd1⟩ (by omega) (by omega) d_LW_delete_11
  · have hw3 := hw1
    obtain ⟨rfl, h9, hd1⟩ := hp
    refine W.eq (g2 := F0 m 6 ls []) rfl ?_
    refine lv_goto (tgt := 12) hx hb d_LW_delete_6 (by decide) ?_
    refine lv_iconst (v := iI (0)) hx hb d_LW_delete_12 rfl ?_
    exact ct_iret hx hb hr hlk hw3 ⟨by rw [h9], ⟨by omega, by omega⟩, hd1⟩ (by omega) (by omega) d_LW_delete_13
set_option maxRecDepth 100000 in
set_option maxHeartbeats 4000000 in
theorem c_LW_built (l : Launch) (hlT : l.stackTraces = false) (G : ct_G) (fx : dw_M) (sz : Nat) (x o : Nat) (g : Nat → Int64) (T Y : List (List Int)) (B Z : List Int) (hI : dkI G fx x T Y B Z) (ho : fx o = none) (k : Int) (hk : iR k) : ct l y_LW_built w_LW_built (44) (1006) G (dw_up fx o (lcl G g)) sz [.ref x, .int (iI k), .ref o] (lwQ G x o (sp_built T Y B Z k)) ct_no (1) (6) := by
  refine ct_ofH (own := "TextDeskLaw") (nm := "built") (ds := "(LTextDesk;I[J)I") (by decide) (Nat.le_of_ble_eq_true rfl) ?_
  intro p e s m args below meth c ls X hnm hr hlk htab hs0 hz hw hl
  have hx := X.1
  have hb := X.2.1
  have hl : lv_has ls 4 [(0, .ref x), (1, .int (iI k)), (2, .ref o)] := hl
  obtain ⟨ta, sa, yr, dc, bu, dr, qy, qb, qd, gT, gS, c0, w0, D, sB, sZ, sD, hd⟩ := id hI
  have he := hd.1
  refine lv_aload_n hx hb d_LW_built_0 rfl (lv_at hl 2 rfl) ?_
  refine lv_iconst (v := iI (0)) hx hb d_LW_built_1 rfl ?_
  refine lv_aload_n hx hb d_LW_built_2 rfl (lv_at hl 0 rfl) ?_
  refine lv_iload_n hx hb d_LW_built_3 rfl (lv_at hl 1 rfl) ?_
  refine cs_LW_27 X hz (hw.fst ho) hl.1 he (c2_DK_built l hlT G fx _ x T Y B Z hI k hk) ⟨Nat.le_of_ble_eq_true rfl, Nat.le_of_ble_eq_true rfl⟩ ⟨by show 0 + 1 ≤ 1; omega, by show 0 + 6 ≤ 6; omega⟩ (Nat.le_of_ble_eq_true rfl) d_LW_built_4 (fun E ce q9 f1 H1 locs1 hp hw1 hsz9 hkp9 hdm9 hce hcv hcl => ?_) (fun v f1 H1 locs1 hp hw1 hsz9 hkp9 hdm9 => ?_)
  · obtain ⟨hw2, dj⟩ := hw1.side hw.snd (dj_one ho) hkp9 hdm9
    have hw3 := hw1.both hw2
    have ho1 := dj_one' dj
    obtain ⟨⟨rfl, h9⟩, hd1⟩ := hp
    refine vx_catch (own := "TextDeskLaw") (name := "java/lang/IndexOutOfBoundsException") X.own [] ⟨0, 9, 12, 25⟩ [] (htab.trans rfl) (fun z hz9 => nomatch hz9) (by decide) (by decide) (X.hts _ mw_341) (va_Nw.use rfl (X.E.2.2.2.2.2.1 ("java/lang/IndexOutOfBoundsException", "java/lang/IndexOutOfBoundsException") (by decide +kernel))) hce hcv hcl ?_
    refine W.eq (g2 := F0 m 12 ls [.ref q9]) rfl ?_
    refine lv_astore_n (lv' := [(3, .ref q9), (0, .ref x), (1, .int (iI k)), (2, .ref o)]) hx hb d_LW_built_12 rfl hl (by decide) rfl (fun ls hl => ?_)
    refine lv_iconst (v := iI (1)) hx hb d_LW_built_13 rfl ?_
    exact ct_iret hx hb hr hlk hw3 ⟨by rw [h9], ⟨by omega, by omega⟩, f1, g, rfl, ho1, hd1, fun z => absurd (h9.symm.trans z) (by decide)⟩ (by omega) (by omega) d_LW_built_14
  · obtain ⟨hw2, dj⟩ := hw1.side hw.snd (dj_one ho) hkp9 hdm9
    have hw3 := hw1.both hw2
    have ho1 := dj_one' dj
    obtain ⟨rfl, h9, hd1⟩ := hp
    refine W.eq (g2 := F0 m 7 ls [.int (iI ((sp_built T Y B Z k).2.1)), .int (iI 0), .ref o]) rfl ?_
    refine lv_i2l hx hb d_LW_built_7 rfl ?_
    refine dw_last hx hb X.K hw3 4 (dw_up_self _ _ _) rfl (i := 0) (by decide) (by decide) (by decide) d_LW_built_8 (fun H locs hw4 => ?_)
    rw [dw_up_up] at hw4
    refine lv_goto (tgt := 15) hx hb d_LW_built_9 (by decide) ?_
    refine lv_iconst (v := iI (0)) hx hb d_LW_built_15 rfl ?_
    exact ct_iret hx hb hr hlk hw4 ⟨by rw [h9], ⟨by omega, by omega⟩, f1, _, rfl, ho1, hd1, fun _ => rfl⟩ (by omega) (by omega) d_LW_built_16
set_option maxRecDepth 100000 in
set_option maxHeartbeats 4000000 in
theorem c_LW_take (l : Launch) (hlT : l.stackTraces = false) (G : ct_G) (fx : dw_M) (sz : Nat) (x o : Nat) (g : Nat → Int64) (T Y : List (List Int)) (B Z : List Int) (hI : dkI G fx x T Y B Z) (ho : fx o = none) : ct l y_LW_take w_LW_take (10) (166) G (dw_up fx o (lcl G g)) sz [.ref x, .ref o] (lwQ G x o (sp_take T Y B Z)) ct_no (3) (69) := by
  refine ct_ofH (own := "TextDeskLaw") (nm := "take") (ds := "(LTextDesk;[J)I") (by decide) (Nat.le_of_ble_eq_true rfl) ?_
  intro p e s m args below meth c ls X hnm hr hlk htab hs0 hz hw hl
  have hx := X.1
  have hb := X.2.1
  have hl : lv_has ls 3 [(0, .ref x), (1, .ref o)] := hl
  obtain ⟨ta, sa, yr, dc, bu, dr, qy, qb, qd, gT, gS, c0, w0, D, sB, sZ, sD, hd⟩ := id hI
  have he := hd.1
  refine lv_aload_n hx hb d_LW_take_0 rfl (lv_at hl 1 rfl) ?_
  refine lv_iconst (v := iI (0)) hx hb d_LW_take_1 rfl ?_
  refine lv_aload_n hx hb d_LW_take_2 rfl (lv_at hl 0 rfl) ?_
  refine cs_LW_30 X hz (hw.fst ho) hl.1 he (c2_DK_take l hlT G fx _ x T Y B Z hI) ⟨Nat.le_of_ble_eq_true rfl, Nat.le_of_ble_eq_true rfl⟩ ⟨by show 0 + 3 ≤ 3; omega, by show 0 + 69 ≤ 69; omega⟩ (Nat.le_of_ble_eq_true rfl) d_LW_take_3 (fun E ce q9 f1 H1 locs1 hp hw1 hsz9 hkp9 hdm9 hce hcv hcl => ?_) (fun v f1 H1 locs1 hp hw1 hsz9 hkp9 hdm9 => ?_)
  · obtain ⟨hw2, dj⟩ := hw1.side hw.snd (dj_one ho) hkp9 hdm9
    have hw3 := hw1.both hw2
    have ho1 := dj_one' dj
    obtain ⟨⟨rfl, h9⟩, hd1⟩ := hp
    refine vx_catch (own := "TextDeskLaw") (name := "java/lang/IllegalStateException") X.own [] ⟨0, 8, 11, 15⟩ [] (htab.trans rfl) (fun z hz9 => nomatch hz9) (by decide) (by decide) (X.hts _ mw_128) (va_Nw.use rfl (X.E.2.2.2.2.2.1 ("java/lang/IllegalStateException", "java/lang/IllegalStateException") (by decide +kernel))) hce hcv hcl ?_
    refine W.eq (g2 := F0 m 11 ls [.ref q9]) rfl ?_
    refine lv_astore_n (lv' := [(2, .ref q9), (0, .ref x), (1, .ref o)]) hx hb d_LW_take_11 rfl hl (by decide) rfl (fun ls hl => ?_)
    refine lv_iconst (v := iI (1)) hx hb d_LW_take_12 rfl ?_
    exact ct_iret hx hb hr hlk hw3 ⟨by rw [h9], ⟨by omega, by omega⟩, f1, g, rfl, ho1, hd1, fun z => absurd (h9.symm.trans z) (by decide)⟩ (by omega) (by omega) d_LW_take_13
  · obtain ⟨hw2, dj⟩ := hw1.side hw.snd (dj_one ho) hkp9 hdm9
    have hw3 := hw1.both hw2
    have ho1 := dj_one' dj
    obtain ⟨rfl, h9, hd1⟩ := hp
    refine W.eq (g2 := F0 m 6 ls [.int (iI ((sp_take T Y B Z).2.1)), .int (iI 0), .ref o]) rfl ?_
    refine lv_i2l hx hb d_LW_take_6 rfl ?_
    refine dw_last hx hb X.K hw3 4 (dw_up_self _ _ _) rfl (i := 0) (by decide) (by decide) (by decide) d_LW_take_7 (fun H locs hw4 => ?_)
    rw [dw_up_up] at hw4
    refine lv_goto (tgt := 14) hx hb d_LW_take_8 (by decide) ?_
    refine lv_iconst (v := iI (0)) hx hb d_LW_take_14 rfl ?_
    exact ct_iret hx hb hr hlk hw4 ⟨by rw [h9], ⟨by omega, by omega⟩, f1, _, rfl, ho1, hd1, fun _ => rfl⟩ (by omega) (by omega) d_LW_take_15
set_option maxRecDepth 100000 in
set_option maxHeartbeats 4000000 in
theorem c_LW_join (l : Launch) (hlT : l.stackTraces = false) (G : ct_G) (fx : dw_M) (sz : Nat) (x o : Nat) (g : Nat → Int64) (T Y : List (List Int)) (B Z : List Int) (hI : dkI G fx x T Y B Z) (ho : fx o = none) (ka : Int) (kb : Int) (hka : iR ka) (hkb : iR kb) : ct l y_LW_join w_LW_join (10) (169) G (dw_up fx o (lcl G g)) sz [.ref x, .int (iI ka), .int (iI kb), .ref o] (lwQ G x o (sp_join T Y B Z ka kb)) ct_no (4) (23) := by
  refine ct_ofH (own := "TextDeskLaw") (nm := "join") (ds := "(LTextDesk;II[J)I") (by decide) (Nat.le_of_ble_eq_true rfl) ?_
  intro p e s m args below meth c ls X hnm hr hlk htab hs0 hz hw hl
  have hx := X.1
  have hb := X.2.1
  have hl : lv_has ls 5 [(0, .ref x), (1, .int (iI ka)), (2, .int (iI kb)), (3, .ref o)] := hl
  obtain ⟨ta, sa, yr, dc, bu, dr, qy, qb, qd, gT, gS, c0, w0, D, sB, sZ, sD, hd⟩ := id hI
  have he := hd.1
  refine lv_aload_n hx hb d_LW_join_0 rfl (lv_at hl 3 rfl) ?_
  refine lv_iconst (v := iI (0)) hx hb d_LW_join_1 rfl ?_
  refine lv_aload_n hx hb d_LW_join_2 rfl (lv_at hl 0 rfl) ?_
  refine lv_iload_n hx hb d_LW_join_3 rfl (lv_at hl 1 rfl) ?_
  refine lv_iload_n hx hb d_LW_join_4 rfl (lv_at hl 2 rfl) ?_
  refine cs_LW_34 X hz (hw.fst ho) hl.1 he (c2_DK_join l hlT G fx _ x T Y B Z hI ka kb hka hkb) ⟨Nat.le_of_ble_eq_true rfl, Nat.le_of_ble_eq_true rfl⟩ ⟨by show 0 + 4 ≤ 4; omega, by show 0 + 23 ≤ 23; omega⟩ (Nat.le_of_ble_eq_true rfl) d_LW_join_5 (fun E ce q9 f1 H1 locs1 hp hw1 hsz9 hkp9 hdm9 hce hcv hcl => ?_) (fun v f1 H1 locs1 hp hw1 hsz9 hkp9 hdm9 => ?_)
  · obtain ⟨hw2, dj⟩ := hw1.side hw.snd (dj_one ho) hkp9 hdm9
    have hw3 := hw1.both hw2
    have ho1 := dj_one' dj
    obtain ⟨⟨rfl, h9⟩ | ⟨rfl, h9⟩, hd1⟩ := hp
    · refine vx_catch (own := "TextDeskLaw") (name := "java/lang/IllegalArgumentException") X.own [] ⟨0, 10, 13, 13⟩ [⟨0, 10, 17, 15⟩] (htab.trans rfl) (fun z hz9 => nomatch hz9) (by decide) (by decide) (X.hts _ mw_127) (va_Nw.use rfl (X.E.2.2.2.2.2.1 ("java/lang/IllegalArgumentException", "java/lang/IllegalArgumentException") (by decide +kernel))) hce hcv hcl ?_
      refine W.eq (g2 := F0 m 13 ls [.ref q9]) rfl ?_
      refine lv_astore (lv' := [(4, .ref q9), (0, .ref x), (1, .int (iI ka)), (2, .int (iI kb)), (3, .ref o)]) hx hb d_LW_join_13 hl (by decide) rfl (fun ls hl => ?_)
      refine lv_iconst (v := iI (1)) hx hb d_LW_join_15 rfl ?_
      exact ct_iret hx hb hr hlk hw3 ⟨by rw [h9], ⟨by omega, by omega⟩, f1, g, rfl, ho1, hd1, fun z => absurd (h9.symm.trans z) (by decide)⟩ (by omega) (by omega) d_LW_join_16
    · refine vx_catch (own := "TextDeskLaw") (name := "java/lang/IllegalStateException") X.own [⟨0, 10, 13, 13⟩] ⟨0, 10, 17, 15⟩ [] (htab.trans rfl) (fun z hz9 => by
          rcases List.mem_cons.mp hz9 with rfl | hz9
          · exact Or.inr ⟨by decide, "java/lang/IllegalArgumentException", X.hts _ mw_127, X.E.2.2.2.2.2.2.2 ("java/lang/IllegalStateException", "java/lang/IllegalArgumentException") (by decide +kernel)⟩
          cases hz9) (by decide) (by decide) (X.hts _ mw_128) (va_Nw.use rfl (X.E.2.2.2.2.2.1 ("java/lang/IllegalStateException", "java/lang/IllegalStateException") (by decide +kernel))) hce hcv hcl ?_
      refine W.eq (g2 := F0 m 17 ls [.ref q9]) rfl ?_
      refine lv_astore (lv' := [(4, .ref q9), (0, .ref x), (1, .int (iI ka)), (2, .int (iI kb)), (3, .ref o)]) hx hb d_LW_join_17 hl (by decide) rfl (fun ls hl => ?_)
      refine lv_iconst (v := iI (2)) hx hb d_LW_join_19 rfl ?_
      exact ct_iret hx hb hr hlk hw3 ⟨by rw [h9], ⟨by omega, by omega⟩, f1, g, rfl, ho1, hd1, fun z => absurd (h9.symm.trans z) (by decide)⟩ (by omega) (by omega) d_LW_join_20
  · obtain ⟨hw2, dj⟩ := hw1.side hw.snd (dj_one ho) hkp9 hdm9
    have hw3 := hw1.both hw2
    have ho1 := dj_one' dj
    obtain ⟨rfl, h9, hd1⟩ := hp
    refine W.eq (g2 := F0 m 8 ls [.int (iI ((sp_join T Y B Z ka kb).2.1)), .int (iI 0), .ref o]) rfl ?_
    refine lv_i2l hx hb d_LW_join_8 rfl ?_
    refine dw_last hx hb X.K hw3 4 (dw_up_self _ _ _) rfl (i := 0) (by decide) (by decide) (by decide) d_LW_join_9 (fun H locs hw4 => ?_)
    rw [dw_up_up] at hw4
    refine lv_goto (tgt := 21) hx hb d_LW_join_10 (by decide) ?_
    refine lv_iconst (v := iI (0)) hx hb d_LW_join_21 rfl ?_
    exact ct_iret hx hb hr hlk hw4 ⟨by rw [h9], ⟨by omega, by omega⟩, f1, _, rfl, ho1, hd1, fun _ => rfl⟩ (by omega) (by omega) d_LW_join_22
set_option maxRecDepth 100000 in
set_option maxHeartbeats 4000000 in
theorem c_LW_part (l : Launch) (hlT : l.stackTraces = false) (G : ct_G) (fx : dw_M) (sz : Nat) (x o : Nat) (g : Nat → Int64) (T Y : List (List Int)) (B Z : List Int) (hI : dkI G fx x T Y B Z) (ho : fx o = none) (k : Int) (fr : Int) (to : Int) (hk : iR k) (hfr : iR fr) (hto : iR to) : ct l y_LW_part w_LW_part (45) (1039) G (dw_up fx o (lcl G g)) sz [.ref x, .int (iI k), .int (iI fr), .int (iI to), .ref o] (lwQ G x o (sp_part T Y B Z k fr to)) ct_no (9) (221) := by
  refine ct_ofH (own := "TextDeskLaw") (nm := "part") (ds := "(LTextDesk;III[J)I") (by decide) (Nat.le_of_ble_eq_true rfl) ?_
  intro p e s m args below meth c ls X hnm hr hlk htab hs0 hz hw hl
  have hx := X.1
  have hb := X.2.1
  have hl : lv_has ls 6 [(0, .ref x), (1, .int (iI k)), (2, .int (iI fr)), (3, .int (iI to)), (4, .ref o)] := hl
  obtain ⟨ta, sa, yr, dc, bu, dr, qy, qb, qd, gT, gS, c0, w0, D, sB, sZ, sD, hd⟩ := id hI
  have he := hd.1
  refine lv_aload hx hb d_LW_part_0 (lv_at hl 4 rfl) ?_
  refine lv_iconst (v := iI (0)) hx hb d_LW_part_2 rfl ?_
  refine lv_aload_n hx hb d_LW_part_3 rfl (lv_at hl 0 rfl) ?_
  refine lv_iload_n hx hb d_LW_part_4 rfl (lv_at hl 1 rfl) ?_
  refine lv_iload_n hx hb d_LW_part_5 rfl (lv_at hl 2 rfl) ?_
  refine lv_iload_n hx hb d_LW_part_6 rfl (lv_at hl 3 rfl) ?_
  refine cs_LW_37 X hz (hw.fst ho) hl.1 he (c2_DK_part l hlT G fx _ x T Y B Z hI k fr to hk hfr hto) ⟨Nat.le_of_ble_eq_true rfl, Nat.le_of_ble_eq_true rfl⟩ ⟨by show 0 + 9 ≤ 9; omega, by show 0 + 221 ≤ 221; omega⟩ (Nat.le_of_ble_eq_true rfl) d_LW_part_7 (fun E ce q9 f1 H1 locs1 hp hw1 hsz9 hkp9 hdm9 hce hcv hcl => ?_) (fun v f1 H1 locs1 hp hw1 hsz9 hkp9 hdm9 => ?_)
  · obtain ⟨hw2, dj⟩ := hw1.side hw.snd (dj_one ho) hkp9 hdm9
    have hw3 := hw1.both hw2
    have ho1 := dj_one' dj
    obtain ⟨⟨rfl, h9⟩ | ⟨rfl, h9⟩ | ⟨rfl, h9⟩, hd1⟩ := hp
    · refine vx_catch (own := "TextDeskLaw") (name := "java/lang/IllegalArgumentException") X.own [] ⟨0, 12, 15, 13⟩ [⟨0, 12, 19, 25⟩, ⟨0, 12, 23, 15⟩] (htab.trans rfl) (fun z hz9 => nomatch hz9) (by decide) (by decide) (X.hts _ mw_127) (va_Nw.use rfl (X.E.2.2.2.2.2.1 ("java/lang/IllegalArgumentException", "java/lang/IllegalArgumentException") (by decide +kernel))) hce hcv hcl ?_
      refine W.eq (g2 := F0 m 15 ls [.ref q9]) rfl ?_
      refine lv_astore (lv' := [(5, .ref q9), (0, .ref x), (1, .int (iI k)), (2, .int (iI fr)), (3, .int (iI to)), (4, .ref o)]) hx hb d_LW_part_15 hl (by decide) rfl (fun ls hl => ?_)
      refine lv_iconst (v := iI (1)) hx hb d_LW_part_17 rfl ?_
      exact ct_iret hx hb hr hlk hw3 ⟨by rw [h9], ⟨by omega, by omega⟩, f1, g, rfl, ho1, hd1, fun z => absurd (h9.symm.trans z) (by decide)⟩ (by omega) (by omega) d_LW_part_18
    · refine vx_catch (own := "TextDeskLaw") (name := "java/lang/IndexOutOfBoundsException") X.own [⟨0, 12, 15, 13⟩] ⟨0, 12, 19, 25⟩ [⟨0, 12, 23, 15⟩] (htab.trans rfl) (fun z hz9 => by
          rcases List.mem_cons.mp hz9 with rfl | hz9
          · exact Or.inr ⟨by decide, "java/lang/IllegalArgumentException", X.hts _ mw_127, X.E.2.2.2.2.2.2.2 ("java/lang/IndexOutOfBoundsException", "java/lang/IllegalArgumentException") (by decide +kernel)⟩
          cases hz9) (by decide) (by decide) (X.hts _ mw_341) (va_Nw.use rfl (X.E.2.2.2.2.2.1 ("java/lang/IndexOutOfBoundsException", "java/lang/IndexOutOfBoundsException") (by decide +kernel))) hce hcv hcl ?_
      refine W.eq (g2 := F0 m 19 ls [.ref q9]) rfl ?_
      refine lv_astore (lv' := [(5, .ref q9), (0, .ref x), (1, .int (iI k)), (2, .int (iI fr)), (3, .int (iI to)), (4, .ref o)]) hx hb d_LW_part_19 hl (by decide) rfl (fun ls hl => ?_)
      refine lv_iconst (v := iI (2)) hx hb d_LW_part_21 rfl ?_
      exact ct_iret hx hb hr hlk hw3 ⟨by rw [h9], ⟨by omega, by omega⟩, f1, g, rfl, ho1, hd1, fun z => absurd (h9.symm.trans z) (by decide)⟩ (by omega) (by omega) d_LW_part_22
    · refine vx_catch (own := "TextDeskLaw") (name := "java/lang/IllegalStateException") X.own [⟨0, 12, 15, 13⟩, ⟨0, 12, 19, 25⟩] ⟨0, 12, 23, 15⟩ [] (htab.trans rfl) (fun z hz9 => by
          rcases List.mem_cons.mp hz9 with rfl | hz9
          · exact Or.inr ⟨by decide, "java/lang/IllegalArgumentException", X.hts _ mw_127, X.E.2.2.2.2.2.2.2 ("java/lang/IllegalStateException", "java/lang/IllegalArgumentException") (by decide +kernel)⟩
          rcases List.mem_cons.mp hz9 with rfl | hz9
          · exact Or.inr ⟨by decide, "java/lang/IndexOutOfBoundsException", X.hts _ mw_341, X.E.2.2.2.2.2.2.2 ("java/lang/IllegalStateException", "java/lang/IndexOutOfBoundsException") (by decide +kernel)⟩
          cases hz9) (by decide) (by decide) (X.hts _ mw_128) (va_Nw.use rfl (X.E.2.2.2.2.2.1 ("java/lang/IllegalStateException", "java/lang/IllegalStateException") (by decide +kernel))) hce hcv hcl ?_
      refine W.eq (g2 := F0 m 23 ls [.ref q9]) rfl ?_
      refine lv_astore (lv' := [(5, .ref q9), (0, .ref x), (1, .int (iI k)), (2, .int (iI fr)), (3, .int (iI to)), (4, .ref o)]) hx hb d_LW_part_23 hl (by decide) rfl (fun ls hl => ?_)
      refine lv_iconst (v := iI (3)) hx hb d_LW_part_25 rfl ?_
      exact ct_iret hx hb hr hlk hw3 ⟨by rw [h9], ⟨by omega, by omega⟩, f1, g, rfl, ho1, hd1, fun z => absurd (h9.symm.trans z) (by decide)⟩ (by omega) (by omega) d_LW_part_26
  · obtain ⟨hw2, dj⟩ := hw1.side hw.snd (dj_one ho) hkp9 hdm9
    have hw3 := hw1.both hw2
    have ho1 := dj_one' dj
    obtain ⟨rfl, h9, hd1⟩ := hp
    refine W.eq (g2 := F0 m 10 ls [.int (iI ((sp_part T Y B Z k fr to).2.1)), .int (iI 0), .ref o]) rfl ?_
    refine lv_i2l hx hb d_LW_part_10 rfl ?_
    refine dw_last hx hb X.K hw3 4 (dw_up_self _ _ _) rfl (i := 0) (by decide) (by decide) (by decide) d_LW_part_11 (fun H locs hw4 => ?_)
    rw [dw_up_up] at hw4
    refine lv_goto (tgt := 27) hx hb d_LW_part_12 (by decide) ?_
    refine lv_iconst (v := iI (0)) hx hb d_LW_part_27 rfl ?_
    exact ct_iret hx hb hr hlk hw4 ⟨by rw [h9], ⟨by omega, by omega⟩, f1, _, rfl, ho1, hd1, fun _ => rfl⟩ (by omega) (by omega) d_LW_part_28
set_option maxRecDepth 100000 in
set_option maxHeartbeats 4000000 in
theorem c_LW_replace (l : Launch) (hlT : l.stackTraces = false) (G : ct_G) (fx : dw_M) (sz : Nat) (x o : Nat) (g : Nat → Int64) (T Y : List (List Int)) (B Z : List Int) (hI : dkI G fx x T Y B Z) (ho : fx o = none) (ka : Int) (kb : Int) (kc : Int) (hka : iR ka) (hkb : iR kb) (hkc : iR kc) : ct l y_LW_replace w_LW_replace (45) (1043) G (dw_up fx o (lcl G g)) sz [.ref x, .int (iI ka), .int (iI kb), .int (iI kc), .ref o] (lwQ G x o (sp_replace T Y B Z ka kb kc)) ct_no (19) (513) := by
  refine ct_ofH (own := "TextDeskLaw") (nm := "replace") (ds := "(LTextDesk;III[J)I") (by decide) (Nat.le_of_ble_eq_true rfl) ?_
  intro p e s m args below meth c ls X hnm hr hlk htab hs0 hz hw hl
  have hx := X.1
  have hb := X.2.1
  have hl : lv_has ls 6 [(0, .ref x), (1, .int (iI ka)), (2, .int (iI kb)), (3, .int (iI kc)), (4, .ref o)] := hl
  obtain ⟨ta, sa, yr, dc, bu, dr, qy, qb, qd, gT, gS, c0, w0, D, sB, sZ, sD, hd⟩ := id hI
  have he := hd.1
  refine lv_aload hx hb d_LW_replace_0 (lv_at hl 4 rfl) ?_
  refine lv_iconst (v := iI (0)) hx hb d_LW_replace_2 rfl ?_
  refine lv_aload_n hx hb d_LW_replace_3 rfl (lv_at hl 0 rfl) ?_
  refine lv_iload_n hx hb d_LW_replace_4 rfl (lv_at hl 1 rfl) ?_
  refine lv_iload_n hx hb d_LW_replace_5 rfl (lv_at hl 2 rfl) ?_
  refine lv_iload_n hx hb d_LW_replace_6 rfl (lv_at hl 3 rfl) ?_
  refine cs_LW_41 X hz (hw.fst ho) hl.1 he (c2_DK_replace l hlT G fx _ x T Y B Z hI ka kb kc hka hkb hkc) ⟨Nat.le_of_ble_eq_true rfl, Nat.le_of_ble_eq_true rfl⟩ ⟨by show 0 + 19 ≤ 19; omega, by show 0 + 513 ≤ 513; omega⟩ (Nat.le_of_ble_eq_true rfl) d_LW_replace_7 (fun E ce q9 f1 H1 locs1 hp hw1 hsz9 hkp9 hdm9 hce hcv hcl => ?_) (fun v f1 H1 locs1 hp hw1 hsz9 hkp9 hdm9 => ?_)
  · obtain ⟨hw2, dj⟩ := hw1.side hw.snd (dj_one ho) hkp9 hdm9
    have hw3 := hw1.both hw2
    have ho1 := dj_one' dj
    obtain ⟨⟨rfl, h9⟩ | ⟨rfl, h9⟩, hd1⟩ := hp
    · refine vx_catch (own := "TextDeskLaw") (name := "java/lang/IllegalArgumentException") X.own [] ⟨0, 12, 15, 13⟩ [⟨0, 12, 19, 15⟩] (htab.trans rfl) (fun z hz9 => nomatch hz9) (by decide) (by decide) (X.hts _ mw_127) (va_Nw.use rfl (X.E.2.2.2.2.2.1 ("java/lang/IllegalArgumentException", "java/lang/IllegalArgumentException") (by decide +kernel))) hce hcv hcl ?_
      refine W.eq (g2 := F0 m 15 ls [.ref q9]) rfl ?_
      refine lv_astore (lv' := [(5, .ref q9), (0, .ref x), (1, .int (iI ka)), (2, .int (iI kb)), (3, .int (iI kc)), (4, .ref o)]) hx hb d_LW_replace_15 hl (by decide) rfl (fun ls hl => ?_)
      refine lv_iconst (v := iI (1)) hx hb d_LW_replace_17 rfl ?_
      exact ct_iret hx hb hr hlk hw3 ⟨by rw [h9], ⟨by omega, by omega⟩, f1, g, rfl, ho1, hd1, fun z => absurd (h9.symm.trans z) (by decide)⟩ (by omega) (by omega) d_LW_replace_18
    · refine vx_catch (own := "TextDeskLaw") (name := "java/lang/IllegalStateException") X.own [⟨0, 12, 15, 13⟩] ⟨0, 12, 19, 15⟩ [] (htab.trans rfl) (fun z hz9 => by
          rcases List.mem_cons.mp hz9 with rfl | hz9
          · exact Or.inr ⟨by decide, "java/lang/IllegalArgumentException", X.hts _ mw_127, X.E.2.2.2.2.2.2.2 ("java/lang/IllegalStateException", "java/lang/IllegalArgumentException") (by decide +kernel)⟩
          cases hz9) (by decide) (by decide) (X.hts _ mw_128) (va_Nw.use rfl (X.E.2.2.2.2.2.1 ("java/lang/IllegalStateException", "java/lang/IllegalStateException") (by decide +kernel))) hce hcv hcl ?_
      refine W.eq (g2 := F0 m 19 ls [.ref q9]) rfl ?_
      refine lv_astore (lv' := [(5, .ref q9), (0, .ref x), (1, .int (iI ka)), (2, .int (iI kb)), (3, .int (iI kc)), (4, .ref o)]) hx hb d_LW_replace_19 hl (by decide) rfl (fun ls hl => ?_)
      refine lv_iconst (v := iI (2)) hx hb d_LW_replace_21 rfl ?_
      exact ct_iret hx hb hr hlk hw3 ⟨by rw [h9], ⟨by omega, by omega⟩, f1, g, rfl, ho1, hd1, fun z => absurd (h9.symm.trans z) (by decide)⟩ (by omega) (by omega) d_LW_replace_22
  · obtain ⟨hw2, dj⟩ := hw1.side hw.snd (dj_one ho) hkp9 hdm9
    have hw3 := hw1.both hw2
    have ho1 := dj_one' dj
    obtain ⟨rfl, h9, hd1⟩ := hp
    refine W.eq (g2 := F0 m 10 ls [.int (iI ((sp_replace T Y B Z ka kb kc).2.1)), .int (iI 0), .ref o]) rfl ?_
    refine lv_i2l hx hb d_LW_replace_10 rfl ?_
    refine dw_last hx hb X.K hw3 4 (dw_up_self _ _ _) rfl (i := 0) (by decide) (by decide) (by decide) d_LW_replace_11 (fun H locs hw4 => ?_)
    rw [dw_up_up] at hw4
    refine lv_goto (tgt := 23) hx hb d_LW_replace_12 (by decide) ?_
    refine lv_iconst (v := iI (0)) hx hb d_LW_replace_23 rfl ?_
    exact ct_iret hx hb hr hlk hw4 ⟨by rw [h9], ⟨by omega, by omega⟩, f1, _, rfl, ho1, hd1, fun _ => rfl⟩ (by omega) (by omega) d_LW_replace_24
set_option maxRecDepth 100000 in
set_option maxHeartbeats 4000000 in
theorem c_LW_strip (l : Launch) (hlT : l.stackTraces = false) (G : ct_G) (fx : dw_M) (sz : Nat) (x o : Nat) (g : Nat → Int64) (T Y : List (List Int)) (B Z : List Int) (hI : dkI G fx x T Y B Z) (ho : fx o = none) (k : Int) (hk : iR k) : ct l y_LW_strip w_LW_strip (45) (1039) G (dw_up fx o (lcl G g)) sz [.ref x, .int (iI k), .ref o] (lwQ G x o (sp_strip T Y B Z k)) ct_no (8) (215) := by
  refine ct_ofH (own := "TextDeskLaw") (nm := "strip") (ds := "(LTextDesk;I[J)I") (by decide) (Nat.le_of_ble_eq_true rfl) ?_
  intro p e s m args below meth c ls X hnm hr hlk htab hs0 hz hw hl
  have hx := X.1
  have hb := X.2.1
  have hl : lv_has ls 4 [(0, .ref x), (1, .int (iI k)), (2, .ref o)] := hl
  obtain ⟨ta, sa, yr, dc, bu, dr, qy, qb, qd, gT, gS, c0, w0, D, sB, sZ, sD, hd⟩ := id hI
  have he := hd.1
  refine lv_aload_n hx hb d_LW_strip_0 rfl (lv_at hl 2 rfl) ?_
  refine lv_iconst (v := iI (0)) hx hb d_LW_strip_1 rfl ?_
  refine lv_aload_n hx hb d_LW_strip_2 rfl (lv_at hl 0 rfl) ?_
  refine lv_iload_n hx hb d_LW_strip_3 rfl (lv_at hl 1 rfl) ?_
  refine cs_LW_44 X hz (hw.fst ho) hl.1 he (c2_DK_strip l hlT G fx _ x T Y B Z hI k hk) ⟨Nat.le_of_ble_eq_true rfl, Nat.le_of_ble_eq_true rfl⟩ ⟨by show 0 + 8 ≤ 8; omega, by show 0 + 215 ≤ 215; omega⟩ (Nat.le_of_ble_eq_true rfl) d_LW_strip_4 (fun E ce q9 f1 H1 locs1 hp hw1 hsz9 hkp9 hdm9 hce hcv hcl => ?_) (fun v f1 H1 locs1 hp hw1 hsz9 hkp9 hdm9 => ?_)
  · obtain ⟨hw2, dj⟩ := hw1.side hw.snd (dj_one ho) hkp9 hdm9
    have hw3 := hw1.both hw2
    have ho1 := dj_one' dj
    obtain ⟨⟨rfl, h9⟩ | ⟨rfl, h9⟩, hd1⟩ := hp
    · refine vx_catch (own := "TextDeskLaw") (name := "java/lang/IllegalArgumentException") X.own [] ⟨0, 9, 12, 13⟩ [⟨0, 9, 15, 15⟩] (htab.trans rfl) (fun z hz9 => nomatch hz9) (by decide) (by decide) (X.hts _ mw_127) (va_Nw.use rfl (X.E.2.2.2.2.2.1 ("java/lang/IllegalArgumentException", "java/lang/IllegalArgumentException") (by decide +kernel))) hce hcv hcl ?_
      refine W.eq (g2 := F0 m 12 ls [.ref q9]) rfl ?_
      refine lv_astore_n (lv' := [(3, .ref q9), (0, .ref x), (1, .int (iI k)), (2, .ref o)]) hx hb d_LW_strip_12 rfl hl (by decide) rfl (fun ls hl => ?_)
      refine lv_iconst (v := iI (1)) hx hb d_LW_strip_13 rfl ?_
      exact ct_iret hx hb hr hlk hw3 ⟨by rw [h9], ⟨by omega, by omega⟩, f1, g, rfl, ho1, hd1, fun z => absurd (h9.symm.trans z) (by decide)⟩ (by omega) (by omega) d_LW_strip_14
    · refine vx_catch (own := "TextDeskLaw") (name := "java/lang/IllegalStateException") X.own [⟨0, 9, 12, 13⟩] ⟨0, 9, 15, 15⟩ [] (htab.trans rfl) (fun z hz9 => by
          rcases List.mem_cons.mp hz9 with rfl | hz9
          · exact Or.inr ⟨by decide, "java/lang/IllegalArgumentException", X.hts _ mw_127, X.E.2.2.2.2.2.2.2 ("java/lang/IllegalStateException", "java/lang/IllegalArgumentException") (by decide +kernel)⟩
          cases hz9) (by decide) (by decide) (X.hts _ mw_128) (va_Nw.use rfl (X.E.2.2.2.2.2.1 ("java/lang/IllegalStateException", "java/lang/IllegalStateException") (by decide +kernel))) hce hcv hcl ?_
      refine W.eq (g2 := F0 m 15 ls [.ref q9]) rfl ?_
      refine lv_astore_n (lv' := [(3, .ref q9), (0, .ref x), (1, .int (iI k)), (2, .ref o)]) hx hb d_LW_strip_15 rfl hl (by decide) rfl (fun ls hl => ?_)
      refine lv_iconst (v := iI (2)) hx hb d_LW_strip_16 rfl ?_
      exact ct_iret hx hb hr hlk hw3 ⟨by rw [h9], ⟨by omega, by omega⟩, f1, g, rfl, ho1, hd1, fun z => absurd (h9.symm.trans z) (by decide)⟩ (by omega) (by omega) d_LW_strip_17
  · obtain ⟨hw2, dj⟩ := hw1.side hw.snd (dj_one ho) hkp9 hdm9
    have hw3 := hw1.both hw2
    have ho1 := dj_one' dj
    obtain ⟨rfl, h9, hd1⟩ := hp
    refine W.eq (g2 := F0 m 7 ls [.int (iI ((sp_strip T Y B Z k).2.1)), .int (iI 0), .ref o]) rfl ?_
    refine lv_i2l hx hb d_LW_strip_7 rfl ?_
    refine dw_last hx hb X.K hw3 4 (dw_up_self _ _ _) rfl (i := 0) (by decide) (by decide) (by decide) d_LW_strip_8 (fun H locs hw4 => ?_)
    rw [dw_up_up] at hw4
    refine lv_goto (tgt := 18) hx hb d_LW_strip_9 (by decide) ?_
    refine lv_iconst (v := iI (0)) hx hb d_LW_strip_18 rfl ?_
    exact ct_iret hx hb hr hlk hw4 ⟨by rw [h9], ⟨by omega, by omega⟩, f1, _, rfl, ho1, hd1, fun _ => rfl⟩ (by omega) (by omega) d_LW_strip_19
set_option maxRecDepth 100000 in
set_option maxHeartbeats 4000000 in
theorem c_LW_at (l : Launch) (hlT : l.stackTraces = false) (G : ct_G) (fx : dw_M) (sz : Nat) (x o : Nat) (g : Nat → Int64) (T Y : List (List Int)) (B Z : List Int) (hI : dkI G fx x T Y B Z) (ho : fx o = none) (k : Int) (i : Int) (hk : iR k) (hi : iR i) : ct l y_LW_at w_LW_at (44) (1007) G (dw_up fx o (lcl G g)) sz [.ref x, .int (iI k), .int (iI i), .ref o] (lwQ G x o (sp_at T Y B Z k i)) ct_no (6) (152) := by
  refine ct_ofH (own := "TextDeskLaw") (nm := "at") (ds := "(LTextDesk;II[J)I") (by decide) (Nat.le_of_ble_eq_true rfl) ?_
  intro p e s m args below meth c ls X hnm hr hlk htab hs0 hz hw hl
  have hx := X.1
  have hb := X.2.1
  have hl : lv_has ls 5 [(0, .ref x), (1, .int (iI k)), (2, .int (iI i)), (3, .ref o)] := hl
  obtain ⟨ta, sa, yr, dc, bu, dr, qy, qb, qd, gT, gS, c0, w0, D, sB, sZ, sD, hd⟩ := id hI
  have he := hd.1
  refine lv_aload_n hx hb d_LW_at_0 rfl (lv_at hl 3 rfl) ?_
  refine lv_iconst (v := iI (0)) hx hb d_LW_at_1 rfl ?_
  refine lv_aload_n hx hb d_LW_at_2 rfl (lv_at hl 0 rfl) ?_
  refine lv_iload_n hx hb d_LW_at_3 rfl (lv_at hl 1 rfl) ?_
  refine lv_iload_n hx hb d_LW_at_4 rfl (lv_at hl 2 rfl) ?_
  refine cs_LW_47 X hz (hw.fst ho) hl.1 he (c2_DK_at l hlT G fx _ x T Y B Z hI k i hk hi) ⟨Nat.le_of_ble_eq_true rfl, Nat.le_of_ble_eq_true rfl⟩ ⟨by show 0 + 6 ≤ 6; omega, by show 0 + 152 ≤ 152; omega⟩ (Nat.le_of_ble_eq_true rfl) d_LW_at_5 (fun E ce q9 f1 H1 locs1 hp hw1 hsz9 hkp9 hdm9 hce hcv hcl => ?_) (fun v f1 H1 locs1 hp hw1 hsz9 hkp9 hdm9 => ?_)
  · obtain ⟨hw2, dj⟩ := hw1.side hw.snd (dj_one ho) hkp9 hdm9
    have hw3 := hw1.both hw2
    have ho1 := dj_one' dj
    obtain ⟨⟨rfl, h9⟩ | ⟨rfl, h9⟩, hd1⟩ := hp
    · refine vx_catch (own := "TextDeskLaw") (name := "java/lang/IllegalArgumentException") X.own [] ⟨0, 10, 13, 13⟩ [⟨0, 10, 17, 25⟩] (htab.trans rfl) (fun z hz9 => nomatch hz9) (by decide) (by decide) (X.hts _ mw_127) (va_Nw.use rfl (X.E.2.2.2.2.2.1 ("java/lang/IllegalArgumentException", "java/lang/IllegalArgumentException") (by decide +kernel))) hce hcv hcl ?_
      refine W.eq (g2 := F0 m 13 ls [.ref q9]) rfl ?_
      refine lv_astore (lv' := [(4, .ref q9), (0, .ref x), (1, .int (iI k)), (2, .int (iI i)), (3, .ref o)]) hx hb d_LW_at_13 hl (by decide) rfl (fun ls hl => ?_)
      refine lv_iconst (v := iI (1)) hx hb d_LW_at_15 rfl ?_
      exact ct_iret hx hb hr hlk hw3 ⟨by rw [h9], ⟨by omega, by omega⟩, f1, g, rfl, ho1, hd1, fun z => absurd (h9.symm.trans z) (by decide)⟩ (by omega) (by omega) d_LW_at_16
    · refine vx_catch (own := "TextDeskLaw") (name := "java/lang/IndexOutOfBoundsException") X.own [⟨0, 10, 13, 13⟩] ⟨0, 10, 17, 25⟩ [] (htab.trans rfl) (fun z hz9 => by
          rcases List.mem_cons.mp hz9 with rfl | hz9
          · exact Or.inr ⟨by decide, "java/lang/IllegalArgumentException", X.hts _ mw_127, X.E.2.2.2.2.2.2.2 ("java/lang/IndexOutOfBoundsException", "java/lang/IllegalArgumentException") (by decide +kernel)⟩
          cases hz9) (by decide) (by decide) (X.hts _ mw_341) (va_Nw.use rfl (X.E.2.2.2.2.2.1 ("java/lang/IndexOutOfBoundsException", "java/lang/IndexOutOfBoundsException") (by decide +kernel))) hce hcv hcl ?_
      refine W.eq (g2 := F0 m 17 ls [.ref q9]) rfl ?_
      refine lv_astore (lv' := [(4, .ref q9), (0, .ref x), (1, .int (iI k)), (2, .int (iI i)), (3, .ref o)]) hx hb d_LW_at_17 hl (by decide) rfl (fun ls hl => ?_)
      refine lv_iconst (v := iI (2)) hx hb d_LW_at_19 rfl ?_
      exact ct_iret hx hb hr hlk hw3 ⟨by rw [h9], ⟨by omega, by omega⟩, f1, g, rfl, ho1, hd1, fun z => absurd (h9.symm.trans z) (by decide)⟩ (by omega) (by omega) d_LW_at_20
  · obtain ⟨hw2, dj⟩ := hw1.side hw.snd (dj_one ho) hkp9 hdm9
    have hw3 := hw1.both hw2
    have ho1 := dj_one' dj
    obtain ⟨rfl, h9, hd1⟩ := hp
    refine W.eq (g2 := F0 m 8 ls [.int (iI ((sp_at T Y B Z k i).2.1)), .int (iI 0), .ref o]) rfl ?_
    refine lv_i2l hx hb d_LW_at_8 rfl ?_
    refine dw_last hx hb X.K hw3 4 (dw_up_self _ _ _) rfl (i := 0) (by decide) (by decide) (by decide) d_LW_at_9 (fun H locs hw4 => ?_)
    rw [dw_up_up] at hw4
    refine lv_goto (tgt := 21) hx hb d_LW_at_10 (by decide) ?_
    refine lv_iconst (v := iI (0)) hx hb d_LW_at_21 rfl ?_
    exact ct_iret hx hb hr hlk hw4 ⟨by rw [h9], ⟨by omega, by omega⟩, f1, _, rfl, ho1, hd1, fun _ => rfl⟩ (by omega) (by omega) d_LW_at_22
set_option maxRecDepth 100000 in
set_option maxHeartbeats 4000000 in
theorem c_LW_character (l : Launch) (hlT : l.stackTraces = false) (G : ct_G) (fx : dw_M) (sz : Nat) (x o : Nat) (g : Nat → Int64) (T Y : List (List Int)) (B Z : List Int) (hI : dkI G fx x T Y B Z) (ho : fx o = none) (k : Int) (i : Int) (hk : iR k) (hi : iR i) : ct l y_LW_character w_LW_character (45) (1041) G (dw_up fx o (lcl G g)) sz [.ref x, .int (iI k), .int (iI i), .ref o] (lwQ G x o (sp_character T Y B Z k i)) ct_no (6) (152) := by
  refine ct_ofH (own := "TextDeskLaw") (nm := "character") (ds := "(LTextDesk;II[J)I") (by decide) (Nat.le_of_ble_eq_true rfl) ?_
  intro p e s m args below meth c ls X hnm hr hlk htab hs0 hz hw hl
  have hx := X.1
  have hb := X.2.1
  have hl : lv_has ls 5 [(0, .ref x), (1, .int (iI k)), (2, .int (iI i)), (3, .ref o)] := hl
  obtain ⟨ta, sa, yr, dc, bu, dr, qy, qb, qd, gT, gS, c0, w0, D, sB, sZ, sD, hd⟩ := id hI
  have he := hd.1
  refine lv_aload_n hx hb d_LW_character_0 rfl (lv_at hl 3 rfl) ?_
  refine lv_iconst (v := iI (0)) hx hb d_LW_character_1 rfl ?_
  refine lv_aload_n hx hb d_LW_character_2 rfl (lv_at hl 0 rfl) ?_
  refine lv_iload_n hx hb d_LW_character_3 rfl (lv_at hl 1 rfl) ?_
  refine lv_iload_n hx hb d_LW_character_4 rfl (lv_at hl 2 rfl) ?_
  refine cs_LW_50 X hz (hw.fst ho) hl.1 he (c2_DK_character l hlT G fx _ x T Y B Z hI k i hk hi) ⟨Nat.le_of_ble_eq_true rfl, Nat.le_of_ble_eq_true rfl⟩ ⟨by show 0 + 6 ≤ 6; omega, by show 0 + 152 ≤ 152; omega⟩ (Nat.le_of_ble_eq_true rfl) d_LW_character_5 (fun E ce q9 f1 H1 locs1 hp hw1 hsz9 hkp9 hdm9 hce hcv hcl => ?_) (fun v f1 H1 locs1 hp hw1 hsz9 hkp9 hdm9 => ?_)
  · obtain ⟨hw2, dj⟩ := hw1.side hw.snd (dj_one ho) hkp9 hdm9
    have hw3 := hw1.both hw2
    have ho1 := dj_one' dj
    obtain ⟨⟨rfl, h9⟩ | ⟨rfl, h9⟩, hd1⟩ := hp
    · refine vx_catch (own := "TextDeskLaw") (name := "java/lang/IllegalArgumentException") X.own [] ⟨0, 10, 13, 13⟩ [⟨0, 10, 17, 25⟩] (htab.trans rfl) (fun z hz9 => nomatch hz9) (by decide) (by decide) (X.hts _ mw_127) (va_Nw.use rfl (X.E.2.2.2.2.2.1 ("java/lang/IllegalArgumentException", "java/lang/IllegalArgumentException") (by decide +kernel))) hce hcv hcl ?_
      refine W.eq (g2 := F0 m 13 ls [.ref q9]) rfl ?_
      refine lv_astore (lv' := [(4, .ref q9), (0, .ref x), (1, .int (iI k)), (2, .int (iI i)), (3, .ref o)]) hx hb d_LW_character_13 hl (by decide) rfl (fun ls hl => ?_)
      refine lv_iconst (v := iI (1)) hx hb d_LW_character_15 rfl ?_
      exact ct_iret hx hb hr hlk hw3 ⟨by rw [h9], ⟨by omega, by omega⟩, f1, g, rfl, ho1, hd1, fun z => absurd (h9.symm.trans z) (by decide)⟩ (by omega) (by omega) d_LW_character_16
    · refine vx_catch (own := "TextDeskLaw") (name := "java/lang/IndexOutOfBoundsException") X.own [⟨0, 10, 13, 13⟩] ⟨0, 10, 17, 25⟩ [] (htab.trans rfl) (fun z hz9 => by
          rcases List.mem_cons.mp hz9 with rfl | hz9
          · exact Or.inr ⟨by decide, "java/lang/IllegalArgumentException", X.hts _ mw_127, X.E.2.2.2.2.2.2.2 ("java/lang/IndexOutOfBoundsException", "java/lang/IllegalArgumentException") (by decide +kernel)⟩
          cases hz9) (by decide) (by decide) (X.hts _ mw_341) (va_Nw.use rfl (X.E.2.2.2.2.2.1 ("java/lang/IndexOutOfBoundsException", "java/lang/IndexOutOfBoundsException") (by decide +kernel))) hce hcv hcl ?_
      refine W.eq (g2 := F0 m 17 ls [.ref q9]) rfl ?_
      refine lv_astore (lv' := [(4, .ref q9), (0, .ref x), (1, .int (iI k)), (2, .int (iI i)), (3, .ref o)]) hx hb d_LW_character_17 hl (by decide) rfl (fun ls hl => ?_)
      refine lv_iconst (v := iI (2)) hx hb d_LW_character_19 rfl ?_
      exact ct_iret hx hb hr hlk hw3 ⟨by rw [h9], ⟨by omega, by omega⟩, f1, g, rfl, ho1, hd1, fun z => absurd (h9.symm.trans z) (by decide)⟩ (by omega) (by omega) d_LW_character_20
  · obtain ⟨hw2, dj⟩ := hw1.side hw.snd (dj_one ho) hkp9 hdm9
    have hw3 := hw1.both hw2
    have ho1 := dj_one' dj
    obtain ⟨rfl, h9, hd1⟩ := hp
    refine W.eq (g2 := F0 m 8 ls [.int (iI ((sp_character T Y B Z k i).2.1)), .int (iI 0), .ref o]) rfl ?_
    refine lv_i2l hx hb d_LW_character_8 rfl ?_
    refine dw_last hx hb X.K hw3 4 (dw_up_self _ _ _) rfl (i := 0) (by decide) (by decide) (by decide) d_LW_character_9 (fun H locs hw4 => ?_)
    rw [dw_up_up] at hw4
    refine lv_goto (tgt := 21) hx hb d_LW_character_10 (by decide) ?_
    refine lv_iconst (v := iI (0)) hx hb d_LW_character_21 rfl ?_
    exact ct_iret hx hb hr hlk hw4 ⟨by rw [h9], ⟨by omega, by omega⟩, f1, _, rfl, ho1, hd1, fun _ => rfl⟩ (by omega) (by omega) d_LW_character_22
set_option maxRecDepth 100000 in
set_option maxHeartbeats 4000000 in
theorem c_LW_narrow (l : Launch) (hlT : l.stackTraces = false) (G : ct_G) (fx : dw_M) (sz : Nat) (x o : Nat) (g : Nat → Int64) (T Y : List (List Int)) (B Z : List Int) (hI : dkI G fx x T Y B Z) (ho : fx o = none) (k : Int) (hk : iR k) : ct l y_LW_narrow w_LW_narrow (10) (166) G (dw_up fx o (lcl G g)) sz [.ref x, .int (iI k), .ref o] (lwQ G x o (sp_narrow T Y B Z k)) ct_no (1) (6) := by
  refine ct_ofH (own := "TextDeskLaw") (nm := "narrow") (ds := "(LTextDesk;I[J)I") (by decide) (Nat.le_of_ble_eq_true rfl) ?_
  intro p e s m args below meth c ls X hnm hr hlk htab hs0 hz hw hl
  have hx := X.1
  have hb := X.2.1
  have hl : lv_has ls 4 [(0, .ref x), (1, .int (iI k)), (2, .ref o)] := hl
  obtain ⟨ta, sa, yr, dc, bu, dr, qy, qb, qd, gT, gS, c0, w0, D, sB, sZ, sD, hd⟩ := id hI
  have he := hd.1
  refine lv_aload_n hx hb d_LW_narrow_0 rfl (lv_at hl 2 rfl) ?_
  refine lv_iconst (v := iI (0)) hx hb d_LW_narrow_1 rfl ?_
  refine lv_aload_n hx hb d_LW_narrow_2 rfl (lv_at hl 0 rfl) ?_
  refine lv_iload_n hx hb d_LW_narrow_3 rfl (lv_at hl 1 rfl) ?_
  refine cs_LW_53 X hz (hw.fst ho) hl.1 he (c2_DK_narrow l hlT G fx _ x T Y B Z hI k hk) ⟨Nat.le_of_ble_eq_true rfl, Nat.le_of_ble_eq_true rfl⟩ ⟨by show 0 + 1 ≤ 1; omega, by show 0 + 6 ≤ 6; omega⟩ (Nat.le_of_ble_eq_true rfl) d_LW_narrow_4 (fun E ce q9 f1 H1 locs1 hp hw1 hsz9 hkp9 hdm9 hce hcv hcl => ?_) (fun v f1 H1 locs1 hp hw1 hsz9 hkp9 hdm9 => ?_)
  · obtain ⟨hw2, dj⟩ := hw1.side hw.snd (dj_one ho) hkp9 hdm9
    have hw3 := hw1.both hw2
    have ho1 := dj_one' dj
    obtain ⟨⟨rfl, h9⟩, hd1⟩ := hp
    refine vx_catch (own := "TextDeskLaw") (name := "java/lang/IllegalArgumentException") X.own [] ⟨0, 16, 19, 13⟩ [] (htab.trans rfl) (fun z hz9 => nomatch hz9) (by decide) (by decide) (X.hts _ mw_127) (va_Nw.use rfl (X.E.2.2.2.2.2.1 ("java/lang/IllegalArgumentException", "java/lang/IllegalArgumentException") (by decide +kernel))) hce hcv hcl ?_
    refine W.eq (g2 := F0 m 19 ls [.ref q9]) rfl ?_
    refine lv_astore_n (lv' := [(3, .ref q9), (0, .ref x), (1, .int (iI k)), (2, .ref o)]) hx hb d_LW_narrow_19 rfl hl (by decide) rfl (fun ls hl => ?_)
    refine lv_iconst (v := iI (1)) hx hb d_LW_narrow_20 rfl ?_
    exact ct_iret hx hb hr hlk hw3 ⟨by rw [h9], ⟨by omega, by omega⟩, f1, g, rfl, ho1, hd1, fun z => absurd (h9.symm.trans z) (by decide)⟩ (by omega) (by omega) d_LW_narrow_21
  · obtain ⟨hw2, dj⟩ := hw1.side hw.snd (dj_one ho) hkp9 hdm9
    have hw3 := hw1.both hw2
    have ho1 := dj_one' dj
    obtain ⟨rfl, h9, hd1⟩ := hp
    refine W.eq (g2 := F0 m 7 ls [.int (iI ((sp_narrow T Y B Z k).2.1)), .int (iI 0), .ref o]) rfl ?_
    have r01 : (sp_narrow T Y B Z k).2.1 = 0 ∨ (sp_narrow T Y B Z k).2.1 = 1 := sp_narrow_01 T Y B Z k
    refine di_if_eq (tgt := 14) hx hb d_LW_narrow_7 (by decide) ⟨by omega, by omega⟩ (fun q9 => ?_) (fun q9 => ?_)
    · refine lv_lconst (v := 0) hx hb d_LW_narrow_14 rfl ?_
      refine dw_last hx hb X.K hw3 4 (dw_up_self _ _ _) rfl (i := 0) (by decide) (by decide) (by decide) d_LW_narrow_15 (fun H locs hw4 => ?_)
      rw [dw_up_up] at hw4
      refine lv_goto (tgt := 22) hx hb d_LW_narrow_16 (by decide) ?_
      refine lv_iconst (v := iI (0)) hx hb d_LW_narrow_22 rfl ?_
      exact ct_iret hx hb hr hlk hw4 ⟨by rw [h9], ⟨by omega, by omega⟩, f1, _, rfl, ho1, hd1, fun _ => by rw [q9]; rfl⟩ (by omega) (by omega) d_LW_narrow_23
    · refine lv_lconst (v := 1) hx hb d_LW_narrow_10 rfl ?_
      refine lv_goto (tgt := 15) hx hb d_LW_narrow_11 (by decide) ?_
      refine dw_last hx hb X.K hw3 4 (dw_up_self _ _ _) rfl (i := 0) (by decide) (by decide) (by decide) d_LW_narrow_15 (fun H locs hw4 => ?_)
      rw [dw_up_up] at hw4
      refine lv_goto (tgt := 22) hx hb d_LW_narrow_16 (by decide) ?_
      refine lv_iconst (v := iI (0)) hx hb d_LW_narrow_22 rfl ?_
      exact ct_iret hx hb hr hlk hw4 ⟨by rw [h9], ⟨by omega, by omega⟩, f1, _, rfl, ho1, hd1, fun _ => by rw [(show (sp_narrow T Y B Z k).2.1 = 1 by omega)]; rfl⟩ (by omega) (by omega) d_LW_narrow_23
set_option maxRecDepth 100000 in
set_option maxHeartbeats 4000000 in
theorem c_LW_hash (l : Launch) (hlT : l.stackTraces = false) (G : ct_G) (fx : dw_M) (sz : Nat) (x o : Nat) (g : Nat → Int64) (T Y : List (List Int)) (B Z : List Int) (hI : dkI G fx x T Y B Z) (ho : fx o = none) (k : Int) (hk : iR k) : ct l y_LW_hash w_LW_hash (43) (994) G (dw_up fx o (lcl G g)) sz [.ref x, .int (iI k), .ref o] (lwQ G x o (sp_hash T Y B Z k)) ct_no (5) (146) := by
  refine ct_ofH (own := "TextDeskLaw") (nm := "hash") (ds := "(LTextDesk;I[J)I") (by decide) (Nat.le_of_ble_eq_true rfl) ?_
  intro p e s m args below meth c ls X hnm hr hlk htab hs0 hz hw hl
  have hx := X.1
  have hb := X.2.1
  have hl : lv_has ls 4 [(0, .ref x), (1, .int (iI k)), (2, .ref o)] := hl
  obtain ⟨ta, sa, yr, dc, bu, dr, qy, qb, qd, gT, gS, c0, w0, D, sB, sZ, sD, hd⟩ := id hI
  have he := hd.1
  refine lv_aload_n hx hb d_LW_hash_0 rfl (lv_at hl 2 rfl) ?_
  refine lv_iconst (v := iI (0)) hx hb d_LW_hash_1 rfl ?_
  refine lv_aload_n hx hb d_LW_hash_2 rfl (lv_at hl 0 rfl) ?_
  refine lv_iload_n hx hb d_LW_hash_3 rfl (lv_at hl 1 rfl) ?_
  refine cs_LW_57 X hz (hw.fst ho) hl.1 he (c2_DK_hash l hlT G fx _ x T Y B Z hI k hk) ⟨Nat.le_of_ble_eq_true rfl, Nat.le_of_ble_eq_true rfl⟩ ⟨by show 0 + 5 ≤ 5; omega, by show 0 + 146 ≤ 146; omega⟩ (Nat.le_of_ble_eq_true rfl) d_LW_hash_4 (fun E ce q9 f1 H1 locs1 hp hw1 hsz9 hkp9 hdm9 hce hcv hcl => ?_) (fun v f1 H1 locs1 hp hw1 hsz9 hkp9 hdm9 => ?_)
  · obtain ⟨hw2, dj⟩ := hw1.side hw.snd (dj_one ho) hkp9 hdm9
    have hw3 := hw1.both hw2
    have ho1 := dj_one' dj
    obtain ⟨⟨rfl, h9⟩, hd1⟩ := hp
    refine vx_catch (own := "TextDeskLaw") (name := "java/lang/IllegalArgumentException") X.own [] ⟨0, 9, 12, 13⟩ [] (htab.trans rfl) (fun z hz9 => nomatch hz9) (by decide) (by decide) (X.hts _ mw_127) (va_Nw.use rfl (X.E.2.2.2.2.2.1 ("java/lang/IllegalArgumentException", "java/lang/IllegalArgumentException") (by decide +kernel))) hce hcv hcl ?_
    refine W.eq (g2 := F0 m 12 ls [.ref q9]) rfl ?_
    refine lv_astore_n (lv' := [(3, .ref q9), (0, .ref x), (1, .int (iI k)), (2, .ref o)]) hx hb d_LW_hash_12 rfl hl (by decide) rfl (fun ls hl => ?_)
    refine lv_iconst (v := iI (1)) hx hb d_LW_hash_13 rfl ?_
    exact ct_iret hx hb hr hlk hw3 ⟨by rw [h9], ⟨by omega, by omega⟩, f1, g, rfl, ho1, hd1, fun z => absurd (h9.symm.trans z) (by decide)⟩ (by omega) (by omega) d_LW_hash_14
  · obtain ⟨hw2, dj⟩ := hw1.side hw.snd (dj_one ho) hkp9 hdm9
    have hw3 := hw1.both hw2
    have ho1 := dj_one' dj
    obtain ⟨rfl, h9, hd1⟩ := hp
    refine W.eq (g2 := F0 m 7 ls [.int (iI ((sp_hash T Y B Z k).2.1)), .int (iI 0), .ref o]) rfl ?_
    refine lv_i2l hx hb d_LW_hash_7 rfl ?_
    refine dw_last hx hb X.K hw3 4 (dw_up_self _ _ _) rfl (i := 0) (by decide) (by decide) (by decide) d_LW_hash_8 (fun H locs hw4 => ?_)
    rw [dw_up_up] at hw4
    refine lv_goto (tgt := 15) hx hb d_LW_hash_9 (by decide) ?_
    refine lv_iconst (v := iI (0)) hx hb d_LW_hash_15 rfl ?_
    exact ct_iret hx hb hr hlk hw4 ⟨by rw [h9], ⟨by omega, by omega⟩, f1, _, rfl, ho1, hd1, fun _ => rfl⟩ (by omega) (by omega) d_LW_hash_16
set_option maxRecDepth 100000 in
set_option maxHeartbeats 4000000 in
theorem c_LW_compare (l : Launch) (hlT : l.stackTraces = false) (G : ct_G) (fx : dw_M) (sz : Nat) (x o : Nat) (g : Nat → Int64) (T Y : List (List Int)) (B Z : List Int) (hI : dkI G fx x T Y B Z) (ho : fx o = none) (ka : Int) (kb : Int) (hka : iR ka) (hkb : iR kb) : ct l y_LW_compare w_LW_compare (44) (1012) G (dw_up fx o (lcl G g)) sz [.ref x, .int (iI ka), .int (iI kb), .ref o] (lwQ G x o (sp_compare T Y B Z ka kb)) ct_no (10) (292) := by
  refine ct_ofH (own := "TextDeskLaw") (nm := "compare") (ds := "(LTextDesk;II[J)I") (by decide) (Nat.le_of_ble_eq_true rfl) ?_
  intro p e s m args below meth c ls X hnm hr hlk htab hs0 hz hw hl
  have hx := X.1
  have hb := X.2.1
  have hl : lv_has ls 5 [(0, .ref x), (1, .int (iI ka)), (2, .int (iI kb)), (3, .ref o)] := hl
  obtain ⟨ta, sa, yr, dc, bu, dr, qy, qb, qd, gT, gS, c0, w0, D, sB, sZ, sD, hd⟩ := id hI
  have he := hd.1
  refine lv_aload_n hx hb d_LW_compare_0 rfl (lv_at hl 3 rfl) ?_
  refine lv_iconst (v := iI (0)) hx hb d_LW_compare_1 rfl ?_
  refine lv_aload_n hx hb d_LW_compare_2 rfl (lv_at hl 0 rfl) ?_
  refine lv_iload_n hx hb d_LW_compare_3 rfl (lv_at hl 1 rfl) ?_
  refine lv_iload_n hx hb d_LW_compare_4 rfl (lv_at hl 2 rfl) ?_
  refine cs_LW_60 X hz (hw.fst ho) hl.1 he (c2_DK_compare l hlT G fx _ x T Y B Z hI ka kb hka hkb) ⟨Nat.le_of_ble_eq_true rfl, Nat.le_of_ble_eq_true rfl⟩ ⟨by show 0 + 10 ≤ 10; omega, by show 0 + 292 ≤ 292; omega⟩ (Nat.le_of_ble_eq_true rfl) d_LW_compare_5 (fun E ce q9 f1 H1 locs1 hp hw1 hsz9 hkp9 hdm9 hce hcv hcl => ?_) (fun v f1 H1 locs1 hp hw1 hsz9 hkp9 hdm9 => ?_)
  · obtain ⟨hw2, dj⟩ := hw1.side hw.snd (dj_one ho) hkp9 hdm9
    have hw3 := hw1.both hw2
    have ho1 := dj_one' dj
    obtain ⟨⟨rfl, h9⟩, hd1⟩ := hp
    refine vx_catch (own := "TextDeskLaw") (name := "java/lang/IllegalArgumentException") X.own [] ⟨0, 10, 13, 13⟩ [] (htab.trans rfl) (fun z hz9 => nomatch hz9) (by decide) (by decide) (X.hts _ mw_127) (va_Nw.use rfl (X.E.2.2.2.2.2.1 ("java/lang/IllegalArgumentException", "java/lang/IllegalArgumentException") (by decide +kernel))) hce hcv hcl ?_
    refine W.eq (g2 := F0 m 13 ls [.ref q9]) rfl ?_
    refine lv_astore (lv' := [(4, .ref q9), (0, .ref x), (1, .int (iI ka)), (2, .int (iI kb)), (3, .ref o)]) hx hb d_LW_compare_13 hl (by decide) rfl (fun ls hl => ?_)
    refine lv_iconst (v := iI (1)) hx hb d_LW_compare_15 rfl ?_
    exact ct_iret hx hb hr hlk hw3 ⟨by rw [h9], ⟨by omega, by omega⟩, f1, g, rfl, ho1, hd1, fun z => absurd (h9.symm.trans z) (by decide)⟩ (by omega) (by omega) d_LW_compare_16
  · obtain ⟨hw2, dj⟩ := hw1.side hw.snd (dj_one ho) hkp9 hdm9
    have hw3 := hw1.both hw2
    have ho1 := dj_one' dj
    obtain ⟨rfl, h9, hd1⟩ := hp
    refine W.eq (g2 := F0 m 8 ls [.int (iI ((sp_compare T Y B Z ka kb).2.1)), .int (iI 0), .ref o]) rfl ?_
    refine lv_i2l hx hb d_LW_compare_8 rfl ?_
    refine dw_last hx hb X.K hw3 4 (dw_up_self _ _ _) rfl (i := 0) (by decide) (by decide) (by decide) d_LW_compare_9 (fun H locs hw4 => ?_)
    rw [dw_up_up] at hw4
    refine lv_goto (tgt := 17) hx hb d_LW_compare_10 (by decide) ?_
    refine lv_iconst (v := iI (0)) hx hb d_LW_compare_17 rfl ?_
    exact ct_iret hx hb hr hlk hw4 ⟨by rw [h9], ⟨by omega, by omega⟩, f1, _, rfl, ho1, hd1, fun _ => rfl⟩ (by omega) (by omega) d_LW_compare_18
set_option maxRecDepth 100000 in
set_option maxHeartbeats 4000000 in
theorem c_LW_find (l : Launch) (hlT : l.stackTraces = false) (G : ct_G) (fx : dw_M) (sz : Nat) (x o : Nat) (g : Nat → Int64) (T Y : List (List Int)) (B Z : List Int) (hI : dkI G fx x T Y B Z) (ho : fx o = none) (ka : Int) (kb : Int) (fr : Int) (lb : Bool) (hka : iR ka) (hkb : iR kb) (hfr : iR fr) : ct l y_LW_find w_LW_find (45) (1041) G (dw_up fx o (lcl G g)) sz [.ref x, .int (iI ka), .int (iI kb), .int (iI fr), .int (iI (b2 lb)), .ref o] (lwQ G x o (sp_find T Y B Z ka kb fr lb)) ct_no (10) (292) := by
  refine ct_ofH (own := "TextDeskLaw") (nm := "find") (ds := "(LTextDesk;IIIZ[J)I") (by decide) (Nat.le_of_ble_eq_true rfl) ?_
  intro p e s m args below meth c ls X hnm hr hlk htab hs0 hz hw hl
  have hx := X.1
  have hb := X.2.1
  have hl : lv_has ls 7 [(0, .ref x), (1, .int (iI ka)), (2, .int (iI kb)), (3, .int (iI fr)), (4, .int (iI (b2 lb))), (5, .ref o)] := hl
  obtain ⟨ta, sa, yr, dc, bu, dr, qy, qb, qd, gT, gS, c0, w0, D, sB, sZ, sD, hd⟩ := id hI
  have he := hd.1
  refine lv_aload hx hb d_LW_find_0 (lv_at hl 5 rfl) ?_
  refine lv_iconst (v := iI (0)) hx hb d_LW_find_2 rfl ?_
  refine lv_aload_n hx hb d_LW_find_3 rfl (lv_at hl 0 rfl) ?_
  refine lv_iload_n hx hb d_LW_find_4 rfl (lv_at hl 1 rfl) ?_
  refine lv_iload_n hx hb d_LW_find_5 rfl (lv_at hl 2 rfl) ?_
  refine lv_iload_n hx hb d_LW_find_6 rfl (lv_at hl 3 rfl) ?_
  refine lv_iload hx hb d_LW_find_7 (lv_at hl 4 rfl) ?_
  refine cs_LW_63 X hz (hw.fst ho) hl.1 he (c2_DK_find l hlT G fx _ x T Y B Z hI ka kb fr lb hka hkb hfr) ⟨Nat.le_of_ble_eq_true rfl, Nat.le_of_ble_eq_true rfl⟩ ⟨by show 0 + 10 ≤ 10; omega, by show 0 + 292 ≤ 292; omega⟩ (Nat.le_of_ble_eq_true rfl) d_LW_find_9 (fun E ce q9 f1 H1 locs1 hp hw1 hsz9 hkp9 hdm9 hce hcv hcl => ?_) (fun v f1 H1 locs1 hp hw1 hsz9 hkp9 hdm9 => ?_)
  · obtain ⟨hw2, dj⟩ := hw1.side hw.snd (dj_one ho) hkp9 hdm9
    have hw3 := hw1.both hw2
    have ho1 := dj_one' dj
    obtain ⟨⟨rfl, h9⟩, hd1⟩ := hp
    refine vx_catch (own := "TextDeskLaw") (name := "java/lang/IllegalArgumentException") X.own [] ⟨0, 14, 17, 13⟩ [] (htab.trans rfl) (fun z hz9 => nomatch hz9) (by decide) (by decide) (X.hts _ mw_127) (va_Nw.use rfl (X.E.2.2.2.2.2.1 ("java/lang/IllegalArgumentException", "java/lang/IllegalArgumentException") (by decide +kernel))) hce hcv hcl ?_
    refine W.eq (g2 := F0 m 17 ls [.ref q9]) rfl ?_
    refine lv_astore (lv' := [(6, .ref q9), (0, .ref x), (1, .int (iI ka)), (2, .int (iI kb)), (3, .int (iI fr)), (4, .int (iI (b2 lb))), (5, .ref o)]) hx hb d_LW_find_17 hl (by decide) rfl (fun ls hl => ?_)
    refine lv_iconst (v := iI (1)) hx hb d_LW_find_19 rfl ?_
    exact ct_iret hx hb hr hlk hw3 ⟨by rw [h9], ⟨by omega, by omega⟩, f1, g, rfl, ho1, hd1, fun z => absurd (h9.symm.trans z) (by decide)⟩ (by omega) (by omega) d_LW_find_20
  · obtain ⟨hw2, dj⟩ := hw1.side hw.snd (dj_one ho) hkp9 hdm9
    have hw3 := hw1.both hw2
    have ho1 := dj_one' dj
    obtain ⟨rfl, h9, hd1⟩ := hp
    refine W.eq (g2 := F0 m 12 ls [.int (iI ((sp_find T Y B Z ka kb fr lb).2.1)), .int (iI 0), .ref o]) rfl ?_
    refine lv_i2l hx hb d_LW_find_12 rfl ?_
    refine dw_last hx hb X.K hw3 4 (dw_up_self _ _ _) rfl (i := 0) (by decide) (by decide) (by decide) d_LW_find_13 (fun H locs hw4 => ?_)
    rw [dw_up_up] at hw4
    refine lv_goto (tgt := 21) hx hb d_LW_find_14 (by decide) ?_
    refine lv_iconst (v := iI (0)) hx hb d_LW_find_21 rfl ?_
    exact ct_iret hx hb hr hlk hw4 ⟨by rw [h9], ⟨by omega, by omega⟩, f1, _, rfl, ho1, hd1, fun _ => rfl⟩ (by omega) (by omega) d_LW_find_22
set_option maxRecDepth 100000 in
set_option maxHeartbeats 4000000 in
theorem c_LW_symbol (l : Launch) (hlT : l.stackTraces = false) (G : ct_G) (fx : dw_M) (sz : Nat) (x o : Nat) (g : Nat → Int64) (T Y : List (List Int)) (B Z : List Int) (hI : dkI G fx x T Y B Z) (ho : fx o = none) (k : Int) (hk : iR k) : ct l y_LW_symbol w_LW_symbol (44) (1013) G (dw_up fx o (lcl G g)) sz [.ref x, .int (iI k), .ref o] (lwQ G x o (sp_symbol T Y B Z k)) ct_no (130) (4500) := by
  refine ct_ofH (own := "TextDeskLaw") (nm := "symbol") (ds := "(LTextDesk;I[J)I") (by decide) (Nat.le_of_ble_eq_true rfl) ?_
  intro p e s m args below meth c ls X hnm hr hlk htab hs0 hz hw hl
  have hx := X.1
  have hb := X.2.1
  have hl : lv_has ls 4 [(0, .ref x), (1, .int (iI k)), (2, .ref o)] := hl
  obtain ⟨ta, sa, yr, dc, bu, dr, qy, qb, qd, gT, gS, c0, w0, D, sB, sZ, sD, hd⟩ := id hI
  have he := hd.1
  refine lv_aload_n hx hb d_LW_symbol_0 rfl (lv_at hl 2 rfl) ?_
  refine lv_iconst (v := iI (0)) hx hb d_LW_symbol_1 rfl ?_
  refine lv_aload_n hx hb d_LW_symbol_2 rfl (lv_at hl 0 rfl) ?_
  refine lv_iload_n hx hb d_LW_symbol_3 rfl (lv_at hl 1 rfl) ?_
  refine cs_LW_67 X hz (hw.fst ho) hl.1 he (c2_DK_symbol l hlT G fx _ x T Y B Z hI k hk) ⟨Nat.le_of_ble_eq_true rfl, Nat.le_of_ble_eq_true rfl⟩ ⟨by show 0 + 130 ≤ 130; omega, by show 0 + 4500 ≤ 4500; omega⟩ (Nat.le_of_ble_eq_true rfl) d_LW_symbol_4 (fun E ce q9 f1 H1 locs1 hp hw1 hsz9 hkp9 hdm9 hce hcv hcl => ?_) (fun v f1 H1 locs1 hp hw1 hsz9 hkp9 hdm9 => ?_)
  · obtain ⟨hw2, dj⟩ := hw1.side hw.snd (dj_one ho) hkp9 hdm9
    have hw3 := hw1.both hw2
    have ho1 := dj_one' dj
    obtain ⟨⟨rfl, h9⟩ | ⟨rfl, h9⟩, hd1⟩ := hp
    · refine vx_catch (own := "TextDeskLaw") (name := "java/lang/IllegalArgumentException") X.own [] ⟨0, 9, 12, 13⟩ [⟨0, 9, 15, 15⟩] (htab.trans rfl) (fun z hz9 => nomatch hz9) (by decide) (by decide) (X.hts _ mw_127) (va_Nw.use rfl (X.E.2.2.2.2.2.1 ("java/lang/IllegalArgumentException", "java/lang/IllegalArgumentException") (by decide +kernel))) hce hcv hcl ?_
      refine W.eq (g2 := F0 m 12 ls [.ref q9]) rfl ?_
      refine lv_astore_n (lv' := [(3, .ref q9), (0, .ref x), (1, .int (iI k)), (2, .ref o)]) hx hb d_LW_symbol_12 rfl hl (by decide) rfl (fun ls hl => ?_)
      refine lv_iconst (v := iI (1)) hx hb d_LW_symbol_13 rfl ?_
      exact ct_iret hx hb hr hlk hw3 ⟨by rw [h9], ⟨by omega, by omega⟩, f1, g, rfl, ho1, hd1, fun z => absurd (h9.symm.trans z) (by decide)⟩ (by omega) (by omega) d_LW_symbol_14
    · refine vx_catch (own := "TextDeskLaw") (name := "java/lang/IllegalStateException") X.own [⟨0, 9, 12, 13⟩] ⟨0, 9, 15, 15⟩ [] (htab.trans rfl) (fun z hz9 => by
          rcases List.mem_cons.mp hz9 with rfl | hz9
          · exact Or.inr ⟨by decide, "java/lang/IllegalArgumentException", X.hts _ mw_127, X.E.2.2.2.2.2.2.2 ("java/lang/IllegalStateException", "java/lang/IllegalArgumentException") (by decide +kernel)⟩
          cases hz9) (by decide) (by decide) (X.hts _ mw_128) (va_Nw.use rfl (X.E.2.2.2.2.2.1 ("java/lang/IllegalStateException", "java/lang/IllegalStateException") (by decide +kernel))) hce hcv hcl ?_
      refine W.eq (g2 := F0 m 15 ls [.ref q9]) rfl ?_
      refine lv_astore_n (lv' := [(3, .ref q9), (0, .ref x), (1, .int (iI k)), (2, .ref o)]) hx hb d_LW_symbol_15 rfl hl (by decide) rfl (fun ls hl => ?_)
      refine lv_iconst (v := iI (2)) hx hb d_LW_symbol_16 rfl ?_
      exact ct_iret hx hb hr hlk hw3 ⟨by rw [h9], ⟨by omega, by omega⟩, f1, g, rfl, ho1, hd1, fun z => absurd (h9.symm.trans z) (by decide)⟩ (by omega) (by omega) d_LW_symbol_17
  · obtain ⟨hw2, dj⟩ := hw1.side hw.snd (dj_one ho) hkp9 hdm9
    have hw3 := hw1.both hw2
    have ho1 := dj_one' dj
    obtain ⟨rfl, h9, hd1⟩ := hp
    refine W.eq (g2 := F0 m 7 ls [.int (iI ((sp_symbol T Y B Z k).2.1)), .int (iI 0), .ref o]) rfl ?_
    refine lv_i2l hx hb d_LW_symbol_7 rfl ?_
    refine dw_last hx hb X.K hw3 4 (dw_up_self _ _ _) rfl (i := 0) (by decide) (by decide) (by decide) d_LW_symbol_8 (fun H locs hw4 => ?_)
    rw [dw_up_up] at hw4
    refine lv_goto (tgt := 18) hx hb d_LW_symbol_9 (by decide) ?_
    refine lv_iconst (v := iI (0)) hx hb d_LW_symbol_18 rfl ?_
    exact ct_iret hx hb hr hlk hw4 ⟨by rw [h9], ⟨by omega, by omega⟩, f1, _, rfl, ho1, hd1, fun _ => rfl⟩ (by omega) (by omega) d_LW_symbol_19
set_option maxRecDepth 100000 in
set_option maxHeartbeats 4000000 in
theorem c_LW_encode (l : Launch) (hlT : l.stackTraces = false) (G : ct_G) (fx : dw_M) (sz : Nat) (x o : Nat) (g : Nat → Int64) (T Y : List (List Int)) (B Z : List Int) (hI : dkI G fx x T Y B Z) (ho : fx o = none) (k : Int) (en : Int) (hk : iR k) (hen : iR en) : ct l y_LW_encode w_LW_encode (46) (1063) G (dw_up fx o (lcl G g)) sz [.ref x, .int (iI k), .int (iI en), .ref o] (lwQ G x o (sp_encode T Y B Z k en)) ct_no (6) (152) := by
  refine ct_ofH (own := "TextDeskLaw") (nm := "encode") (ds := "(LTextDesk;II[J)I") (by decide) (Nat.le_of_ble_eq_true rfl) ?_
  intro p e s m args below meth c ls X hnm hr hlk htab hs0 hz hw hl
  have hx := X.1
  have hb := X.2.1
  have hl : lv_has ls 5 [(0, .ref x), (1, .int (iI k)), (2, .int (iI en)), (3, .ref o)] := hl
  obtain ⟨ta, sa, yr, dc, bu, dr, qy, qb, qd, gT, gS, c0, w0, D, sB, sZ, sD, hd⟩ := id hI
  have he := hd.1
  refine lv_aload_n hx hb d_LW_encode_0 rfl (lv_at hl 3 rfl) ?_
  refine lv_iconst (v := iI (0)) hx hb d_LW_encode_1 rfl ?_
  refine lv_aload_n hx hb d_LW_encode_2 rfl (lv_at hl 0 rfl) ?_
  refine lv_iload_n hx hb d_LW_encode_3 rfl (lv_at hl 1 rfl) ?_
  refine lv_iload_n hx hb d_LW_encode_4 rfl (lv_at hl 2 rfl) ?_
  refine cs_LW_70 X hz (hw.fst ho) hl.1 he (c2_DK_encode l hlT G fx _ x T Y B Z hI k en hk hen) ⟨Nat.le_of_ble_eq_true rfl, Nat.le_of_ble_eq_true rfl⟩ ⟨by show 0 + 6 ≤ 6; omega, by show 0 + 152 ≤ 152; omega⟩ (Nat.le_of_ble_eq_true rfl) d_LW_encode_5 (fun E ce q9 f1 H1 locs1 hp hw1 hsz9 hkp9 hdm9 hce hcv hcl => ?_) (fun v f1 H1 locs1 hp hw1 hsz9 hkp9 hdm9 => ?_)
  · obtain ⟨hw2, dj⟩ := hw1.side hw.snd (dj_one ho) hkp9 hdm9
    have hw3 := hw1.both hw2
    have ho1 := dj_one' dj
    obtain ⟨⟨rfl, h9⟩, hd1⟩ := hp
    refine vx_catch (own := "TextDeskLaw") (name := "java/lang/IllegalArgumentException") X.own [] ⟨0, 10, 13, 13⟩ [] (htab.trans rfl) (fun z hz9 => nomatch hz9) (by decide) (by decide) (X.hts _ mw_127) (va_Nw.use rfl (X.E.2.2.2.2.2.1 ("java/lang/IllegalArgumentException", "java/lang/IllegalArgumentException") (by decide +kernel))) hce hcv hcl ?_
    refine W.eq (g2 := F0 m 13 ls [.ref q9]) rfl ?_
    refine lv_astore (lv' := [(4, .ref q9), (0, .ref x), (1, .int (iI k)), (2, .int (iI en)), (3, .ref o)]) hx hb d_LW_encode_13 hl (by decide) rfl (fun ls hl => ?_)
    refine lv_iconst (v := iI (1)) hx hb d_LW_encode_15 rfl ?_
    exact ct_iret hx hb hr hlk hw3 ⟨by rw [h9], ⟨by omega, by omega⟩, f1, g, rfl, ho1, hd1, fun z => absurd (h9.symm.trans z) (by decide)⟩ (by omega) (by omega) d_LW_encode_16
  · obtain ⟨hw2, dj⟩ := hw1.side hw.snd (dj_one ho) hkp9 hdm9
    have hw3 := hw1.both hw2
    have ho1 := dj_one' dj
    obtain ⟨rfl, h9, hd1⟩ := hp
    refine W.eq (g2 := F0 m 8 ls [.int (iI ((sp_encode T Y B Z k en).2.1)), .int (iI 0), .ref o]) rfl ?_
    refine lv_i2l hx hb d_LW_encode_8 rfl ?_
    refine dw_last hx hb X.K hw3 4 (dw_up_self _ _ _) rfl (i := 0) (by decide) (by decide) (by decide) d_LW_encode_9 (fun H locs hw4 => ?_)
    rw [dw_up_up] at hw4
    refine lv_goto (tgt := 17) hx hb d_LW_encode_10 (by decide) ?_
    refine lv_iconst (v := iI (0)) hx hb d_LW_encode_17 rfl ?_
    exact ct_iret hx hb hr hlk hw4 ⟨by rw [h9], ⟨by omega, by omega⟩, f1, _, rfl, ho1, hd1, fun _ => rfl⟩ (by omega) (by omega) d_LW_encode_18
set_option maxRecDepth 100000 in
set_option maxHeartbeats 4000000 in
theorem c_LW_type (l : Launch) (hlT : l.stackTraces = false) (G : ct_G) (fx : dw_M) (sz : Nat) (x o : Nat) (g : Nat → Int64) (T Y : List (List Int)) (B Z : List Int) (hI : dkI G fx x T Y B Z) (ho : fx o = none) (u : Int) (hu : iR u) : ct l y_LW_type w_LW_type (9) (141) G (dw_up fx o (lcl G g)) sz [.ref x, .int (iI u), .ref o] (lwQ G x o (sp_type T Y B Z u)) ct_no (1) (6) := by
  refine ct_ofH (own := "TextDeskLaw") (nm := "type") (ds := "(LTextDesk;I[J)I") (by decide) (Nat.le_of_ble_eq_true rfl) ?_
  intro p e s m args below meth c ls X hnm hr hlk htab hs0 hz hw hl
  have hx := X.1
  have hb := X.2.1
  have hl : lv_has ls 4 [(0, .ref x), (1, .int (iI u)), (2, .ref o)] := hl
  obtain ⟨ta, sa, yr, dc, bu, dr, qy, qb, qd, gT, gS, c0, w0, D, sB, sZ, sD, hd⟩ := id hI
  have he := hd.1
  refine lv_aload_n hx hb d_LW_type_0 rfl (lv_at hl 2 rfl) ?_
  refine lv_iconst (v := iI (0)) hx hb d_LW_type_1 rfl ?_
  refine lv_aload_n hx hb d_LW_type_2 rfl (lv_at hl 0 rfl) ?_
  refine lv_iload_n hx hb d_LW_type_3 rfl (lv_at hl 1 rfl) ?_
  refine cs_LW_73 X hz (hw.fst ho) hl.1 he (c2_DK_type l hlT G fx _ x T Y B Z hI u hu) ⟨Nat.le_of_ble_eq_true rfl, Nat.le_of_ble_eq_true rfl⟩ ⟨by show 0 + 1 ≤ 1; omega, by show 0 + 6 ≤ 6; omega⟩ (Nat.le_of_ble_eq_true rfl) d_LW_type_4 (fun E ce q9 f1 H1 locs1 hp hw1 hsz9 hkp9 hdm9 hce hcv hcl => ?_) (fun v f1 H1 locs1 hp hw1 hsz9 hkp9 hdm9 => ?_)
  · obtain ⟨hw2, dj⟩ := hw1.side hw.snd (dj_one ho) hkp9 hdm9
    have hw3 := hw1.both hw2
    have ho1 := dj_one' dj
    obtain ⟨⟨rfl, h9⟩ | ⟨rfl, h9⟩, hd1⟩ := hp
    · refine vx_catch (own := "TextDeskLaw") (name := "java/lang/IllegalArgumentException") X.own [] ⟨0, 9, 12, 13⟩ [⟨0, 9, 15, 15⟩] (htab.trans rfl) (fun z hz9 => nomatch hz9) (by decide) (by decide) (X.hts _ mw_127) (va_Nw.use rfl (X.E.2.2.2.2.2.1 ("java/lang/IllegalArgumentException", "java/lang/IllegalArgumentException") (by decide +kernel))) hce hcv hcl ?_
      refine W.eq (g2 := F0 m 12 ls [.ref q9]) rfl ?_
      refine lv_astore_n (lv' := [(3, .ref q9), (0, .ref x), (1, .int (iI u)), (2, .ref o)]) hx hb d_LW_type_12 rfl hl (by decide) rfl (fun ls hl => ?_)
      refine lv_iconst (v := iI (1)) hx hb d_LW_type_13 rfl ?_
      exact ct_iret hx hb hr hlk hw3 ⟨by rw [h9], ⟨by omega, by omega⟩, f1, g, rfl, ho1, hd1, fun z => absurd (h9.symm.trans z) (by decide)⟩ (by omega) (by omega) d_LW_type_14
    · refine vx_catch (own := "TextDeskLaw") (name := "java/lang/IllegalStateException") X.own [⟨0, 9, 12, 13⟩] ⟨0, 9, 15, 15⟩ [] (htab.trans rfl) (fun z hz9 => by
          rcases List.mem_cons.mp hz9 with rfl | hz9
          · exact Or.inr ⟨by decide, "java/lang/IllegalArgumentException", X.hts _ mw_127, X.E.2.2.2.2.2.2.2 ("java/lang/IllegalStateException", "java/lang/IllegalArgumentException") (by decide +kernel)⟩
          cases hz9) (by decide) (by decide) (X.hts _ mw_128) (va_Nw.use rfl (X.E.2.2.2.2.2.1 ("java/lang/IllegalStateException", "java/lang/IllegalStateException") (by decide +kernel))) hce hcv hcl ?_
      refine W.eq (g2 := F0 m 15 ls [.ref q9]) rfl ?_
      refine lv_astore_n (lv' := [(3, .ref q9), (0, .ref x), (1, .int (iI u)), (2, .ref o)]) hx hb d_LW_type_15 rfl hl (by decide) rfl (fun ls hl => ?_)
      refine lv_iconst (v := iI (2)) hx hb d_LW_type_16 rfl ?_
      exact ct_iret hx hb hr hlk hw3 ⟨by rw [h9], ⟨by omega, by omega⟩, f1, g, rfl, ho1, hd1, fun z => absurd (h9.symm.trans z) (by decide)⟩ (by omega) (by omega) d_LW_type_17
  · obtain ⟨hw2, dj⟩ := hw1.side hw.snd (dj_one ho) hkp9 hdm9
    have hw3 := hw1.both hw2
    have ho1 := dj_one' dj
    obtain ⟨rfl, h9, hd1⟩ := hp
    refine W.eq (g2 := F0 m 7 ls [.int (iI ((sp_type T Y B Z u).2.1)), .int (iI 0), .ref o]) rfl ?_
    refine lv_i2l hx hb d_LW_type_7 rfl ?_
    refine dw_last hx hb X.K hw3 4 (dw_up_self _ _ _) rfl (i := 0) (by decide) (by decide) (by decide) d_LW_type_8 (fun H locs hw4 => ?_)
    rw [dw_up_up] at hw4
    refine lv_goto (tgt := 18) hx hb d_LW_type_9 (by decide) ?_
    refine lv_iconst (v := iI (0)) hx hb d_LW_type_18 rfl ?_
    exact ct_iret hx hb hr hlk hw4 ⟨by rw [h9], ⟨by omega, by omega⟩, f1, _, rfl, ho1, hd1, fun _ => rfl⟩ (by omega) (by omega) d_LW_type_19
set_option maxRecDepth 100000 in
set_option maxHeartbeats 4000000 in
theorem c_LW_decode (l : Launch) (hlT : l.stackTraces = false) (G : ct_G) (fx : dw_M) (sz : Nat) (x o : Nat) (g : Nat → Int64) (T Y : List (List Int)) (B Z : List Int) (hI : dkI G fx x T Y B Z) (ho : fx o = none) (en : Int) (st : Bool) (hen : iR en) : ct l y_LW_decode w_LW_decode (10) (169) G (dw_up fx o (lcl G g)) sz [.ref x, .int (iI en), .int (iI (b2 st)), .ref o] (lwQ G x o (sp_decode T Y B Z en st)) ct_no (5) (81) := by
  refine ct_ofH (own := "TextDeskLaw") (nm := "decode") (ds := "(LTextDesk;IZ[J)I") (by decide) (Nat.le_of_ble_eq_true rfl) ?_
  intro p e s m args below meth c ls X hnm hr hlk htab hs0 hz hw hl
  have hx := X.1
  have hb := X.2.1
  have hl : lv_has ls 5 [(0, .ref x), (1, .int (iI en)), (2, .int (iI (b2 st))), (3, .ref o)] := hl
  obtain ⟨ta, sa, yr, dc, bu, dr, qy, qb, qd, gT, gS, c0, w0, D, sB, sZ, sD, hd⟩ := id hI
  have he := hd.1
  refine lv_aload_n hx hb d_LW_decode_0 rfl (lv_at hl 3 rfl) ?_
  refine lv_iconst (v := iI (0)) hx hb d_LW_decode_1 rfl ?_
  refine lv_aload_n hx hb d_LW_decode_2 rfl (lv_at hl 0 rfl) ?_
  refine lv_iload_n hx hb d_LW_decode_3 rfl (lv_at hl 1 rfl) ?_
  refine lv_iload_n hx hb d_LW_decode_4 rfl (lv_at hl 2 rfl) ?_
  refine cs_LW_76 X hz (hw.fst ho) hl.1 he (c2_DK_decode l hlT G fx _ x T Y B Z hI en st hen) ⟨Nat.le_of_ble_eq_true rfl, Nat.le_of_ble_eq_true rfl⟩ ⟨by show 0 + 5 ≤ 5; omega, by show 0 + 81 ≤ 81; omega⟩ (Nat.le_of_ble_eq_true rfl) d_LW_decode_5 (fun E ce q9 f1 H1 locs1 hp hw1 hsz9 hkp9 hdm9 hce hcv hcl => ?_) (fun v f1 H1 locs1 hp hw1 hsz9 hkp9 hdm9 => ?_)
  · obtain ⟨hw2, dj⟩ := hw1.side hw.snd (dj_one ho) hkp9 hdm9
    have hw3 := hw1.both hw2
    have ho1 := dj_one' dj
    obtain ⟨⟨rfl, h9⟩ | ⟨rfl, h9⟩ | ⟨rfl, h9⟩, hd1⟩ := hp
    · refine vx_catch (own := "TextDeskLaw") (name := "java/lang/IllegalArgumentException") X.own [] ⟨0, 10, 13, 13⟩ [⟨0, 10, 17, 80⟩, ⟨0, 10, 21, 15⟩] (htab.trans rfl) (fun z hz9 => nomatch hz9) (by decide) (by decide) (X.hts _ mw_127) (va_Nw.use rfl (X.E.2.2.2.2.2.1 ("java/lang/IllegalArgumentException", "java/lang/IllegalArgumentException") (by decide +kernel))) hce hcv hcl ?_
      refine W.eq (g2 := F0 m 13 ls [.ref q9]) rfl ?_
      refine lv_astore (lv' := [(4, .ref q9), (0, .ref x), (1, .int (iI en)), (2, .int (iI (b2 st))), (3, .ref o)]) hx hb d_LW_decode_13 hl (by decide) rfl (fun ls hl => ?_)
      refine lv_iconst (v := iI (1)) hx hb d_LW_decode_15 rfl ?_
      exact ct_iret hx hb hr hlk hw3 ⟨by rw [h9], ⟨by omega, by omega⟩, f1, g, rfl, ho1, hd1, fun z => absurd (h9.symm.trans z) (by decide)⟩ (by omega) (by omega) d_LW_decode_16
    · refine vx_catch (own := "TextDeskLaw") (name := "java/lang/UnsupportedOperationException") X.own [⟨0, 10, 13, 13⟩] ⟨0, 10, 17, 80⟩ [⟨0, 10, 21, 15⟩] (htab.trans rfl) (fun z hz9 => by
          rcases List.mem_cons.mp hz9 with rfl | hz9
          · exact Or.inr ⟨by decide, "java/lang/IllegalArgumentException", X.hts _ mw_127, X.E.2.2.2.2.2.2.2 ("java/lang/UnsupportedOperationException", "java/lang/IllegalArgumentException") (by decide +kernel)⟩
          cases hz9) (by decide) (by decide) (X.hts _ mw_566) (va_Nw.use rfl (X.E.2.2.2.2.2.1 ("java/lang/UnsupportedOperationException", "java/lang/UnsupportedOperationException") (by decide +kernel))) hce hcv hcl ?_
      refine W.eq (g2 := F0 m 17 ls [.ref q9]) rfl ?_
      refine lv_astore (lv' := [(4, .ref q9), (0, .ref x), (1, .int (iI en)), (2, .int (iI (b2 st))), (3, .ref o)]) hx hb d_LW_decode_17 hl (by decide) rfl (fun ls hl => ?_)
      refine lv_iconst (v := iI (2)) hx hb d_LW_decode_19 rfl ?_
      exact ct_iret hx hb hr hlk hw3 ⟨by rw [h9], ⟨by omega, by omega⟩, f1, g, rfl, ho1, hd1, fun z => absurd (h9.symm.trans z) (by decide)⟩ (by omega) (by omega) d_LW_decode_20
    · refine vx_catch (own := "TextDeskLaw") (name := "java/lang/IllegalStateException") X.own [⟨0, 10, 13, 13⟩, ⟨0, 10, 17, 80⟩] ⟨0, 10, 21, 15⟩ [] (htab.trans rfl) (fun z hz9 => by
          rcases List.mem_cons.mp hz9 with rfl | hz9
          · exact Or.inr ⟨by decide, "java/lang/IllegalArgumentException", X.hts _ mw_127, X.E.2.2.2.2.2.2.2 ("java/lang/IllegalStateException", "java/lang/IllegalArgumentException") (by decide +kernel)⟩
          rcases List.mem_cons.mp hz9 with rfl | hz9
          · exact Or.inr ⟨by decide, "java/lang/UnsupportedOperationException", X.hts _ mw_566, X.E.2.2.2.2.2.2.2 ("java/lang/IllegalStateException", "java/lang/UnsupportedOperationException") (by decide +kernel)⟩
          cases hz9) (by decide) (by decide) (X.hts _ mw_128) (va_Nw.use rfl (X.E.2.2.2.2.2.1 ("java/lang/IllegalStateException", "java/lang/IllegalStateException") (by decide +kernel))) hce hcv hcl ?_
      refine W.eq (g2 := F0 m 21 ls [.ref q9]) rfl ?_
      refine lv_astore (lv' := [(4, .ref q9), (0, .ref x), (1, .int (iI en)), (2, .int (iI (b2 st))), (3, .ref o)]) hx hb d_LW_decode_21 hl (by decide) rfl (fun ls hl => ?_)
      refine lv_iconst (v := iI (3)) hx hb d_LW_decode_23 rfl ?_
      exact ct_iret hx hb hr hlk hw3 ⟨by rw [h9], ⟨by omega, by omega⟩, f1, g, rfl, ho1, hd1, fun z => absurd (h9.symm.trans z) (by decide)⟩ (by omega) (by omega) d_LW_decode_24
  · obtain ⟨hw2, dj⟩ := hw1.side hw.snd (dj_one ho) hkp9 hdm9
    have hw3 := hw1.both hw2
    have ho1 := dj_one' dj
    obtain ⟨rfl, h9, hd1⟩ := hp
    refine W.eq (g2 := F0 m 8 ls [.int (iI ((sp_decode T Y B Z en st).2.1)), .int (iI 0), .ref o]) rfl ?_
    refine lv_i2l hx hb d_LW_decode_8 rfl ?_
    refine dw_last hx hb X.K hw3 4 (dw_up_self _ _ _) rfl (i := 0) (by decide) (by decide) (by decide) d_LW_decode_9 (fun H locs hw4 => ?_)
    rw [dw_up_up] at hw4
    refine lv_goto (tgt := 25) hx hb d_LW_decode_10 (by decide) ?_
    refine lv_iconst (v := iI (0)) hx hb d_LW_decode_25 rfl ?_
    exact ct_iret hx hb hr hlk hw4 ⟨by rw [h9], ⟨by omega, by omega⟩, f1, _, rfl, ho1, hd1, fun _ => rfl⟩ (by omega) (by omega) d_LW_decode_26
set_option maxRecDepth 100000 in
set_option maxHeartbeats 4000000 in
theorem c_LW_octet (l : Launch) (hlT : l.stackTraces = false) (G : ct_G) (fx : dw_M) (sz : Nat) (x o : Nat) (g : Nat → Int64) (T Y : List (List Int)) (B Z : List Int) (hI : dkI G fx x T Y B Z) (ho : fx o = none) (k : Int) (hk : iR k) : ct l y_LW_octet w_LW_octet (44) (1006) G (dw_up fx o (lcl G g)) sz [.ref x, .int (iI k), .ref o] (lwQ G x o (sp_octet T Y B Z k)) ct_no (1) (6) := by
  refine ct_ofH (own := "TextDeskLaw") (nm := "octet") (ds := "(LTextDesk;I[J)I") (by decide) (Nat.le_of_ble_eq_true rfl) ?_
  intro p e s m args below meth c ls X hnm hr hlk htab hs0 hz hw hl
  have hx := X.1
  have hb := X.2.1
  have hl : lv_has ls 4 [(0, .ref x), (1, .int (iI k)), (2, .ref o)] := hl
  obtain ⟨ta, sa, yr, dc, bu, dr, qy, qb, qd, gT, gS, c0, w0, D, sB, sZ, sD, hd⟩ := id hI
  have he := hd.1
  refine lv_aload_n hx hb d_LW_octet_0 rfl (lv_at hl 2 rfl) ?_
  refine lv_iconst (v := iI (0)) hx hb d_LW_octet_1 rfl ?_
  refine lv_aload_n hx hb d_LW_octet_2 rfl (lv_at hl 0 rfl) ?_
  refine lv_iload_n hx hb d_LW_octet_3 rfl (lv_at hl 1 rfl) ?_
  refine cs_LW_82 X hz (hw.fst ho) hl.1 he (c2_DK_octet l hlT G fx _ x T Y B Z hI k hk) ⟨Nat.le_of_ble_eq_true rfl, Nat.le_of_ble_eq_true rfl⟩ ⟨by show 0 + 1 ≤ 1; omega, by show 0 + 6 ≤ 6; omega⟩ (Nat.le_of_ble_eq_true rfl) d_LW_octet_4 (fun E ce q9 f1 H1 locs1 hp hw1 hsz9 hkp9 hdm9 hce hcv hcl => ?_) (fun v f1 H1 locs1 hp hw1 hsz9 hkp9 hdm9 => ?_)
  · obtain ⟨hw2, dj⟩ := hw1.side hw.snd (dj_one ho) hkp9 hdm9
    have hw3 := hw1.both hw2
    have ho1 := dj_one' dj
    obtain ⟨⟨rfl, h9⟩, hd1⟩ := hp
    refine vx_catch (own := "TextDeskLaw") (name := "java/lang/IndexOutOfBoundsException") X.own [] ⟨0, 9, 12, 25⟩ [] (htab.trans rfl) (fun z hz9 => nomatch hz9) (by decide) (by decide) (X.hts _ mw_341) (va_Nw.use rfl (X.E.2.2.2.2.2.1 ("java/lang/IndexOutOfBoundsException", "java/lang/IndexOutOfBoundsException") (by decide +kernel))) hce hcv hcl ?_
    refine W.eq (g2 := F0 m 12 ls [.ref q9]) rfl ?_
    refine lv_astore_n (lv' := [(3, .ref q9), (0, .ref x), (1, .int (iI k)), (2, .ref o)]) hx hb d_LW_octet_12 rfl hl (by decide) rfl (fun ls hl => ?_)
    refine lv_iconst (v := iI (1)) hx hb d_LW_octet_13 rfl ?_
    exact ct_iret hx hb hr hlk hw3 ⟨by rw [h9], ⟨by omega, by omega⟩, f1, g, rfl, ho1, hd1, fun z => absurd (h9.symm.trans z) (by decide)⟩ (by omega) (by omega) d_LW_octet_14
  · obtain ⟨hw2, dj⟩ := hw1.side hw.snd (dj_one ho) hkp9 hdm9
    have hw3 := hw1.both hw2
    have ho1 := dj_one' dj
    obtain ⟨rfl, h9, hd1⟩ := hp
    refine W.eq (g2 := F0 m 7 ls [.int (iI ((sp_octet T Y B Z k).2.1)), .int (iI 0), .ref o]) rfl ?_
    refine lv_i2l hx hb d_LW_octet_7 rfl ?_
    refine dw_last hx hb X.K hw3 4 (dw_up_self _ _ _) rfl (i := 0) (by decide) (by decide) (by decide) d_LW_octet_8 (fun H locs hw4 => ?_)
    rw [dw_up_up] at hw4
    refine lv_goto (tgt := 15) hx hb d_LW_octet_9 (by decide) ?_
    refine lv_iconst (v := iI (0)) hx hb d_LW_octet_15 rfl ?_
    exact ct_iret hx hb hr hlk hw4 ⟨by rw [h9], ⟨by omega, by omega⟩, f1, _, rfl, ho1, hd1, fun _ => rfl⟩ (by omega) (by omega) d_LW_octet_16
