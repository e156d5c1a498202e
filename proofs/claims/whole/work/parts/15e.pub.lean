theorem dkS.clr {G : ct_G} {f f' : dw_M} {x ta sa yr dc bu dr qy qb qd : Nat} {gT gS gT' gS' : Nat → Option Nat} {c0 w0 : Int32} {T Y : List (List Int)} {B Z D : List Int} {sB sZ sD : Int} (hG : okG G) (h : dkS G f x ta sa yr dc bu dr qy qb qd gT gS c0 w0 T Y B Z D sB sZ sD) (h2 : f' ta = some (.inl (G.2.1 3, 24, .inr (.inr (.inr (.inr gT')))))) (h3 : f' sa = some (.inl (G.2.1 3, 16, .inr (.inr (.inr (.inr gS')))))) (hk : ∀ a, a ≠ ta → a ≠ sa → f' a = f a) (n2 : ∀ i, gT' i = none) (n3 : ∀ i, gS' i = none) : dkS G f' x ta sa yr dc bu dr qy qb qd gT' gS' c0 w0 [] [] B Z D sB sZ sD := by
  obtain ⟨a1, a2, a3, a4, a5, a6, a7, ⟨a8, a9, a10⟩, a11, a12⟩ := h
  have hr : ∀ {r q n : Nat} {us : List Int} {sp : Int}, rw G f r q n us sp → rw G f' r q n us sp := by
    intro r q n us sp hr
    obtain ⟨g, b1, b2, b3⟩ := hr
    refine ⟨g, ?_, ?_, b3⟩
    · rw [hk r (dw_ne b1 a2 (by simp)) (dw_ne b1 a3 (by simp))]; exact b1
    · rw [hk q (fun e => by
        subst e
        rw [a2] at b2
        exact hG.2.2.1 (congrArg Prod.fst (Sum.inl.inj (Option.some.inj b2))).symm) (fun e => by
        subst e
        rw [a3] at b2
        exact hG.2.2.1 (congrArg Prod.fst (Sum.inl.inj (Option.some.inj b2))).symm)]; exact b2
  refine ⟨by rw [hk x (dw_ne a1 a2 (by simp)) (dw_ne a1 a3 (by simp))]; exact a1, h2, h3, ?_, ⟨by simp, by simp, a5.2.2.1, fun i _ => n2 i, fun i _ => n3 i⟩, fun i hi => by simp at hi, fun i hi => by simp at hi, ⟨hr a8, hr a9, hr a10⟩, a11, a12⟩
  rw [hk dc (dw_ne a4 a2 (by simp)) (dw_ne a4 a3 (by simp))]; exact a4
theorem va_upN {g : Nat → Option Nat} {k i : Nat} (h : i ≠ k → g i = none) : va_up g k none i = none := by
  by_cases e : i = k
  · subst e; exact va_up_self _ _ _
  · rw [va_up_ne _ _ e]; exact h e
set_option maxRecDepth 100000 in
set_option maxHeartbeats 4000000 in
theorem c_DK_replace (l : Launch) (hlT : l.stackTraces = false) (G : ct_G) (f : dw_M) (sz : Nat) (x : Nat) (T Y : List (List Int)) (B Z : List Int) (hI : dkI G f x T Y B Z) (ka kb kc : Int) (hka : iR ka) (hkb : iR kb) (hkc : iR kc) : ct l y_DK_replace w_DK_replace (44) (1015) G f sz [.ref x, .int (iI ka), .int (iI kb), .int (iI kc)] (fun v f' => v = some (.int (iI (T.length : Int))) ∧ ((0 ≤ ka ∧ ka < (T.length : Int)) ∧ (0 ≤ kb ∧ kb < (T.length : Int)) ∧ (0 ≤ kc ∧ kc < (T.length : Int))) ∧ (rplc (tt T ka) (tt T kb) (tt T kc)).length ≤ 60 ∧ T.length < 24 ∧ dkI G f' x (T ++ [rplc (tt T ka) (tt T kb) (tt T kc)]) Y B Z) (fun E f' => (E = "java/lang/IllegalArgumentException" ∧ ¬ ((0 ≤ ka ∧ ka < (T.length : Int)) ∧ (0 ≤ kb ∧ kb < (T.length : Int)) ∧ (0 ≤ kc ∧ kc < (T.length : Int))) ∨ E = "java/lang/IllegalStateException" ∧ ((0 ≤ ka ∧ ka < (T.length : Int)) ∧ (0 ≤ kb ∧ kb < (T.length : Int)) ∧ (0 ≤ kc ∧ kc < (T.length : Int))) ∧ ¬ ((rplc (tt T ka) (tt T kb) (tt T kc)).length ≤ 60 ∧ T.length < 24)) ∧ dkI G f' x T Y B Z) (19) (513) := by
  refine ct_of (own := "TextDesk") (nm := "replace") (ds := "(III)I") (by decide) (Nat.le_of_ble_eq_true rfl) ?_
  intro p e s m args below meth c ls X hnm hr hlk hnx hs0 hz hw hl
  have hx := X.1
  have hb := X.2.1
  have hl : lv_has ls 9 [(0, .ref x), (1, .int (iI ka)), (2, .int (iI kb)), (3, .int (iI kc))] := hl
  have hG := X.E.ok
  obtain ⟨ta, sa, yr, dc, bu, dr, qy, qb, qd, gT, gS, c0, w0, D, sB, sZ, sD, hS⟩ := hI
  refine lv_aload_n hx hb d_DK_replace_0 rfl (lv_at hl 0 rfl) ?_
  refine lv_iload_n hx hb d_DK_replace_1 rfl (lv_at hl 1 rfl) ?_
  refine cs_DK_64 X hz hw hl.1 hS.1 (c_DK_textNumbered l hlT G f _ (ka) hka x ta sa yr dc bu dr qy qb qd gT gS c0 w0 T Y B Z D sB sZ sD hS) ⟨Nat.le_of_ble_eq_true rfl, Nat.le_of_ble_eq_true rfl⟩ ⟨by show 0 + 1 ≤ 19; omega, by show 0 + 6 ≤ 513; omega⟩ (Nat.le_of_ble_eq_true rfl) d_DK_replace_2 (fun E ce q9 f8 H locs hpx hw _ _ _ hce hcv hcl => ?_) (fun v f9 H locs hp hw hsz9 hkp9 hdm9 => ?_)
  · obtain ⟨rfl, hno, hfe⟩ := hpx
    rw [hfe] at hw
    exact ct_out hnx hlk hw (⟨Or.inl ⟨rfl, fun q => hno q.1⟩, hS.I⟩) hce hcv hcl (by omega) (by omega)
  obtain ⟨t1, rfl, hg_t1, hb_t1, hfe⟩ := hp
  rw [hfe] at hw
  have ht_t1 := hS.txt hb_t1.1 hb_t1.2 hg_t1
  have hl_t1 := ht_t1.len
  have hT_t1 := hS.2.2.2.2.1.1
  refine W.eq (g2 := F0 m 5 ls [.ref t1]) rfl ?_
  refine lv_astore (lv' := [(4, .ref t1), (0, .ref x), (1, .int (iI ka)), (2, .int (iI kb)), (3, .int (iI kc))]) hx hb d_DK_replace_5 hl (by decide) rfl (fun ls hl => ?_)
  refine lv_aload_n hx hb d_DK_replace_7 rfl (lv_at hl 1 rfl) ?_
  refine lv_iload_n hx hb d_DK_replace_8 rfl (lv_at hl 3 rfl) ?_
  refine cs_DK_64 X hz hw hl.1 hS.1 (c_DK_textNumbered l hlT G f _ (kb) hkb x ta sa yr dc bu dr qy qb qd gT gS c0 w0 T Y B Z D sB sZ sD hS) ⟨Nat.le_of_ble_eq_true rfl, Nat.le_of_ble_eq_true rfl⟩ ⟨by show 0 + 1 + 1 ≤ 19; omega, by show 0 + 6 + 6 ≤ 513; omega⟩ (Nat.le_of_ble_eq_true rfl) d_DK_replace_9 (fun E ce q9 f8 H locs hpx hw _ _ _ hce hcv hcl => ?_) (fun v f9 H locs hp hw hsz9 hkp9 hdm9 => ?_)
  · obtain ⟨rfl, hno, hfe⟩ := hpx
    rw [hfe] at hw
    exact ct_out hnx hlk hw (⟨Or.inl ⟨rfl, fun q => hno q.2.1⟩, hS.I⟩) hce hcv hcl (by omega) (by omega)
  obtain ⟨t2, rfl, hg_t2, hb_t2, hfe⟩ := hp
  rw [hfe] at hw
  have ht_t2 := hS.txt hb_t2.1 hb_t2.2 hg_t2
  have hl_t2 := ht_t2.len
  have hT_t2 := hS.2.2.2.2.1.1
  refine W.eq (g2 := F0 m 12 ls [.ref t2]) rfl ?_
  refine lv_astore (lv' := [(5, .ref t2), (4, .ref t1), (0, .ref x), (1, .int (iI ka)), (2, .int (iI kb)), (3, .int (iI kc))]) hx hb d_DK_replace_12 hl (by decide) rfl (fun ls hl => ?_)
  refine lv_aload_n hx hb d_DK_replace_14 rfl (lv_at hl 2 rfl) ?_
  refine lv_iload_n hx hb d_DK_replace_15 rfl (lv_at hl 5 rfl) ?_
  refine cs_DK_64 X hz hw hl.1 hS.1 (c_DK_textNumbered l hlT G f _ (kc) hkc x ta sa yr dc bu dr qy qb qd gT gS c0 w0 T Y B Z D sB sZ sD hS) ⟨Nat.le_of_ble_eq_true rfl, Nat.le_of_ble_eq_true rfl⟩ ⟨by show 0 + 1 + 1 + 1 ≤ 19; omega, by show 0 + 6 + 6 + 6 ≤ 513; omega⟩ (Nat.le_of_ble_eq_true rfl) d_DK_replace_16 (fun E ce q9 f8 H locs hpx hw _ _ _ hce hcv hcl => ?_) (fun v f9 H locs hp hw hsz9 hkp9 hdm9 => ?_)
  · obtain ⟨rfl, hno, hfe⟩ := hpx
    rw [hfe] at hw
    exact ct_out hnx hlk hw (⟨Or.inl ⟨rfl, fun q => hno q.2.2⟩, hS.I⟩) hce hcv hcl (by omega) (by omega)
  obtain ⟨t3, rfl, hg_t3, hb_t3, hfe⟩ := hp
  rw [hfe] at hw
  have ht_t3 := hS.txt hb_t3.1 hb_t3.2 hg_t3
  have hl_t3 := ht_t3.len
  have hT_t3 := hS.2.2.2.2.1.1
  refine W.eq (g2 := F0 m 19 ls [.ref t3]) rfl ?_
  refine lv_astore (lv' := [(6, .ref t3), (5, .ref t2), (4, .ref t1), (0, .ref x), (1, .int (iI ka)), (2, .int (iI kb)), (3, .int (iI kc))]) hx hb d_DK_replace_19 hl (by decide) rfl (fun ls hl => ?_)
  refine lv_aload_n hx hb d_DK_replace_21 rfl (lv_at hl 3 rfl) ?_
  refine gf_DK_37_DK X hw hS.1 d_DK_replace_22 ?_
  refine cs_DK_70 X hz hw hl.1 hS.2.2.2.2.2.2.2.1.2.2.choose_spec.1 (c_RW_drop l G f _ dr qd 60 D sD hS.2.2.2.2.2.2.2.1.2.2) ⟨Nat.le_of_ble_eq_true rfl, Nat.le_of_ble_eq_true rfl⟩ ⟨by show 0 + 1 + 1 + 1 + 0 ≤ 19; omega, by show 0 + 6 + 6 + 6 + 0 ≤ 513; omega⟩ (Nat.le_of_ble_eq_true rfl) d_DK_replace_25 (fun v f2 H locs hp hw hsz9 hkp9 hdm9 => ?_)
  obtain ⟨rfl, hr_f2, hk_f2⟩ := hp
  have hx_f2 := exo_row hG hS.2.2.2.2.2.2.2.1.2.2 hr_f2 (fun b h8 _ => hk_f2 b h8)
  refine W.eq (g2 := F0 m 28 ls []) rfl ?_
  have hS_f2 := hS.draft hx_f2 hr_f2
  have hp2_1 := exo_pot hx_f2 ht_t1
  have hpl_1 := pot_le f t1
  have hp2_2 := exo_pot hx_f2 ht_t2
  have hpl_2 := pot_le f t2
  have hp2_3 := exo_pot hx_f2 ht_t3
  have hpl_3 := pot_le f t3
  refine lv_iconst (v := iI (0)) hx hb d_DK_replace_28 rfl ?_
  refine lv_istore (lv' := [(7, .int (iI 0)), (6, .ref t3), (5, .ref t2), (4, .ref t1), (0, .ref x), (1, .int (iI ka)), (2, .int (iI kb)), (3, .int (iI kc))]) hx hb d_DK_replace_29 hl (by decide) rfl (fun ls hl => ?_)
  have loop : ∀ (N : Nat) (k : Int) (acc : List Int) (fu : Nat) (ce : Nat) (sl : Nat) (f1 : dw_M) (H : Heap) (locs : List Loc) (ls : Array Slot), (((tt T ka).length : Int) + 2 - k).toNat < N → 0 ≤ k → k ≤ ((tt T ka).length : Int) + 1 → ((tt T ka).length : Int) - k < (fu : Int) → rplc (tt T ka) (tt T kb) (tt T kc) = acc ++ rpl (tt T ka) (tt T kb) (tt T kc) (fu + 1) k → (∀ u ∈ acc, 0 ≤ u ∧ u < 65536) → dkS G f1 x ta sa yr dc bu dr qy qb qd gT gS c0 w0 T Y B Z (apl1 60 [] acc) sB sZ (apl2 60 [] acc 0) → tx G ka.toNat f1 t1 (tt T ka) → tx G kb.toNat f1 t2 (tt T kb) → tx G kc.toNat f1 t3 (tt T kc) → ce + 4 * (pot f1 t1 + pot f1 t2 + pot f1 t3) ≤ 15 → sl + 140 * (pot f1 t1 + pot f1 t2 + pot f1 t3) ≤ 438 → dw G.1 dk_cl (dw_A f sz) s.heap f1 H locs → lv_has ls 9 [(7, .int (iI k)), (0, .ref x), (4, .ref t1), (5, .ref t2), (6, .ref t3)] → W p l e { frames := 44, locals := 1015, cells := 19, slots := 513 } s m args below meth c H locs (ce) (sl) (vx_MQ below (ct_Q G f sz (fun v f' => v = some (.int (iI (T.length : Int))) ∧ ((0 ≤ ka ∧ ka < (T.length : Int)) ∧ (0 ≤ kb ∧ kb < (T.length : Int)) ∧ (0 ≤ kc ∧ kc < (T.length : Int))) ∧ (rplc (tt T ka) (tt T kb) (tt T kc)).length ≤ 60 ∧ T.length < 24 ∧ dkI G f' x (T ++ [rplc (tt T ka) (tt T kb) (tt T kc)]) Y B Z)) (ct_X G f sz (fun E f' => (E = "java/lang/IllegalArgumentException" ∧ ¬ ((0 ≤ ka ∧ ka < (T.length : Int)) ∧ (0 ≤ kb ∧ kb < (T.length : Int)) ∧ (0 ≤ kc ∧ kc < (T.length : Int))) ∨ E = "java/lang/IllegalStateException" ∧ ((0 ≤ ka ∧ ka < (T.length : Int)) ∧ (0 ≤ kb ∧ kb < (T.length : Int)) ∧ (0 ≤ kc ∧ kc < (T.length : Int))) ∧ ¬ ((rplc (tt T ka) (tt T kb) (tt T kc)).length ≤ 60 ∧ T.length < 24)) ∧ dkI G f' x T Y B Z)) args s (19) (513) (dw_A f sz)) (F0 m 31 ls []) := by
    intro N
    induction N with
    | zero => intros; omega
    | succ N ih =>
      intro k acc fu ce sl f1 H locs ls hN hk0 hk1 hfu hspl hacc hS1 ht1 ht2 ht3 hce hsl hw hl
      refine lv_iload hx hb d_DK_replace_31 (lv_at hl 0 rfl) ?_
      refine lv_aload hx hb d_DK_replace_33 (lv_at hl 2 rfl) ?_
      refine st_DK_77 X hz hw hl.1 ht1 ⟨Nat.le_of_ble_eq_true rfl, Nat.le_of_ble_eq_true rfl⟩ ⟨by show ce ≤ 19; omega, by show sl ≤ 513; omega⟩ (Nat.le_of_ble_eq_true rfl) d_DK_replace_35 (fun H locs hw => ?_)
      refine W.eq (g2 := F0 m 38 ls [.int (iI (((tt T ka).length : Int))), .int (iI k)]) rfl ?_
      refine di_icmp_gt (tgt := 121) hx hb d_DK_replace_38 (by decide) ⟨by omega, by omega⟩ ⟨by omega, by omega⟩ (fun bq38 => ?_) (fun bq38 => ?_)
      · have hend : rplc (tt T ka) (tt T kb) (tt T kc) = acc := by rw [hspl, rpl, if_pos (by omega), List.append_nil]
        refine lv_aload_n hx hb d_DK_replace_121 rfl (lv_at hl 1 rfl) ?_
        refine cs_DK_78 X hz hw hl.1 hS1.1 (c_DK_refuseSpilledDraft l hlT G f1 _ x ta sa yr dc bu dr qy qb qd gT gS c0 w0 T Y B Z (apl1 60 [] acc) sB sZ (apl2 60 [] acc 0) hS1 (apl2_01 (Or.inl rfl))) ⟨Nat.le_of_ble_eq_true rfl, Nat.le_of_ble_eq_true rfl⟩ ⟨by show ce + 1 ≤ 19; omega, by show sl + 6 ≤ 513; omega⟩ (Nat.le_of_ble_eq_true rfl) d_DK_replace_122 (fun E ce q9 f8 H locs hpx hw _ _ _ hce hcv hcl => ?_) (fun v f9 H locs hp hw hsz9 hkp9 hdm9 => ?_)
        · obtain ⟨rfl, hsp, hfe⟩ := hpx
          rw [hfe] at hw
          exact ct_out hnx hlk hw (⟨Or.inr ⟨rfl, ⟨hb_t1, hb_t2, hb_t3⟩, fun q => by rw [hend] at q; rw [apl2_0.mpr q.1] at hsp; cases hsp⟩, hS1.I⟩) hce hcv hcl (by omega) (by omega)
        obtain ⟨rfl, hsp, hfe⟩ := hp
        rw [hfe] at hw
        have hfit := apl2_0.mp hsp
        rw [apl1_fit (show ([] : List Int).length + acc.length ≤ 60 by simpa using hfit), List.nil_append] at hS1
        refine W.eq (g2 := F0 m 125 ls []) rfl ?_
        refine lv_aload_n hx hb d_DK_replace_125 rfl (lv_at hl 1 rfl) ?_
        refine lv_aload_n hx hb d_DK_replace_126 rfl (lv_at hl 1 rfl) ?_
        refine gf_DK_37_DK X hw hS1.1 d_DK_replace_127 ?_
        refine cs_DK_100 X hz hw hl.1 (c_DK_textOf l G f1 _ dr qd 60 acc (apl2 60 [] acc 0) (hacc) (hfit) hS1.2.2.2.2.2.2.2.1.2.2) ⟨Nat.le_of_ble_eq_true rfl, Nat.le_of_ble_eq_true rfl⟩ ⟨by show ce + 1 + 2 ≤ 19; omega, by show sl + 6 + (3 + (acc).length) ≤ 513; omega⟩ (Nat.le_of_ble_eq_true rfl) d_DK_replace_130 (fun v f2 H locs hp hw hsz9 hkp9 hdm9 => ?_)
        obtain ⟨tn, rfl, hn_tn, hlf_tn, hm_tn⟩ := hp
        have hS_f2 := hS1.more hm_tn
        refine W.eq (g2 := F0 m 133 ls [.ref tn, .ref x]) rfl ?_
        refine cs_DK_104 X hz hw hl.1 hS_f2.1 (c_DK_keepText l hlT G f2 _ tn acc x ta sa yr dc bu dr qy qb qd gT gS c0 w0 T Y B Z acc sB sZ (apl2 60 [] acc 0) hS_f2 (fun _ => hlf_tn.tx _)) ⟨Nat.le_of_ble_eq_true rfl, Nat.le_of_ble_eq_true rfl⟩ ⟨by show ce + 1 + 2 + 1 ≤ 19; omega, by show sl + 6 + (3 + (acc).length) + 6 ≤ 513; omega⟩ (Nat.le_of_ble_eq_true rfl) d_DK_replace_133 (fun E ce q9 f8 H locs hpx hw _ _ _ hce hcv hcl => ?_) (fun v f3 H locs hp hw hsz9 hkp9 hdm9 => ?_)
        · obtain ⟨rfl, hfull, hfe⟩ := hpx
          rw [hfe] at hw
          exact ct_out hnx hlk hw (⟨Or.inr ⟨rfl, ⟨hb_t1, hb_t2, hb_t3⟩, fun q => by omega⟩, hS_f2.I⟩) hce hcv hcl (by omega) (by omega)
        obtain ⟨rfl, hTl, hS_f3⟩ := hp
        refine W.eq (g2 := F0 m 136 ls [.int (iI ((T.length : Int)))]) rfl ?_
        exact ct_iret hx hb hr  hlk hw (⟨rfl, ⟨hb_t1, hb_t2, hb_t3⟩, by rw [hend]; exact hfit, hTl, by rw [hend]; exact hS_f3.I⟩) (by omega) (by omega) d_DK_replace_136
      · refine lv_aload hx hb d_DK_replace_41 (lv_at hl 2 rfl) ?_
        refine lv_aload hx hb d_DK_replace_43 (lv_at hl 3 rfl) ?_
        refine lv_iload hx hb d_DK_replace_45 (lv_at hl 0 rfl) ?_
        have hscl := sc_le (pot f1 t1 + pot f1 t2) (tt T ka) (tt T kb) k
        refine cs_DK_118 X hz hw hl.1 (c_DK_standsAt l G f1 _ ka.toNat kb.toNat t1 t2 (tt T ka) (tt T kb) k (by omega) (by omega) (by omega) (by omega) ht1 ht2) ⟨Nat.le_of_ble_eq_true rfl, Nat.le_of_ble_eq_true rfl⟩ ⟨by show ce + 4 * sc (pot f1 t1 + pot f1 t2) (tt T ka) (tt T kb) k ≤ 19; omega, by show sl + 140 * sc (pot f1 t1 + pot f1 t2) (tt T ka) (tt T kb) k ≤ 513; omega⟩ (Nat.le_of_ble_eq_true rfl) d_DK_replace_47 (fun v f2 H locs hp hw hsz9 hkp9 hdm9 => ?_)
        obtain ⟨rfl, hx2, hpc⟩ := hp
        have hS2 := hS1.read hx2
        have hq1 := hx2.2.1 _ _ _ ht1
        have hq2 := hx2.2.1 _ _ _ ht2
        have hq3 := hx2.2.1 _ _ _ ht3
        have hpq3 := exo_pot hx2 ht3
        have hb01 := b2_01 (sta (tt T ka) (tt T kb) k)
        refine W.eq (g2 := F0 m 50 ls [.int (iI (b2 (sta (tt T ka) (tt T kb) k)))]) rfl ?_
        refine lv_istore (lv' := [(8, .int (iI (b2 (sta (tt T ka) (tt T kb) k)))), (7, .int (iI k)), (0, .ref x), (4, .ref t1), (5, .ref t2), (6, .ref t3)]) hx hb d_DK_replace_50 hl (by decide) rfl (fun ls hl => ?_)
        refine lv_iload hx hb d_DK_replace_52 (lv_at hl 0 rfl) ?_
        refine di_if_eq (tgt := 72) hx hb d_DK_replace_54 (by decide) ⟨by omega, by omega⟩ (fun bq54 => ?_) (fun bq54 => ?_)
        · refine lv_iload hx hb d_DK_replace_72 (lv_at hl 0 rfl) ?_
          refine di_if_eq (tgt := 100) hx hb d_DK_replace_74 (by decide) ⟨by omega, by omega⟩ (fun bq74 => ?_) (fun bq74 => ?_)
          · refine lv_aload_n hx hb d_DK_replace_100 rfl (lv_at hl 2 rfl) ?_
            refine gf_DK_37_DK X hw hS2.1 d_DK_replace_101 ?_
            refine lv_aload hx hb d_DK_replace_104 (lv_at hl 3 rfl) ?_
            refine lv_iload hx hb d_DK_replace_106 (lv_at hl 1 rfl) ?_
            refine lv_iload hx hb d_DK_replace_108 (lv_at hl 1 rfl) ?_
            refine lv_iconst (v := iI (1)) hx hb d_DK_replace_110 rfl ?_
            refine di_add hx hb d_DK_replace_111 ?_
            have hrc_f4 := rc_le (pot f2 t1) (sbl (tt T ka) (k) (k + 1))
            refine cs_DK_73 X hz hw hl.1 hS2.2.2.2.2.2.2.2.1.2.2.choose_spec.1 (c_RW_appendRange l G f2 _ dr qd 60 t1 (apl1 60 [] acc) (tt T ka) (apl2 60 [] acc 0) (k) (k + 1) ⟨by omega, by omega⟩ ⟨by omega, by omega⟩ hS2.2.2.2.2.2.2.2.1.2.2 (Or.inl ⟨ka.toNat, by omega, hq1⟩)) ⟨Nat.le_of_ble_eq_true rfl, Nat.le_of_ble_eq_true rfl⟩ ⟨by show ce + 4 * sc (pot f1 t1 + pot f1 t2) (tt T ka) (tt T kb) k + 4 * rc (pot f2 t1) (sbl (tt T ka) (k) (k + 1)) ≤ 19; omega, by show sl + 140 * sc (pot f1 t1 + pot f1 t2) (tt T ka) (tt T kb) k + 140 * rc (pot f2 t1) (sbl (tt T ka) (k) (k + 1)) ≤ 513; omega⟩ (Nat.le_of_ble_eq_true rfl) d_DK_replace_112 (fun v f4 H locs hp hw hsz9 hkp9 hdm9 => ?_)
            obtain ⟨rfl, hr_f4, hx_f4, hp_f4⟩ := hp
            refine W.eq (g2 := F0 m 115 ls []) rfl ?_
            have hS_f4 := hS2.draft hx_f4 hr_f4
            rw [apl_app1 (by simp), apl_app2 (by simp)] at hS_f4
            have hr1 := hx_f4.2.1 _ _ _ hq1
            have hr2 := hx_f4.2.1 _ _ _ hq2
            have hr3 := hx_f4.2.1 _ _ _ hq3
            have hpr2 := exo_pot hx_f4 hq2
            have hpr3 := exo_pot hx_f4 hq3
            obtain ⟨fu2, rfl⟩ : ∃ z, fu = z + 1 := ⟨fu - 1, by omega⟩
            refine lv_iinc (v := iI (k + 1)) (lv' := [(7, .int (iI (k + 1))), (8, .int (iI (b2 (sta (tt T ka) (tt T kb) k)))), (0, .ref x), (4, .ref t1), (5, .ref t2), (6, .ref t3)]) hx hb d_DK_replace_115 hl (k := 1) rfl (iI_add _ _) (by decide) rfl (fun ls hl => ?_)
            refine lv_goto (tgt := 31) hx hb d_DK_replace_118 (by decide) ?_
            exact ih (k + 1) (acc ++ sbl (tt T ka) k (k + 1)) (fu2) (ce + 4 * sc (pot f1 t1 + pot f1 t2) (tt T ka) (tt T kb) k + 4 * rc (pot f2 t1) (sbl (tt T ka) (k) (k + 1))) (sl + 140 * sc (pot f1 t1 + pot f1 t2) (tt T ka) (tt T kb) k + 140 * rc (pot f2 t1) (sbl (tt T ka) (k) (k + 1))) _ _ _ _ (by omega) (by omega) (by omega) (by omega) (by rw [hspl, rpl, if_neg (by omega), if_neg (by rw [b2_0 bq54]; decide), List.append_assoc]) (mem_app (hacc) (fun u h => ht1.rng u (sbl_mem h))) (hS_f4) (hr1) (hr2) (hr3) (by omega) (by omega) hw (lv_sub hl [0, 2, 3, 4, 5] rfl)
          · exact absurd bq54 bq74
        · refine lv_aload_n hx hb d_DK_replace_57 rfl (lv_at hl 2 rfl) ?_
          refine gf_DK_37_DK X hw hS2.1 d_DK_replace_58 ?_
          refine lv_aload hx hb d_DK_replace_61 (lv_at hl 5 rfl) ?_
          refine lv_iconst (v := iI (0)) hx hb d_DK_replace_63 rfl ?_
          refine lv_aload hx hb d_DK_replace_64 (lv_at hl 5 rfl) ?_
          refine st_DK_77 X hz hw hl.1 hq3 ⟨Nat.le_of_ble_eq_true rfl, Nat.le_of_ble_eq_true rfl⟩ ⟨by show ce + 4 * sc (pot f1 t1 + pot f1 t2) (tt T ka) (tt T kb) k ≤ 19; omega, by show sl + 140 * sc (pot f1 t1 + pot f1 t2) (tt T ka) (tt T kb) k ≤ 513; omega⟩ (Nat.le_of_ble_eq_true rfl) d_DK_replace_66 (fun H locs hw => ?_)
          refine W.eq (g2 := F0 m 69 ls [.int (iI (((tt T kc).length : Int))), .int (iI 0), .ref t3, .ref dr]) rfl ?_
          have hrc_f3 := rc_le (pot f2 t3) (sbl (tt T kc) (0) (((tt T kc).length : Int)))
          refine cs_DK_73 X hz hw hl.1 hS2.2.2.2.2.2.2.2.1.2.2.choose_spec.1 (c_RW_appendRange l G f2 _ dr qd 60 t3 (apl1 60 [] acc) (tt T kc) (apl2 60 [] acc 0) (0) (((tt T kc).length : Int)) ⟨by omega, by omega⟩ ⟨by omega, by omega⟩ hS2.2.2.2.2.2.2.2.1.2.2 (Or.inl ⟨kc.toNat, by omega, hq3⟩)) ⟨Nat.le_of_ble_eq_true rfl, Nat.le_of_ble_eq_true rfl⟩ ⟨by show ce + 4 * sc (pot f1 t1 + pot f1 t2) (tt T ka) (tt T kb) k + 4 * rc (pot f2 t3) (sbl (tt T kc) (0) (((tt T kc).length : Int))) ≤ 19; omega, by show sl + 140 * sc (pot f1 t1 + pot f1 t2) (tt T ka) (tt T kb) k + 140 * rc (pot f2 t3) (sbl (tt T kc) (0) (((tt T kc).length : Int))) ≤ 513; omega⟩ (Nat.le_of_ble_eq_true rfl) d_DK_replace_69 (fun v f3 H locs hp hw hsz9 hkp9 hdm9 => ?_)
          obtain ⟨rfl, hr_f3, hx_f3, hp_f3⟩ := hp
          refine W.eq (g2 := F0 m 72 ls []) rfl ?_
          have hS_f3 := hS2.draft hx_f3 hr_f3
          rw [sbl_all, apl_app1 (by simp), apl_app2 (by simp)] at hS_f3
          have hq1b := hx_f3.2.1 _ _ _ hq1
          have hq2b := hx_f3.2.1 _ _ _ hq2
          have hq3b := hx_f3.2.1 _ _ _ hq3
          have hpv1 := exo_pot hx_f3 hq1
          have hpv2 := exo_pot hx_f3 hq2
          refine lv_iload hx hb d_DK_replace_72 (lv_at hl 0 rfl) ?_
          refine di_if_eq (tgt := 100) hx hb d_DK_replace_74 (by decide) ⟨by omega, by omega⟩ (fun bq74 => ?_) (fun bq74 => ?_)
          · exact absurd bq74 bq54
          · refine lv_aload hx hb d_DK_replace_77 (lv_at hl 4 rfl) ?_
            refine st_DK_77 X hz hw hl.1 hq2b ⟨Nat.le_of_ble_eq_true rfl, Nat.le_of_ble_eq_true rfl⟩ ⟨by show ce + 4 * sc (pot f1 t1 + pot f1 t2) (tt T ka) (tt T kb) k + 4 * rc (pot f2 t3) (sbl (tt T kc) (0) (((tt T kc).length : Int))) ≤ 19; omega, by show sl + 140 * sc (pot f1 t1 + pot f1 t2) (tt T ka) (tt T kb) k + 140 * rc (pot f2 t3) (sbl (tt T kc) (0) (((tt T kc).length : Int))) ≤ 513; omega⟩ (Nat.le_of_ble_eq_true rfl) d_DK_replace_79 (fun H locs hw => ?_)
            refine W.eq (g2 := F0 m 82 ls [.int (iI (((tt T kb).length : Int)))]) rfl ?_
            refine di_if_le (tgt := 100) hx hb d_DK_replace_82 (by decide) ⟨by omega, by omega⟩ (fun bq82 => ?_) (fun bq82 => ?_)
            · refine lv_aload_n hx hb d_DK_replace_100 rfl (lv_at hl 2 rfl) ?_
              refine gf_DK_37_DK X hw hS_f3.1 d_DK_replace_101 ?_
              refine lv_aload hx hb d_DK_replace_104 (lv_at hl 3 rfl) ?_
              refine lv_iload hx hb d_DK_replace_106 (lv_at hl 1 rfl) ?_
              refine lv_iload hx hb d_DK_replace_108 (lv_at hl 1 rfl) ?_
              refine lv_iconst (v := iI (1)) hx hb d_DK_replace_110 rfl ?_
              refine di_add hx hb d_DK_replace_111 ?_
              have hrc_f4 := rc_le (pot f3 t1) (sbl (tt T ka) (k) (k + 1))
              refine cs_DK_73 X hz hw hl.1 hS_f3.2.2.2.2.2.2.2.1.2.2.choose_spec.1 (c_RW_appendRange l G f3 _ dr qd 60 t1 (apl1 60 [] (acc ++ (tt T kc))) (tt T ka) (apl2 60 [] (acc ++ (tt T kc)) 0) (k) (k + 1) ⟨by omega, by omega⟩ ⟨by omega, by omega⟩ hS_f3.2.2.2.2.2.2.2.1.2.2 (Or.inl ⟨ka.toNat, by omega, hq1b⟩)) ⟨Nat.le_of_ble_eq_true rfl, Nat.le_of_ble_eq_true rfl⟩ ⟨by show ce + 4 * sc (pot f1 t1 + pot f1 t2) (tt T ka) (tt T kb) k + 4 * rc (pot f2 t3) (sbl (tt T kc) (0) (((tt T kc).length : Int))) + 4 * rc (pot f3 t1) (sbl (tt T ka) (k) (k + 1)) ≤ 19; omega, by show sl + 140 * sc (pot f1 t1 + pot f1 t2) (tt T ka) (tt T kb) k + 140 * rc (pot f2 t3) (sbl (tt T kc) (0) (((tt T kc).length : Int))) + 140 * rc (pot f3 t1) (sbl (tt T ka) (k) (k + 1)) ≤ 513; omega⟩ (Nat.le_of_ble_eq_true rfl) d_DK_replace_112 (fun v f4 H locs hp hw hsz9 hkp9 hdm9 => ?_)
              obtain ⟨rfl, hr_f4, hx_f4, hp_f4⟩ := hp
              refine W.eq (g2 := F0 m 115 ls []) rfl ?_
              have hS_f4 := hS_f3.draft hx_f4 hr_f4
              rw [apl_app1 (by simp), apl_app2 (by simp)] at hS_f4
              have hr1 := hx_f4.2.1 _ _ _ hq1b
              have hr2 := hx_f4.2.1 _ _ _ hq2b
              have hr3 := hx_f4.2.1 _ _ _ hq3b
              have hpr2 := exo_pot hx_f4 hq2b
              have hpr3 := exo_pot hx_f4 hq3b
              obtain ⟨fu2, rfl⟩ : ∃ z, fu = z + 1 := ⟨fu - 1, by omega⟩
              refine lv_iinc (v := iI (k + 1)) (lv' := [(7, .int (iI (k + 1))), (8, .int (iI (b2 (sta (tt T ka) (tt T kb) k)))), (0, .ref x), (4, .ref t1), (5, .ref t2), (6, .ref t3)]) hx hb d_DK_replace_115 hl (k := 1) rfl (iI_add _ _) (by decide) rfl (fun ls hl => ?_)
              refine lv_goto (tgt := 31) hx hb d_DK_replace_118 (by decide) ?_
              exact ih (k + 1) (acc ++ (tt T kc) ++ sbl (tt T ka) k (k + 1)) (fu2) (ce + 4 * sc (pot f1 t1 + pot f1 t2) (tt T ka) (tt T kb) k + 4 * rc (pot f2 t3) (sbl (tt T kc) (0) (((tt T kc).length : Int))) + 4 * rc (pot f3 t1) (sbl (tt T ka) (k) (k + 1))) (sl + 140 * sc (pot f1 t1 + pot f1 t2) (tt T ka) (tt T kb) k + 140 * rc (pot f2 t3) (sbl (tt T kc) (0) (((tt T kc).length : Int))) + 140 * rc (pot f3 t1) (sbl (tt T ka) (k) (k + 1))) _ _ _ _ (by omega) (by omega) (by omega) (by omega) (by rw [hspl, rpl, if_neg (by omega), if_pos (b2_1 bq54), if_neg (by omega)]; simp only [List.append_assoc]) (mem_app (mem_app hacc ht3.rng) (fun u h => ht1.rng u (sbl_mem h))) (hS_f4) (hr1) (hr2) (hr3) (by omega) (by omega) hw (lv_sub hl [0, 2, 3, 4, 5] rfl)
            · refine lv_iload hx hb d_DK_replace_85 (lv_at hl 1 rfl) ?_
              refine lv_aload hx hb d_DK_replace_87 (lv_at hl 4 rfl) ?_
              refine st_DK_77 X hz hw hl.1 hq2b ⟨Nat.le_of_ble_eq_true rfl, Nat.le_of_ble_eq_true rfl⟩ ⟨by show ce + 4 * sc (pot f1 t1 + pot f1 t2) (tt T ka) (tt T kb) k + 4 * rc (pot f2 t3) (sbl (tt T kc) (0) (((tt T kc).length : Int))) ≤ 19; omega, by show sl + 140 * sc (pot f1 t1 + pot f1 t2) (tt T ka) (tt T kb) k + 140 * rc (pot f2 t3) (sbl (tt T kc) (0) (((tt T kc).length : Int))) ≤ 513; omega⟩ (Nat.le_of_ble_eq_true rfl) d_DK_replace_89 (fun H locs hw => ?_)
              refine W.eq (g2 := F0 m 92 ls [.int (iI (((tt T kb).length : Int))), .int (iI k)]) rfl ?_
              obtain ⟨fu2, rfl⟩ : ∃ z, fu = z + 1 := ⟨fu - 1, by omega⟩
              have hsta := b2_1 bq54
              have hst2 := of_decide_eq_true hsta
              refine lv_iconst (v := iI (1)) hx hb d_DK_replace_92 rfl ?_
              refine di_sub hx hb d_DK_replace_93 ?_
              refine di_add hx hb d_DK_replace_94 ?_
              refine lv_istore (lv' := [(7, .int (iI (k + (((tt T kb).length : Int) - 1)))), (8, .int (iI (b2 (sta (tt T ka) (tt T kb) k)))), (0, .ref x), (4, .ref t1), (5, .ref t2), (6, .ref t3)]) hx hb d_DK_replace_95 hl (by decide) rfl (fun ls hl => ?_)
              refine lv_goto (tgt := 115) hx hb d_DK_replace_97 (by decide) ?_
              refine lv_iinc (v := iI (k + (((tt T kb).length : Int) - 1) + 1)) (lv' := [(7, .int (iI (k + (((tt T kb).length : Int) - 1) + 1))), (8, .int (iI (b2 (sta (tt T ka) (tt T kb) k)))), (0, .ref x), (4, .ref t1), (5, .ref t2), (6, .ref t3)]) hx hb d_DK_replace_115 hl (k := 0) rfl (iI_add _ _) (by decide) rfl (fun ls hl => ?_)
              refine lv_goto (tgt := 31) hx hb d_DK_replace_118 (by decide) ?_
              exact ih (k + (((tt T kb).length : Int) - 1) + 1) (acc ++ (tt T kc)) (fu2) (ce + 4 * sc (pot f1 t1 + pot f1 t2) (tt T ka) (tt T kb) k + 4 * rc (pot f2 t3) (sbl (tt T kc) (0) (((tt T kc).length : Int)))) (sl + 140 * sc (pot f1 t1 + pot f1 t2) (tt T ka) (tt T kb) k + 140 * rc (pot f2 t3) (sbl (tt T kc) (0) (((tt T kc).length : Int)))) _ _ _ _ (by omega) (by omega) (by omega) (by omega) (by rw [hspl, rpl, if_neg (by omega), if_pos hsta, if_pos (by omega), List.append_assoc, show k + (((tt T kb).length : Int) - 1) + 1 = k + ((tt T kb).length : Int) by omega]) (mem_app hacc ht3.rng) (hS_f3) (hq1b) (hq2b) (hq3b) (by omega) (by omega) hw (lv_sub hl [0, 2, 3, 4, 5] rfl)
  exact loop ((((tt T ka).length : Int) + 2 - 0).toNat + 1) (0) ([]) ((tt T ka).length + 1) (3) (18) _ _ _ _ (by omega) (by omega) (by omega) (by omega) (rfl) (mem_nil) (by rw [apl1_nil, apl2_nil (by simp)]; exact hS_f2) (hx_f2.2.1 _ _ _ ht_t1) (hx_f2.2.1 _ _ _ ht_t2) (hx_f2.2.1 _ _ _ ht_t3) (by omega) (by omega) hw (lv_sub hl [0, 4, 3, 2, 1] rfl)
set_option maxRecDepth 100000 in
set_option maxHeartbeats 4000000 in
theorem c_DK_clear (l : Launch) (G : ct_G) (f : dw_M) (sz : Nat) (x : Nat) (T Y : List (List Int)) (B Z : List Int) (hI : dkI G f x T Y B Z) : cn l y_DK_clear w_DK_clear (0) (0) G f sz [.ref x] (fun v f' => v = none ∧ dkI G f' x [] [] B Z) (0) (0) := by
  refine cn_of (own := "TextDesk") (nm := "clear") (ds := "()V") (by decide) (Nat.le_of_ble_eq_true rfl) ?_
  intro p e s m args below meth c ls X hnm hr hlk hs0 hz hw hl
  have hx := X.1
  have hb := X.2.1
  have hl : lv_has ls 2 [(0, .ref x)] := hl
  have hG := X.E.ok
  obtain ⟨ta, sa, yr, dc, bu, dr, qy, qb, qd, gT, gS, c0, w0, D, sB, sZ, sD, hS⟩ := hI
  refine lv_iconst (v := iI (0)) hx hb d_DK_clear_0 rfl ?_
  refine lv_istore_n (lv' := [(1, .int (iI 0)), (0, .ref x)]) hx hb d_DK_clear_1 rfl hl (by decide) rfl (fun ls hl => ?_)
  have hT := hS.2.2.2.2.1.1
  have hY := hS.2.2.2.2.1.2.1
  have loop : ∀ (N : Nat) (k : Int) (g1 : Nat → Option Nat) (g2 : Nat → Option Nat) (f1 : dw_M) (H : Heap) (locs : List Loc) (ls : Array Slot), ((24 : Int) - k).toNat < N → 0 ≤ k → k ≤ 24 → f1 x = some (.inr (5, [.ref ta, .ref sa, .ref yr, .ref dc, .ref bu, .ref dr])) → f1 ta = some (.inl (G.2.1 3, 24, .inr (.inr (.inr (.inr g1))))) → f1 sa = some (.inl (G.2.1 3, 16, .inr (.inr (.inr (.inr g2))))) → (∀ a, a ≠ ta → a ≠ sa → f1 a = f a) → (∀ i : Nat, ((i : Int) < k ∨ T.length ≤ i) → g1 i = none) → (∀ i : Nat, Y.length ≤ i → g2 i = none) → dw G.1 dk_cl (dw_A f sz) s.heap f1 H locs → lv_has ls 2 [(1, .int (iI k)), (0, .ref x)] → W p l e { frames := 0, locals := 0, cells := 0, slots := 0 } s m args below meth c H locs (0) (0) (MQ below (ct_Q G f sz (fun v f' => v = none ∧ dkI G f' x [] [] B Z)) args s (0) (0) (dw_A f sz)) (F0 m 2 ls []) := by
    intro N
    induction N with
    | zero => intros; omega
    | succ N ih =>
      intro k g1 g2 f1 H locs ls hN hk0 hk1 hf1x hf1t hf1s hkp hg1 hg2 hw hl
      refine lv_iload_n hx hb d_DK_clear_2 rfl (lv_at hl 0 rfl) ?_
      refine lv_aload_n hx hb d_DK_clear_3 rfl (lv_at hl 1 rfl) ?_
      refine gf_DK_11_DK X hw hf1x d_DK_clear_4 ?_
      refine dw_alen hx hb X.K hw 3 hf1t rfl d_DK_clear_7 ?_
      refine di_icmp_ge (tgt := 24) hx hb d_DK_clear_8 (by decide) ⟨by omega, by omega⟩ ⟨by omega, by omega⟩ (fun bq8 => ?_) (fun bq8 => ?_)
      · refine lv_iconst (v := iI (0)) hx hb d_DK_clear_24 rfl ?_
        refine lv_istore_n (lv' := [(1, .int (iI 0)), (0, .ref x)]) hx hb d_DK_clear_25 rfl hl (by decide) rfl (fun ls hl => ?_)
        have loop2 : ∀ (N : Nat) (k : Int) (g1 : Nat → Option Nat) (g2 : Nat → Option Nat) (f1 : dw_M) (H : Heap) (locs : List Loc) (ls : Array Slot), ((16 : Int) - k).toNat < N → 0 ≤ k → k ≤ 16 → f1 x = some (.inr (5, [.ref ta, .ref sa, .ref yr, .ref dc, .ref bu, .ref dr])) → f1 ta = some (.inl (G.2.1 3, 24, .inr (.inr (.inr (.inr g1))))) → f1 sa = some (.inl (G.2.1 3, 16, .inr (.inr (.inr (.inr g2))))) → (∀ a, a ≠ ta → a ≠ sa → f1 a = f a) → (∀ i : Nat, g1 i = none) → (∀ i : Nat, ((i : Int) < k ∨ Y.length ≤ i) → g2 i = none) → dw G.1 dk_cl (dw_A f sz) s.heap f1 H locs → lv_has ls 2 [(1, .int (iI k)), (0, .ref x)] → W p l e { frames := 0, locals := 0, cells := 0, slots := 0 } s m args below meth c H locs (0) (0) (MQ below (ct_Q G f sz (fun v f' => v = none ∧ dkI G f' x [] [] B Z)) args s (0) (0) (dw_A f sz)) (F0 m 26 ls []) := by
          intro N
          induction N with
          | zero => intros; omega
          | succ N ih =>
            intro k g1 g2 f1 H locs ls hN hk0 hk1 hf1x hf1t hf1s hkp hg1 hg2 hw hl
            refine lv_iload_n hx hb d_DK_clear_26 rfl (lv_at hl 0 rfl) ?_
            refine lv_aload_n hx hb d_DK_clear_27 rfl (lv_at hl 1 rfl) ?_
            refine gf_DK_15_DK X hw hf1x d_DK_clear_28 ?_
            refine dw_alen hx hb X.K hw 3 hf1s rfl d_DK_clear_31 ?_
            refine di_icmp_ge (tgt := 48) hx hb d_DK_clear_32 (by decide) ⟨by omega, by omega⟩ ⟨by omega, by omega⟩ (fun bq32 => ?_) (fun bq32 => ?_)
            · exact cn_vret hx hb hr hlk hw  (⟨rfl, (hS.clr hG hf1t hf1s hkp hg1 (fun i => hg2 i (by omega))).I⟩) (Nat.le_refl _) (Nat.le_refl _) d_DK_clear_48
            · refine lv_aload_n hx hb d_DK_clear_35 rfl (lv_at hl 1 rfl) ?_
              refine gf_DK_15_DK X hw hf1x d_DK_clear_36 ?_
              refine lv_iload_n hx hb d_DK_clear_39 rfl (lv_at hl 0 rfl) ?_
              refine lv_null hx hb d_DK_clear_40 ?_
              refine dw_aastN hx hb X.K hw 3 hf1s rfl (by omega) (by omega) (by omega) d_DK_clear_41 (fun H locs hw => ?_)
              obtain ⟨f5, e_f5⟩ : ∃ g9 : dw_M, g9 = dw_up f1 sa (.inl (G.2.1 3, 16, .inr (.inr (.inr (.inr (va_up g2 k.toNat none)))))) := ⟨_, rfl⟩
              rw [← e_f5] at hw
              have k_f5_x : f5 x = some (.inr (5, [.ref ta, .ref sa, .ref yr, .ref dc, .ref bu, .ref dr])) := by rw [e_f5]; exact dw_keep hf1x (dw_ne hf1x hf1s (by simp))
              have k_f5_ta : f5 ta = some (.inl (G.2.1 3, 24, .inr (.inr (.inr (.inr g1))))) := by rw [e_f5]; exact dw_keep hf1t (hS.2.2.2.2.1.2.2.1)
              have k_f5_sa : f5 sa = some (.inl (G.2.1 3, 16, .inr (.inr (.inr (.inr (va_up g2 k.toNat none)))))) := by rw [e_f5]; exact dw_up_self _ _ _
              refine lv_iinc (v := iI (k + 1)) (lv' := [(1, .int (iI (k + 1))), (0, .ref x)]) hx hb d_DK_clear_42 hl (k := 0) rfl (iI_add _ _) (by decide) rfl (fun ls hl => ?_)
              refine lv_goto (tgt := 26) hx hb d_DK_clear_45 (by decide) ?_
              exact ih (k + 1) (g1) (va_up g2 k.toNat none) _ _ _ _ (by omega) (by omega) (by omega) (k_f5_x) (k_f5_ta) (k_f5_sa) (fun a h8 h9 => by rw [e_f5, dw_up_ne _ _ h9]; exact hkp a h8 h9) (hg1) (fun i hi => va_upN (fun e => hg2 i (by omega))) hw (lv_sub hl [0, 1] rfl)
        exact loop2 (((16 : Int) - 0).toNat + 1) (0) (g1) (g2) _ _ _ _ (by omega) (by omega) (by omega) (hf1x) (hf1t) (hf1s) (hkp) (fun i => hg1 i (by omega)) (fun i hi => hg2 i (by omega)) hw (lv_sub hl [0, 1] rfl)
      · refine lv_aload_n hx hb d_DK_clear_11 rfl (lv_at hl 1 rfl) ?_
        refine gf_DK_11_DK X hw hf1x d_DK_clear_12 ?_
        refine lv_iload_n hx hb d_DK_clear_15 rfl (lv_at hl 0 rfl) ?_
        refine lv_null hx hb d_DK_clear_16 ?_
        refine dw_aastN hx hb X.K hw 3 hf1t rfl (by omega) (by omega) (by omega) d_DK_clear_17 (fun H locs hw => ?_)
        obtain ⟨f3, e_f3⟩ : ∃ g9 : dw_M, g9 = dw_up f1 ta (.inl (G.2.1 3, 24, .inr (.inr (.inr (.inr (va_up g1 k.toNat none)))))) := ⟨_, rfl⟩
        rw [← e_f3] at hw
        have k_f3_x : f3 x = some (.inr (5, [.ref ta, .ref sa, .ref yr, .ref dc, .ref bu, .ref dr])) := by rw [e_f3]; exact dw_keep hf1x (dw_ne hf1x hf1t (by simp))
        have k_f3_sa : f3 sa = some (.inl (G.2.1 3, 16, .inr (.inr (.inr (.inr g2))))) := by rw [e_f3]; exact dw_keep hf1s ((fun q => hS.2.2.2.2.1.2.2.1 q.symm))
        have k_f3_ta : f3 ta = some (.inl (G.2.1 3, 24, .inr (.inr (.inr (.inr (va_up g1 k.toNat none)))))) := by rw [e_f3]; exact dw_up_self _ _ _
        refine lv_iinc (v := iI (k + 1)) (lv' := [(1, .int (iI (k + 1))), (0, .ref x)]) hx hb d_DK_clear_18 hl (k := 0) rfl (iI_add _ _) (by decide) rfl (fun ls hl => ?_)
        refine lv_goto (tgt := 2) hx hb d_DK_clear_21 (by decide) ?_
        exact ih (k + 1) (va_up g1 k.toNat none) (g2) _ _ _ _ (by omega) (by omega) (by omega) (k_f3_x) (k_f3_ta) (k_f3_sa) (fun a h8 h9 => by rw [e_f3, dw_up_ne _ _ h8]; exact hkp a h8 h9) (fun i hi => va_upN (fun e => hg1 i (by omega))) (hg2) hw (lv_sub hl [0, 1] rfl)
  exact loop (((24 : Int) - 0).toNat + 1) (0) (gT) (gS) _ _ _ _ (by omega) (by omega) (by omega) (hS.1) (hS.2.1) (hS.2.2.1) (fun a _ _ => rfl) (fun i hi => hS.2.2.2.2.1.2.2.2.1 i (by omega)) (hS.2.2.2.2.1.2.2.2.2) hw (lv_sub hl [0, 1] rfl)
