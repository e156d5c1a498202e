theorem dif_rng {a b : List Int} (ha : ∀ u ∈ a, 0 ≤ u ∧ u < 65536) (hb : ∀ u ∈ b, 0 ≤ u ∧ u < 65536) (la : a.length ≤ 60) (lb : b.length ≤ 60) : -65536 < dif a b ∧ dif a b < 65536 := by
  induction a generalizing b with
  | nil => cases b <;> simp [dif] <;> simp at lb <;> omega
  | cons x a ih =>
    cases b with
    | nil => simp [dif] at la ⊢; omega
    | cons y b =>
      have hx := ha x List.mem_cons_self
      have hy := hb y List.mem_cons_self
      unfold dif
      split
      · exact ih (fun u h => ha u (List.mem_cons_of_mem _ h)) (fun u h => hb u (List.mem_cons_of_mem _ h)) (by simp at la; omega) (by simp at lb; omega)
      · omega
theorem dkS.sym {G : ct_G} {f f' : dw_M} {x ta sa yr dc bu dr qy qb qd : Nat} {gT gS : Nat → Option Nat} {c0 w0 : Int32} {T Y : List (List Int)} {B Z D : List Int} {sB sZ sD : Int} {t : Nat} {us : List Int} (hG : okG G) (h : dkS G f x ta sa yr dc bu dr qy qb qd gT gS c0 w0 T Y B Z D sB sZ sD) (hY : Y.length < 16) (ht : tx G 24 f t us) (h2 : f' sa = some (.inl (G.2.1 3, 16, .inr (.inr (.inr (.inr (va_up gS Y.length (some t)))))))) (hk : ∀ a, a ≠ sa → f' a = f a) : dkS G f' x ta sa yr dc bu dr qy qb qd gT (va_up gS Y.length (some t)) c0 w0 T (Y ++ [us]) B Z D sB sZ sD := by
  obtain ⟨a1, a2, a3, a4, a5, a6, a7, ⟨a8, a9, a10⟩, a11, a12⟩ := h
  have hag : ∀ a z, f a = some z → tcl G z → f' a = some z := by
    intro a z ha hz
    rw [hk a (fun e => ?_)]
    · exact ha
    · subst e
      rw [a3] at ha
      cases ha
      rcases hz with ⟨i, fs, e, e1, e2⟩ | ⟨z, e⟩ | ⟨z, e⟩
      · cases e
      · exact hG.2.2.2.1 (congrArg Prod.fst (Sum.inl.inj e))
      · exact hG.2.2.2.2 (congrArg Prod.fst (Sum.inl.inj e))
  have hr : ∀ {r q n : Nat} {us : List Int} {sp : Int}, rw G f r q n us sp → rw G f' r q n us sp := by
    intro r q n us sp hr
    obtain ⟨g, b1, b2, b3⟩ := hr
    refine ⟨g, ?_, ?_, b3⟩
    · rw [hk r (dw_ne b1 a3 (by simp))]; exact b1
    · rw [hk q (fun e => by
        subst e
        rw [a3] at b2
        exact hG.2.2.1 (congrArg Prod.fst (Sum.inl.inj (Option.some.inj b2))).symm)]; exact b2
  refine ⟨by rw [hk x (dw_ne a1 a3 (by simp))]; exact a1, ?_, h2, ?_, ⟨a5.1, by simp; omega, a5.2.2.1, a5.2.2.2.1, fun i hi => ?_⟩, fun i hi => ?_, fun i hi => ?_, ⟨hr a8, hr a9, hr a10⟩, a11, a12⟩
  · rw [hk ta a5.2.2.1]; exact a2
  · rw [hk dc (dw_ne a4 a3 (by simp))]; exact a4
  · have hi2 : Y.length + 1 ≤ i := by simpa using hi
    rw [va_up_ne _ _ (show i ≠ Y.length by omega)]
    exact a5.2.2.2.2 i (by omega)
  · obtain ⟨t', b1, b2⟩ := a6 i hi
    exact ⟨t', b1, tx.agree hag b2⟩
  · by_cases e : i = Y.length
    · subst e
      refine ⟨t, va_up_self _ _ _, ?_⟩
      rw [List.getD_eq_getElem?_getD, List.getElem?_append_right (Nat.le_refl _)]
      simp only [Nat.sub_self, List.getElem?_cons_zero, Option.getD_some]
      exact tx.agree hag ht
    · have hi2 : i < Y.length := by simp at hi; omega
      obtain ⟨t', b1, b2⟩ := a7 i hi2
      refine ⟨t', by rw [va_up_ne _ _ e]; exact b1, ?_⟩
      rw [List.getD_eq_getElem?_getD, List.getElem?_append_left hi2, ← List.getD_eq_getElem?_getD]
      exact tx.agree hag b2
set_option maxRecDepth 100000 in
set_option maxHeartbeats 4000000 in
theorem c_DK_symbol (l : Launch) (hlT : l.stackTraces = false) (G : ct_G) (f : dw_M) (sz : Nat) (x : Nat) (T Y : List (List Int)) (B Z : List Int) (hI : dkI G f x T Y B Z) (k : Int) (hk : iR k) : ct l y_DK_symbol w_DK_symbol (43) (990) G f sz [.ref x, .int (iI k)] (fun v f' => (0 ≤ k ∧ k < (T.length : Int)) ∧ ((∃ j : Nat, v = some (.int (iI (j : Int))) ∧ j < Y.length ∧ Y.getD j [] = (tt T k) ∧ (∀ i, i < j → Y.getD i [] ≠ (tt T k)) ∧ dkI G f' x T Y B Z) ∨ ((∀ i, i < Y.length → Y.getD i [] ≠ (tt T k)) ∧ Y.length < 16 ∧ v = some (.int (iI (Y.length : Int))) ∧ dkI G f' x T (Y ++ [(tt T k)]) B Z))) (fun E f' => (E = "java/lang/IllegalArgumentException" ∧ ¬ (0 ≤ k ∧ k < (T.length : Int)) ∨ E = "java/lang/IllegalStateException" ∧ (0 ≤ k ∧ k < (T.length : Int)) ∧ (∀ i, i < Y.length → Y.getD i [] ≠ (tt T k)) ∧ Y.length = 16) ∧ dkI G f' x T Y B Z) (130) (4500) := by
  refine ct_of (own := "TextDesk") (nm := "symbol") (ds := "(I)I") (by decide) (Nat.le_of_ble_eq_true rfl) ?_
  intro p e s m args below meth c ls X hnm hr hlk hnx hs0 hz hw hl
  have hx := X.1
  have hb := X.2.1
  have hl : lv_has ls 4 [(0, .ref x), (1, .int (iI k))] := hl
  have hG := X.E.ok
  obtain ⟨ta, sa, yr, dc, bu, dr, qy, qb, qd, gT, gS, c0, w0, D, sB, sZ, sD, hS⟩ := hI
  refine lv_aload_n hx hb d_DK_symbol_0 rfl (lv_at hl 0 rfl) ?_
  refine lv_iload_n hx hb d_DK_symbol_1 rfl (lv_at hl 1 rfl) ?_
  refine cs_DK_64 X hz hw hl.1 hS.1 (c_DK_textNumbered l hlT G f _ (k) hk x ta sa yr dc bu dr qy qb qd gT gS c0 w0 T Y B Z D sB sZ sD hS) ⟨Nat.le_of_ble_eq_true rfl, Nat.le_of_ble_eq_true rfl⟩ ⟨by show 0 + 1 ≤ 130; omega, by show 0 + 6 ≤ 4500; omega⟩ (Nat.le_of_ble_eq_true rfl) d_DK_symbol_2 (fun E ce q9 f8 H locs hpx hw _ _ _ hce hcv hcl => ?_) (fun v f9 H locs hp hw hsz9 hkp9 hdm9 => ?_)
  · obtain ⟨rfl, hno, hfe⟩ := hpx
    rw [hfe] at hw
    exact ct_out hnx hlk hw (⟨Or.inl ⟨rfl, hno⟩, hS.I⟩) hce hcv hcl (by omega) (by omega)
  obtain ⟨t1, rfl, hg_t1, hb_t1, hfe⟩ := hp
  rw [hfe] at hw
  have ht_t1 := hS.txt hb_t1.1 hb_t1.2 hg_t1
  have hl_t1 := ht_t1.len
  have hT_t1 := hS.2.2.2.2.1.1
  refine W.eq (g2 := F0 m 5 ls [.ref t1]) rfl ?_
  have hY := hS.2.2.2.2.1.2.1
  refine lv_astore_n (lv' := [(2, .ref t1), (0, .ref x), (1, .int (iI k))]) hx hb d_DK_symbol_5 rfl hl (by decide) rfl (fun ls hl => ?_)
  refine lv_iconst (v := iI (0)) hx hb d_DK_symbol_6 rfl ?_
  refine lv_istore_n (lv' := [(3, .int (iI 0)), (2, .ref t1), (0, .ref x), (1, .int (iI k))]) hx hb d_DK_symbol_7 rfl hl (by decide) rfl (fun ls hl => ?_)
  have loop : ∀ (N : Nat) (n : Int) (ce : Nat) (sl : Nat) (f1 : dw_M) (H : Heap) (locs : List Loc) (ls : Array Slot), ((16 : Int) - n).toNat < N → 0 ≤ n → n ≤ (Y.length : Int) → (∀ i : Nat, (i : Int) < n → Y.getD i [] ≠ (tt T k)) → dkS G f1 x ta sa yr dc bu dr qy qb qd gT gS c0 w0 T Y B Z D sB sZ sD → tx G k.toNat f1 t1 (tt T k) → ce ≤ 8 * n.toNat + 1 → sl ≤ 280 * n.toNat + 6 → dw G.1 dk_cl (dw_A f sz) s.heap f1 H locs → lv_has ls 4 [(3, .int (iI n)), (0, .ref x), (2, .ref t1)] → W p l e { frames := 43, locals := 990, cells := 130, slots := 4500 } s m args below meth c H locs (ce) (sl) (vx_MQ below (ct_Q G f sz (fun v f' => (0 ≤ k ∧ k < (T.length : Int)) ∧ ((∃ j : Nat, v = some (.int (iI (j : Int))) ∧ j < Y.length ∧ Y.getD j [] = (tt T k) ∧ (∀ i, i < j → Y.getD i [] ≠ (tt T k)) ∧ dkI G f' x T Y B Z) ∨ ((∀ i, i < Y.length → Y.getD i [] ≠ (tt T k)) ∧ Y.length < 16 ∧ v = some (.int (iI (Y.length : Int))) ∧ dkI G f' x T (Y ++ [(tt T k)]) B Z)))) (ct_X G f sz (fun E f' => (E = "java/lang/IllegalArgumentException" ∧ ¬ (0 ≤ k ∧ k < (T.length : Int)) ∨ E = "java/lang/IllegalStateException" ∧ (0 ≤ k ∧ k < (T.length : Int)) ∧ (∀ i, i < Y.length → Y.getD i [] ≠ (tt T k)) ∧ Y.length = 16) ∧ dkI G f' x T Y B Z)) args s (130) (4500) (dw_A f sz)) (F0 m 8 ls []) := by
    intro N
    induction N with
    | zero => intros; omega
    | succ N ih =>
      intro n ce sl f1 H locs ls hN hn0 hn1 hall hS1 ht1 hce hsl hw hl
      refine lv_iload_n hx hb d_DK_symbol_8 rfl (lv_at hl 0 rfl) ?_
      refine lv_aload_n hx hb d_DK_symbol_9 rfl (lv_at hl 1 rfl) ?_
      refine gf_DK_15_DK X hw hS1.1 d_DK_symbol_10 ?_
      refine dw_alen hx hb X.K hw 3 hS1.2.2.1 rfl d_DK_symbol_13 ?_
      refine di_icmp_ge (tgt := 56) hx hb d_DK_symbol_14 (by decide) ⟨by omega, by omega⟩ ⟨by omega, by omega⟩ (fun bq14 => ?_) (fun bq14 => ?_)
      · exact th_ISE X hlT hz (is := 145) (text := "the table of symbols is full") (by decide +kernel) hw hl.1 hnx hlk (⟨Or.inr ⟨rfl, hb_t1, fun i hi => hall i (by omega), by omega⟩, hS1.I⟩) ⟨by show 8 ≤ 43; omega, by show 120 ≤ 990; omega⟩ ⟨by show ce + 1 ≤ 130; omega, by show sl + 6 ≤ 4500; omega⟩ ⟨by show ce + 1 ≤ 130; omega, by show sl + 6 ≤ 4500; omega⟩ (Nat.le_of_ble_eq_true rfl) d_DK_symbol_56 d_DK_symbol_59 d_DK_symbol_60 d_DK_symbol_62 d_DK_symbol_65
      · refine lv_aload_n hx hb d_DK_symbol_17 rfl (lv_at hl 1 rfl) ?_
        refine gf_DK_15_DK X hw hS1.1 d_DK_symbol_18 ?_
        refine lv_iload_n hx hb d_DK_symbol_21 rfl (lv_at hl 0 rfl) ?_
        by_cases hlt : n < (Y.length : Int)
        · obtain ⟨t2, hg2, ht2⟩ := hS1.2.2.2.2.2.2.1 n.toNat (by omega)
          refine dw_aald hx hb X.K hw 3 hS1.2.2.1 rfl (by omega) (by omega) (by omega) hg2 d_DK_symbol_22 ?_
          refine W.eq (g2 := F0 m 23 ls [.ref t2]) rfl ?_
          refine lv_ifnonnull (tgt := 35) hx hb d_DK_symbol_23 (by decide) ?_
          refine lv_aload_n hx hb d_DK_symbol_35 rfl (lv_at hl 1 rfl) ?_
          refine gf_DK_15_DK X hw hS1.1 d_DK_symbol_36 ?_
          refine lv_iload_n hx hb d_DK_symbol_39 rfl (lv_at hl 0 rfl) ?_
          refine dw_aald hx hb X.K hw 3 hS1.2.2.1 rfl (by omega) (by omega) (by omega) hg2 d_DK_symbol_40 ?_
          refine W.eq (g2 := F0 m 41 ls [.ref t2]) rfl ?_
          refine lv_aload_n hx hb d_DK_symbol_41 rfl (lv_at hl 2 rfl) ?_
          have hpt1 := pot_le f1 t1
          have hpt2 := pot_le f1 t2
          refine W.widen (k := 8 * n.toNat + 1) (n := 280 * n.toNat + 6) (by omega) (by omega) ?_
          refine cs_DK_134 X hz hw hl.1 (c_DK_difference l G f1 _ 24 k.toNat t2 t1 (Y.getD n.toNat []) (tt T k) (by omega) (by omega) ht2 ht1) ⟨Nat.le_of_ble_eq_true rfl, Nat.le_of_ble_eq_true rfl⟩ ⟨by show 8 * n.toNat + 1 + (4 * pot f1 t2 + 4 * pot f1 t1) ≤ 130; omega, by show 280 * n.toNat + 6 + (140 * pot f1 t2 + 140 * pot f1 t1) ≤ 4500; omega⟩ (Nat.le_of_ble_eq_true rfl) d_DK_symbol_42 (fun v f2 H locs hp hw hsz9 hkp9 hdm9 => ?_)
          obtain ⟨rfl, hx2⟩ := hp
          have hS2 := hS1.read hx2
          have hdl := dif_rng ht2.rng ht1.rng ht2.len ht1.len
          refine W.eq (g2 := F0 m 45 ls [.int (iI (dif (Y.getD n.toNat []) (tt T k)))]) rfl ?_
          refine di_if_ne (tgt := 50) hx hb d_DK_symbol_45 (by decide) ⟨by omega, by omega⟩ (fun bq45 => ?_) (fun bq45 => ?_)
          · refine lv_iinc (v := iI (n + 1)) (lv' := [(3, .int (iI (n + 1))), (0, .ref x), (2, .ref t1)]) hx hb d_DK_symbol_50 hl (k := 0) rfl (iI_add _ _) (by decide) rfl (fun ls hl => ?_)
            refine lv_goto (tgt := 8) hx hb d_DK_symbol_53 (by decide) ?_
            exact ih (n + 1) (8 * n.toNat + 1 + (4 * pot f1 t2 + 4 * pot f1 t1)) (280 * n.toNat + 6 + (140 * pot f1 t2 + 140 * pot f1 t1)) _ _ _ _ (by omega) (by omega) (by omega) (fun i hi => by
              by_cases e : i = n.toNat
              · rw [e]; exact fun q => bq45 ((dif_zero _ _).mpr q)
              · exact hall i (by omega)) (hS2) (hx2.2.1 _ _ _ ht1) (by omega) (by omega) hw (lv_sub hl [0, 1, 2] rfl)
          · refine lv_iload_n hx hb d_DK_symbol_48 rfl (lv_at hl 0 rfl) ?_
            exact ct_iret hx hb hr  hlk hw (⟨hb_t1, Or.inl ⟨n.toNat, by rw [show ((n.toNat : Nat) : Int) = n by omega], by omega, (dif_zero _ _).mp bq45, fun i hi => hall i (by omega), hS2.I⟩⟩) (by omega) (by omega) d_DK_symbol_49
        · obtain rfl : n = (Y.length : Int) := by omega
          have hnn := hS1.2.2.2.2.1.2.2.2.2 (Y.length : Int).toNat (by omega)
          refine dw_aald hx hb X.K hw 3 hS1.2.2.1 rfl (by omega) (by omega) (by omega) hnn d_DK_symbol_22 ?_
          refine W.eq (g2 := F0 m 23 ls [.null]) rfl ?_
          refine lv_ifnonnullN hx hb d_DK_symbol_23 ?_
          refine lv_aload_n hx hb d_DK_symbol_26 rfl (lv_at hl 1 rfl) ?_
          refine gf_DK_15_DK X hw hS1.1 d_DK_symbol_27 ?_
          refine lv_iload_n hx hb d_DK_symbol_30 rfl (lv_at hl 0 rfl) ?_
          refine lv_aload_n hx hb d_DK_symbol_31 rfl (lv_at hl 2 rfl) ?_
          refine ra_aast X hw hS1.2.2.1 ht1 (by omega) (by omega) (by omega) d_DK_symbol_32 (fun H locs hw => ?_)
          obtain ⟨f4, e_f4⟩ : ∃ g9 : dw_M, g9 = dw_up f1 sa (.inl (G.2.1 3, 16, .inr (.inr (.inr (.inr (va_up gS (Y.length : Int).toNat (some t1))))))) := ⟨_, rfl⟩
          rw [← e_f4] at hw
          have k_f4_x : f4 x = some (.inr (5, [.ref ta, .ref sa, .ref yr, .ref dc, .ref bu, .ref dr])) := by rw [e_f4]; exact dw_keep hS1.1 (dw_ne hS1.1 hS1.2.2.1 (by simp))
          have k_f4_ta : f4 ta = some (.inl (G.2.1 3, 24, .inr (.inr (.inr (.inr gT))))) := by rw [e_f4]; exact dw_keep hS1.2.1 (hS1.2.2.2.2.1.2.2.1)
          have k_f4_sa : f4 sa = some (.inl (G.2.1 3, 16, .inr (.inr (.inr (.inr (va_up gS (Y.length : Int).toNat (some t1))))))) := by rw [e_f4]; exact dw_up_self _ _ _
          refine lv_iload_n hx hb d_DK_symbol_33 rfl (lv_at hl 0 rfl) ?_
          have hnew := hS1.sym hG (f' := f4) (us := (tt T k)) (by omega) (ht1.up (by omega)) k_f4_sa (fun a h9 => by rw [e_f4, dw_up_ne _ _ h9])
          exact ct_iret hx hb hr  hlk hw (⟨hb_t1, Or.inr ⟨fun i hi => hall i (by omega), by omega, rfl, hnew.I⟩⟩) (by omega) (by omega) d_DK_symbol_34
  exact loop (((16 : Int) - 0).toNat + 1) (0) (1) (6) _ _ _ _ (by omega) (by omega) (by omega) (fun i hi => by omega) (hS) (ht_t1) (by omega) (by omega) hw (lv_sub hl [0, 2, 1] rfl)
set_option maxRecDepth 100000 in
set_option maxHeartbeats 4000000 in
theorem c_DK_reverse (l : Launch) (G : ct_G) (f : dw_M) (sz : Nat) (x : Nat) (T Y : List (List Int)) (B Z : List Int) (hI : dkI G f x T Y B Z) : cn l y_DK_reverse w_DK_reverse (43) (990) G f sz [.ref x] (fun v f' => v = none ∧ dkI G f' x T Y (rvk B B.length) Z) (0) (0) := by
  refine cn_of (own := "TextDesk") (nm := "reverse") (ds := "()V") (by decide) (Nat.le_of_ble_eq_true rfl) ?_
  intro p e s m args below meth c ls X hnm hr hlk hs0 hz hw hl
  have hx := X.1
  have hb := X.2.1
  have hl : lv_has ls 4 [(0, .ref x)] := hl
  have hG := X.E.ok
  obtain ⟨ta, sa, yr, dc, bu, dr, qy, qb, qd, gT, gS, c0, w0, D, sB, sZ, sD, hS⟩ := hI
  have hB := hS.2.2.2.2.2.2.2.1.2.1.len
  have rB := hS.2.2.2.2.2.2.2.2.2.1
  refine lv_aload_n hx hb d_DK_reverse_0 rfl (lv_at hl 0 rfl) ?_
  refine gf_DK_37_DK X hw hS.1 d_DK_reverse_1 ?_
  refine cs_DK_70 X hz hw hl.1 hS.2.2.2.2.2.2.2.1.2.2.choose_spec.1 (c_RW_drop l G f _ dr qd 60 D sD hS.2.2.2.2.2.2.2.1.2.2) ⟨Nat.le_of_ble_eq_true rfl, Nat.le_of_ble_eq_true rfl⟩ ⟨by show 0 + 0 ≤ 0; omega, by show 0 + 0 ≤ 0; omega⟩ (Nat.le_of_ble_eq_true rfl) d_DK_reverse_4 (fun v f2 H locs hp hw hsz9 hkp9 hdm9 => ?_)
  obtain ⟨rfl, hr_f2, hk_f2⟩ := hp
  have hx_f2 := exo_row hG hS.2.2.2.2.2.2.2.1.2.2 hr_f2 (fun b h8 _ => hk_f2 b h8)
  refine W.eq (g2 := F0 m 7 ls []) rfl ?_
  have hS_f2 := hS.draft hx_f2 hr_f2
  refine lv_aload_n hx hb d_DK_reverse_7 rfl (lv_at hl 0 rfl) ?_
  refine gf_DK_34_DK X hw hS_f2.1 d_DK_reverse_8 ?_
  refine cs_DK_60 X hz hw hl.1 hS_f2.2.2.2.2.2.2.2.1.2.1.choose_spec.1 (c_RW_size l G f2 _ bu qb 60 B sB hS_f2.2.2.2.2.2.2.2.1.2.1) ⟨Nat.le_of_ble_eq_true rfl, Nat.le_of_ble_eq_true rfl⟩ ⟨by show 0 + 0 ≤ 0; omega, by show 0 + 0 ≤ 0; omega⟩ (Nat.le_of_ble_eq_true rfl) d_DK_reverse_11 (fun v f9 H locs hp hw hsz9 hkp9 hdm9 => ?_)
  obtain ⟨rfl, hfe⟩ := hp
  rw [hfe] at hw
  refine W.eq (g2 := F0 m 14 ls [.int (iI ((B.length : Int)))]) rfl ?_
  refine lv_iconst (v := iI (1)) hx hb d_DK_reverse_14 rfl ?_
  refine di_sub hx hb d_DK_reverse_15 ?_
  refine lv_istore_n (lv' := [(1, .int (iI ((B.length : Int) - 1))), (0, .ref x)]) hx hb d_DK_reverse_16 rfl hl (by decide) rfl (fun ls hl => ?_)
  have loop : ∀ (N : Nat) (k : Int) (Dk : List Int) (sk : Int) (f1 : dw_M) (H : Heap) (locs : List Loc) (ls : Array Slot), (k + 1).toNat < N → -1 ≤ k → k < (B.length : Int) → rvk B B.length = Dk ++ rvk B (k + 1).toNat → (Dk.length : Int) + k + 1 = (B.length : Int) → dkS G f1 x ta sa yr dc bu dr qy qb qd gT gS c0 w0 T Y B Z Dk sB sZ sk → dw G.1 dk_cl (dw_A f sz) s.heap f1 H locs → lv_has ls 4 [(1, .int (iI k)), (0, .ref x)] → W p l e { frames := 43, locals := 990, cells := 0, slots := 0 } s m args below meth c H locs (0) (0) (MQ below (ct_Q G f sz (fun v f' => v = none ∧ dkI G f' x T Y (rvk B B.length) Z)) args s (0) (0) (dw_A f sz)) (F0 m 17 ls []) := by
    intro N
    induction N with
    | zero => intros; omega
    | succ N ih =>
      intro k Dk sk f1 H locs ls hN hk0 hkb hrv hdl hS1 hw hl
      refine lv_iload_n hx hb d_DK_reverse_17 rfl (lv_at hl 0 rfl) ?_
      refine di_if_lt (tgt := 74) hx hb d_DK_reverse_18 (by decide) ⟨by omega, by omega⟩ (fun bq18 => ?_) (fun bq18 => ?_)
      · have hk1 : k = -1 := by omega
        have hDk : rvk B B.length = Dk := by rw [hrv, hk1]; simp [rvk]
        refine lv_aload_n hx hb d_DK_reverse_74 rfl (lv_at hl 1 rfl) ?_
        refine cs_DK_81 X hz hw hl.1 hS1.1 (c_DK_makeDraftTheBuilder l G f1 _ x ta sa yr dc bu dr qy qb qd gT gS c0 w0 T Y B Z Dk sB sZ sk hS1 (by rw [← hDk]; exact fun u h => rB u (rvk_mem _ (Nat.le_refl _) u h))) ⟨Nat.le_of_ble_eq_true rfl, Nat.le_of_ble_eq_true rfl⟩ ⟨by show 0 + 0 ≤ 0; omega, by show 0 + 0 ≤ 0; omega⟩ (Nat.le_of_ble_eq_true rfl) d_DK_reverse_75 (fun v f4 H locs hp hw hsz9 hkp9 hdm9 => ?_)
        obtain ⟨rfl, hS_f4⟩ := hp
        refine W.eq (g2 := F0 m 78 ls []) rfl ?_
        exact cn_vret hx hb hr hlk hw  (⟨rfl, by rw [hDk]; exact hS_f4.I⟩) (Nat.le_refl _) (Nat.le_refl _) d_DK_reverse_78
      · refine lv_aload_n hx hb d_DK_reverse_21 rfl (lv_at hl 1 rfl) ?_
        refine gf_DK_34_DK X hw hS1.1 d_DK_reverse_22 ?_
        refine lv_iload_n hx hb d_DK_reverse_25 rfl (lv_at hl 0 rfl) ?_
        refine cs_DK_88 X hz hw hl.1 hS1.2.2.2.2.2.2.2.1.2.1.choose_spec.1 (c_RW_get l G f1 _ bu qb 60 B sB (k) ⟨by omega, by omega⟩ hS1.2.2.2.2.2.2.2.1.2.1) ⟨Nat.le_of_ble_eq_true rfl, Nat.le_of_ble_eq_true rfl⟩ ⟨by show 0 + 0 ≤ 0; omega, by show 0 + 0 ≤ 0; omega⟩ (Nat.le_of_ble_eq_true rfl) d_DK_reverse_26 (fun v f9 H locs hp hw hsz9 hkp9 hdm9 => ?_)
        obtain ⟨rfl, hfe⟩ := hp
        rw [hfe] at hw
        refine W.eq (g2 := F0 m 29 ls [.int (iI (gt B (k)))]) rfl ?_
        refine lv_istore_n (lv' := [(2, .int (iI (gt B (k)))), (1, .int (iI k)), (0, .ref x)]) hx hb d_DK_reverse_29 rfl hl (by decide) rfl (fun ls hl => ?_)
        refine lv_aload_n hx hb d_DK_reverse_30 rfl (lv_at hl 2 rfl) ?_
        refine gf_DK_34_DK X hw hS1.1 d_DK_reverse_31 ?_
        refine lv_iload_n hx hb d_DK_reverse_34 rfl (lv_at hl 1 rfl) ?_
        refine lv_iconst (v := iI (1)) hx hb d_DK_reverse_35 rfl ?_
        refine di_sub hx hb d_DK_reverse_36 ?_
        refine cs_DK_88 X hz hw hl.1 hS1.2.2.2.2.2.2.2.1.2.1.choose_spec.1 (c_RW_get l G f1 _ bu qb 60 B sB (k - 1) ⟨by omega, by omega⟩ hS1.2.2.2.2.2.2.2.1.2.1) ⟨Nat.le_of_ble_eq_true rfl, Nat.le_of_ble_eq_true rfl⟩ ⟨by show 0 + 0 ≤ 0; omega, by show 0 + 0 ≤ 0; omega⟩ (Nat.le_of_ble_eq_true rfl) d_DK_reverse_37 (fun v f9 H locs hp hw hsz9 hkp9 hdm9 => ?_)
        obtain ⟨rfl, hfe⟩ := hp
        rw [hfe] at hw
        refine W.eq (g2 := F0 m 40 ls [.int (iI (gt B (k - 1)))]) rfl ?_
        refine lv_istore_n (lv' := [(3, .int (iI (gt B (k - 1)))), (2, .int (iI (gt B (k)))), (1, .int (iI k)), (0, .ref x)]) hx hb d_DK_reverse_40 rfl hl (by decide) rfl (fun ls hl => ?_)
        refine lv_iload_n hx hb d_DK_reverse_41 rfl (lv_at hl 0 rfl) ?_
        refine lv_iload_n hx hb d_DK_reverse_42 rfl (lv_at hl 1 rfl) ?_
        have hr1 := gt_rng rB k
        have hr2 := gt_rng rB (k - 1)
        have hpe : pr B (k - 1) = (hi (gt B (k - 1)) && lw (gt B k)) := by unfold pr; rw [show k - 1 + 1 = k by omega]
        refine cs_DK_92 X hz hw hl.1 (c_DK_isPair l G f1 _ (gt B (k - 1)) (gt B k) ⟨by omega, by omega⟩ ⟨by omega, by omega⟩) ⟨Nat.le_of_ble_eq_true rfl, Nat.le_of_ble_eq_true rfl⟩ ⟨by show 0 + 0 ≤ 0; omega, by show 0 + 0 ≤ 0; omega⟩ (Nat.le_of_ble_eq_true rfl) d_DK_reverse_43 (fun v f9 H locs hp hw hsz9 hkp9 hdm9 => ?_)
        obtain ⟨rfl, hfe⟩ := hp
        rw [hfe] at hw
        rw [← hpe]
        refine W.eq (g2 := F0 m 46 ls [.int (iI (b2 (pr B (k - 1))))]) rfl ?_
        have hb1 := b2_01 (pr B (k - 1))
        refine di_if_eq (tgt := 60) hx hb d_DK_reverse_46 (by decide) ⟨by omega, by omega⟩ (fun bq46 => ?_) (fun bq46 => ?_)
        · refine lv_aload_n hx hb d_DK_reverse_60 rfl (lv_at hl 3 rfl) ?_
          refine gf_DK_37_DK X hw hS1.1 d_DK_reverse_61 ?_
          refine lv_iload_n hx hb d_DK_reverse_64 rfl (lv_at hl 1 rfl) ?_
          refine cs_DK_57 X hz hw hl.1 hS1.2.2.2.2.2.2.2.1.2.2.choose_spec.1 (c_RW_append l G f1 _ dr qd 60 Dk sk (gt B k) hS1.2.2.2.2.2.2.2.1.2.2) ⟨Nat.le_of_ble_eq_true rfl, Nat.le_of_ble_eq_true rfl⟩ ⟨by show 0 + 0 ≤ 0; omega, by show 0 + 0 ≤ 0; omega⟩ (Nat.le_of_ble_eq_true rfl) d_DK_reverse_65 (fun v f3 H locs hp hw hsz9 hkp9 hdm9 => ?_)
          obtain ⟨rfl, hr_f3, hk_f3⟩ := hp
          have hx_f3 := exo_row hG hS1.2.2.2.2.2.2.2.1.2.2 hr_f3 hk_f3
          refine W.eq (g2 := F0 m 68 ls []) rfl ?_
          have hS_f3 := hS1.draft hx_f3 hr_f3
          have hsd : Dk.length < 60 := by omega
          rw [show ap1 60 Dk (gt B k) = Dk ++ [gt B k] from if_pos hsd] at hS_f3
          refine lv_iinc (v := iI (k + (-1))) (lv' := [(1, .int (iI (k + (-1)))), (3, .int (iI (gt B (k - 1)))), (2, .int (iI (gt B (k)))), (0, .ref x)]) hx hb d_DK_reverse_68 hl (k := 2) rfl (iI_add _ _) (by decide) rfl (fun ls hl => ?_)
          refine lv_goto (tgt := 17) hx hb d_DK_reverse_71 (by decide) ?_
          exact ih (k + (-1)) (Dk ++ [gt B k]) (_) _ _ _ _ (by omega) (by omega) (by omega) (by rw [hrv, rvk_1 (by omega) (b2_0 bq46), show k + (-1) + 1 = k by omega]; simp) (by rw [List.length_append]; simp; omega) (hS_f3) hw (lv_sub hl [0, 3] rfl)
        · have hk2 : 1 ≤ k := by
            rcases (show k = 0 ∨ 1 ≤ k by omega) with q | q
            · have h9 := b2_1 bq46
              rw [q, show (0 : Int) - 1 = -1 by omega, pr_m1] at h9
              cases h9
            · exact q
          refine lv_aload_n hx hb d_DK_reverse_49 rfl (lv_at hl 3 rfl) ?_
          refine gf_DK_37_DK X hw hS1.1 d_DK_reverse_50 ?_
          refine lv_iload_n hx hb d_DK_reverse_53 rfl (lv_at hl 0 rfl) ?_
          refine cs_DK_57 X hz hw hl.1 hS1.2.2.2.2.2.2.2.1.2.2.choose_spec.1 (c_RW_append l G f1 _ dr qd 60 Dk sk (gt B (k - 1)) hS1.2.2.2.2.2.2.2.1.2.2) ⟨Nat.le_of_ble_eq_true rfl, Nat.le_of_ble_eq_true rfl⟩ ⟨by show 0 + 0 ≤ 0; omega, by show 0 + 0 ≤ 0; omega⟩ (Nat.le_of_ble_eq_true rfl) d_DK_reverse_54 (fun v f3 H locs hp hw hsz9 hkp9 hdm9 => ?_)
          obtain ⟨rfl, hr_f3, hk_f3⟩ := hp
          have hx_f3 := exo_row hG hS1.2.2.2.2.2.2.2.1.2.2 hr_f3 hk_f3
          refine W.eq (g2 := F0 m 57 ls []) rfl ?_
          have hS_f3 := hS1.draft hx_f3 hr_f3
          have hsd : Dk.length < 60 := by omega
          rw [show ap1 60 Dk (gt B (k - 1)) = Dk ++ [gt B (k - 1)] from if_pos hsd] at hS_f3
          refine lv_iinc (v := iI (k + (-1))) (lv' := [(1, .int (iI (k + (-1)))), (3, .int (iI (gt B (k - 1)))), (2, .int (iI (gt B (k)))), (0, .ref x)]) hx hb d_DK_reverse_57 hl (k := 2) rfl (iI_add _ _) (by decide) rfl (fun ls hl => ?_)
          refine lv_aload_n hx hb d_DK_reverse_60 rfl (lv_at hl 3 rfl) ?_
          refine gf_DK_37_DK X hw hS_f3.1 d_DK_reverse_61 ?_
          refine lv_iload_n hx hb d_DK_reverse_64 rfl (lv_at hl 2 rfl) ?_
          refine cs_DK_57 X hz hw hl.1 hS_f3.2.2.2.2.2.2.2.1.2.2.choose_spec.1 (c_RW_append l G f3 _ dr qd 60 (Dk ++ [gt B (k - 1)]) (ap2 60 Dk sk) (gt B k) hS_f3.2.2.2.2.2.2.2.1.2.2) ⟨Nat.le_of_ble_eq_true rfl, Nat.le_of_ble_eq_true rfl⟩ ⟨by show 0 + 0 ≤ 0; omega, by show 0 + 0 ≤ 0; omega⟩ (Nat.le_of_ble_eq_true rfl) d_DK_reverse_65 (fun v f4 H locs hp hw hsz9 hkp9 hdm9 => ?_)
          obtain ⟨rfl, hr_f4, hk_f4⟩ := hp
          have hx_f4 := exo_row hG hS_f3.2.2.2.2.2.2.2.1.2.2 hr_f4 hk_f4
          refine W.eq (g2 := F0 m 68 ls []) rfl ?_
          have hS_f4 := hS_f3.draft hx_f4 hr_f4
          have hsd2 : (Dk ++ [gt B (k - 1)]).length < 60 := by rw [List.length_append]; simp; omega
          rw [show ap1 60 (Dk ++ [gt B (k - 1)]) (gt B k) = Dk ++ [gt B (k - 1)] ++ [gt B k] from if_pos hsd2] at hS_f4
          refine lv_iinc (v := iI (k + (-1) + (-1))) (lv' := [(1, .int (iI (k + (-1) + (-1)))), (3, .int (iI (gt B (k - 1)))), (2, .int (iI (gt B (k)))), (0, .ref x)]) hx hb d_DK_reverse_68 hl (k := 0) rfl (iI_add _ _) (by decide) rfl (fun ls hl => ?_)
          refine lv_goto (tgt := 17) hx hb d_DK_reverse_71 (by decide) ?_
          exact ih (k + (-1) + (-1)) (Dk ++ [gt B (k - 1)] ++ [gt B k]) (_) _ _ _ _ (by omega) (by omega) (by omega) (by rw [hrv, rvk_2 hk2 (b2_1 bq46), show k + (-1) + (-1) + 1 = k - 1 by omega]; simp) (by rw [List.length_append, List.length_append]; simp; omega) (hS_f4) hw (lv_sub hl [0, 3] rfl)
  exact loop (((B.length : Int) - 1 + 1).toNat + 1) ((B.length : Int) - 1) ([]) (0) _ _ _ _ (by omega) (by omega) (by omega) (by rw [show ((B.length : Int) - 1 + 1).toNat = B.length by omega]; rfl) (by simp) (hS_f2) hw (lv_sub hl [0, 1] rfl)
