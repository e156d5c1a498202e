theorem fst1_none {w s : List Int} : ∀ (n : Nat) (p : Int), (∀ j : Int, p ≤ j → j < p + n → sta w s j = false) → fst1 w s n p = -1
  | 0, _, _ => rfl
  | n + 1, p, h => by
    unfold fst1
    rw [if_neg (by rw [h p (by omega) (by omega)]; decide)]
    exact fst1_none n (p + 1) (fun j h1 h2 => h j (by omega) (by omega))
theorem fst1_some {w s : List Int} : ∀ (n : Nat) (p k : Int), p ≤ k → k < p + n → (∀ j : Int, p ≤ j → j < k → sta w s j = false) → sta w s k = true → fst1 w s n p = k
  | 0, p, k, h1, h2, _, _ => by omega
  | n + 1, p, k, h1, h2, h3, h4 => by
    unfold fst1
    by_cases e : p = k
    · subst e
      rw [if_pos h4]
    · rw [if_neg (by rw [h3 p (by omega) (by omega)]; decide)]
      exact fst1_some n (p + 1) k (by omega) (by omega) (fun j h5 h6 => h3 j (by omega) h6) h4
theorem lst1_none {w s : List Int} : ∀ (n : Nat) (p : Int), (∀ j : Int, 0 ≤ j → j ≤ p → sta w s j = false) → lst1 w s n p = -1
  | 0, _, _ => rfl
  | n + 1, p, h => by
    unfold lst1
    by_cases e : p < 0
    · rw [if_pos e]
    · rw [if_neg e, if_neg (by rw [h p (by omega) (by omega)]; decide)]
      exact lst1_none n (p - 1) (fun j h1 h2 => h j h1 (by omega))
theorem lst1_some {w s : List Int} : ∀ (n : Nat) (p k : Int), 0 ≤ k → k ≤ p → p < n → (∀ j : Int, k < j → j ≤ p → sta w s j = false) → sta w s k = true → lst1 w s n p = k
  | 0, p, k, h0, h1, h2, _, _ => by omega
  | n + 1, p, k, h0, h1, h2, h3, h4 => by
    unfold lst1
    rw [if_neg (by omega)]
    by_cases e : p = k
    · subst e
      rw [if_pos h4]
    · rw [if_neg (by rw [h3 p (by omega) (by omega)]; decide)]
      exact lst1_some n (p - 1) k h0 (by omega) (by omega) (fun j h5 h6 => h3 j h5 (by omega)) h4
theorem sta_k {w s : List Int} {p k : Int} (q : 0 ≤ p ∧ p + (s.length : Int) ≤ (w.length : Int) ∧ ∀ k : Nat, k < s.length → gt w (p + k) = gt s k) (h0 : 0 ≤ k) (h1 : k < (s.length : Int)) : gt w (p + k) = gt s k := by
  have h8 := q.2.2 k.toNat (by omega)
  have h7 : ((k.toNat : Nat) : Int) = k := by omega
  rw [h7] at h8
  exact h8
/-- what standsAt may have to pay: nothing where it reads nothing -/
def sc (x : Nat) (ua ub : List Int) (k0 : Int) : Nat := if ub.length = 0 ∨ (ua.length : Int) < k0 + ub.length then 0 else x
theorem sc_0 {x : Nat} {ua ub : List Int} {k0 : Int} (h : ub.length = 0 ∨ (ua.length : Int) < k0 + ub.length) : sc x ua ub k0 = 0 := if_pos h
theorem sc_x {x : Nat} {ua ub : List Int} {k0 : Int} (h : ¬ (ub.length = 0 ∨ (ua.length : Int) < k0 + ub.length)) : sc x ua ub k0 = x := if_neg h
theorem sc_le (x : Nat) (ua ub : List Int) (k0 : Int) : sc x ua ub k0 ≤ x := by
  unfold sc
  split <;> omega
set_option maxRecDepth 100000 in
set_option maxHeartbeats 4000000 in
theorem c_DK_standsAt (l : Launch) (G : ct_G) (f : dw_M) (sz : Nat) (d e0 a b : Nat) (ua ub : List Int) (k0 : Int) (hk00 : 0 ≤ k0) (hk01 : k0 < 100000) (hd : d ≤ 24) (he0 : e0 ≤ 24) (hta : tx G d f a ua) (htb : tx G e0 f b ub) : cn l y_DK_standsAt w_DK_standsAt (42) (960) G f sz [.ref a, .ref b, .int (iI k0)] (fun v f' => v = some (.int (iI (b2 (sta ua ub k0)))) ∧ exo G no1 f f' ∧ sc (pot f a + pot f b) ua ub k0 + (pot f' a + pot f' b) ≤ pot f a + pot f b) (4 * sc (pot f a + pot f b) ua ub k0) (140 * sc (pot f a + pot f b) ua ub k0) := by
  refine cn_of (own := "TextDesk") (nm := "standsAt") (ds := "(LTextDesk$Text;LTextDesk$Text;I)Z") (by decide) (Nat.le_of_ble_eq_true rfl) ?_
  intro p e s m args below meth c ls X hnm hr hlk hs0 hz hw hl
  have hx := X.1
  have hb := X.2.1
  have hl : lv_has ls 4 [(0, .ref a), (1, .ref b), (2, .int (iI k0))] := hl
  have hla := hta.len
  have hlb := htb.len
  refine lv_iload_n hx hb d_DK_standsAt_0 rfl (lv_at hl 2 rfl) ?_
  refine lv_aload_n hx hb d_DK_standsAt_1 rfl (lv_at hl 0 rfl) ?_
  refine st_DK_77 X hz hw hl.1 hta ⟨Nat.le_of_ble_eq_true rfl, Nat.le_of_ble_eq_true rfl⟩ ⟨by show 0 ≤ 4 * sc (pot f a + pot f b) ua ub k0; omega, by show 0 ≤ 140 * sc (pot f a + pot f b) ua ub k0; omega⟩ (Nat.le_of_ble_eq_true rfl) d_DK_standsAt_2 (fun H locs hw => ?_)
  refine W.eq (g2 := F0 m 5 ls [.int (iI ((ua.length : Int))), .int (iI k0)]) rfl ?_
  refine lv_aload_n hx hb d_DK_standsAt_5 rfl (lv_at hl 1 rfl) ?_
  refine st_DK_77 X hz hw hl.1 htb ⟨Nat.le_of_ble_eq_true rfl, Nat.le_of_ble_eq_true rfl⟩ ⟨by show 0 ≤ 4 * sc (pot f a + pot f b) ua ub k0; omega, by show 0 ≤ 140 * sc (pot f a + pot f b) ua ub k0; omega⟩ (Nat.le_of_ble_eq_true rfl) d_DK_standsAt_6 (fun H locs hw => ?_)
  refine W.eq (g2 := F0 m 9 ls [.int (iI ((ub.length : Int))), .int (iI ((ua.length : Int))), .int (iI k0)]) rfl ?_
  refine di_sub hx hb d_DK_standsAt_9 ?_
  refine di_icmp_le (tgt := 15) hx hb d_DK_standsAt_10 (by decide) ⟨by omega, by omega⟩ ⟨by omega, by omega⟩ (fun bq10 => ?_) (fun bq10 => ?_)
  · have hs1 : sc (pot f a + pot f b) ua ub k0 = 0 ∧ ub.length = 0 ∨ sc (pot f a + pot f b) ua ub k0 = pot f a + pot f b ∧ 0 < ub.length := by
      by_cases e : ub.length = 0
      · exact Or.inl ⟨sc_0 (Or.inl e), e⟩
      · exact Or.inr ⟨sc_x (by omega), by omega⟩
    refine lv_iconst (v := iI (0)) hx hb d_DK_standsAt_15 rfl ?_
    refine lv_istore_n (lv' := [(3, .int (iI 0)), (0, .ref a), (1, .ref b), (2, .int (iI k0))]) hx hb d_DK_standsAt_16 rfl hl (by decide) rfl (fun ls hl => ?_)
    have loop : ∀ (N : Nat) (k : Int) (ce : Nat) (sl : Nat) (f1 : dw_M) (H : Heap) (locs : List Loc) (ls : Array Slot), ((ub.length : Int) - k).toNat < N → 0 ≤ k → k ≤ (ub.length : Int) → (∀ j : Nat, (j : Int) < k → gt ua (k0 + j) = gt ub j) → exo G no1 f f1 → tx G d f1 a ua → tx G e0 f1 b ub → ce + 4 * (pot f1 a + pot f1 b) ≤ 4 * (pot f a + pot f b) → sl + 140 * (pot f1 a + pot f1 b) ≤ 140 * (pot f a + pot f b) → (k = 0 → ce = 0 ∧ sl = 0) → (0 < k → pot f1 a + pot f1 b = 0) → dw G.1 dk_cl (dw_A f sz) s.heap f1 H locs → lv_has ls 4 [(3, .int (iI k)), (0, .ref a), (1, .ref b), (2, .int (iI k0))] → W p l e { frames := 42, locals := 960, cells := 4 * sc (pot f a + pot f b) ua ub k0, slots := 140 * sc (pot f a + pot f b) ua ub k0 } s m args below meth c H locs (ce) (sl) (MQ below (ct_Q G f sz (fun v f' => v = some (.int (iI (b2 (sta ua ub k0)))) ∧ exo G no1 f f' ∧ sc (pot f a + pot f b) ua ub k0 + (pot f' a + pot f' b) ≤ pot f a + pot f b)) args s (4 * sc (pot f a + pot f b) ua ub k0) (140 * sc (pot f a + pot f b) ua ub k0) (dw_A f sz)) (F0 m 17 ls []) := by
      intro N
      induction N with
      | zero => intros; omega
      | succ N ih =>
        intro k ce sl f1 H locs ls hN hk0 hk1 hall hx1 hta1 htb1 hce hsl hc0 hc1 hw hl
        refine lv_iload_n hx hb d_DK_standsAt_17 rfl (lv_at hl 0 rfl) ?_
        refine lv_aload_n hx hb d_DK_standsAt_18 rfl (lv_at hl 2 rfl) ?_
        refine st_DK_77 X hz hw hl.1 htb1 ⟨Nat.le_of_ble_eq_true rfl, Nat.le_of_ble_eq_true rfl⟩ ⟨by show ce ≤ 4 * sc (pot f a + pot f b) ua ub k0; omega, by show sl ≤ 140 * sc (pot f a + pot f b) ua ub k0; omega⟩ (Nat.le_of_ble_eq_true rfl) d_DK_standsAt_19 (fun H locs hw => ?_)
        refine W.eq (g2 := F0 m 22 ls [.int (iI ((ub.length : Int))), .int (iI k)]) rfl ?_
        refine di_icmp_ge (tgt := 48) hx hb d_DK_standsAt_22 (by decide) ⟨by omega, by omega⟩ ⟨by omega, by omega⟩ (fun bq22 => ?_) (fun bq22 => ?_)
        · have h9 : sta ua ub k0 = true := decide_eq_true ⟨hk00, by omega, fun j hj => hall j (by omega)⟩
          have hs2 := sc_le (pot f a + pot f b) ua ub k0
          have q1 := exo_pot hx1 hta
          have q2 := exo_pot hx1 htb
          refine lv_iconst (v := iI (1)) hx hb d_DK_standsAt_48 rfl ?_
          exact cn_zret hx hb hr hlk hw rfl (⟨by rw [h9]; rfl, hx1, by omega⟩) (by omega) (by omega) d_DK_standsAt_49
        · have hsc : sc (pot f a + pot f b) ua ub k0 = pot f a + pot f b := sc_x (by omega)
          refine lv_aload_n hx hb d_DK_standsAt_25 rfl (lv_at hl 1 rfl) ?_
          refine lv_iload_n hx hb d_DK_standsAt_26 rfl (lv_at hl 3 rfl) ?_
          refine lv_iload_n hx hb d_DK_standsAt_27 rfl (lv_at hl 0 rfl) ?_
          refine di_add hx hb d_DK_standsAt_28 ?_
          have hra := gt_rng hta1.rng (k0 + k)
          have hrb := gt_rng htb1.rng k
          refine sg_DK_122 X hz hw hl.1 hd hta1 ⟨by omega, by omega⟩ ⟨Nat.le_of_ble_eq_true rfl, Nat.le_of_ble_eq_true rfl⟩ ⟨by show ce + 4 * pot f1 a ≤ 4 * sc (pot f a + pot f b) ua ub k0; omega, by show sl + 140 * pot f1 a ≤ 140 * sc (pot f a + pot f b) ua ub k0; omega⟩ (Nat.le_of_ble_eq_true rfl) d_DK_standsAt_29 (fun f2 H locs hx_f2 hp_f2 hw => ?_)
          refine W.eq (g2 := F0 m 32 ls [.int (iI (gt ua (k0 + k)))]) rfl ?_
          have hpb2 := exo_pot hx_f2 htb1
          have htb2 := hx_f2.2.1 _ _ _ htb1
          have hta2 := hx_f2.2.1 _ _ _ hta1
          refine lv_aload_n hx hb d_DK_standsAt_32 rfl (lv_at hl 2 rfl) ?_
          refine lv_iload_n hx hb d_DK_standsAt_33 rfl (lv_at hl 0 rfl) ?_
          refine sg_DK_122 X hz hw hl.1 he0 htb2 ⟨by omega, by omega⟩ ⟨Nat.le_of_ble_eq_true rfl, Nat.le_of_ble_eq_true rfl⟩ ⟨by show ce + 4 * pot f1 a + 4 * pot f2 b ≤ 4 * sc (pot f a + pot f b) ua ub k0; omega, by show sl + 140 * pot f1 a + 140 * pot f2 b ≤ 140 * sc (pot f a + pot f b) ua ub k0; omega⟩ (Nat.le_of_ble_eq_true rfl) d_DK_standsAt_34 (fun f3 H locs hx_f3 hp_f3 hw => ?_)
          refine W.eq (g2 := F0 m 37 ls [.int (iI (gt ub k)), .int (iI (gt ua (k0 + k)))]) rfl ?_
          have hpa3 := exo_pot hx_f3 hta2
          have htb3 := hx_f3.2.1 _ _ _ htb2
          have hta3 := hx_f3.2.1 _ _ _ hta2
          refine di_icmp_eq (tgt := 42) hx hb d_DK_standsAt_37 (by decide) ⟨by omega, by omega⟩ ⟨by omega, by omega⟩ (fun bq37 => ?_) (fun bq37 => ?_)
          · refine lv_iinc (v := iI (k + 1)) (lv' := [(3, .int (iI (k + 1))), (0, .ref a), (1, .ref b), (2, .int (iI k0))]) hx hb d_DK_standsAt_42 hl (k := 0) rfl (iI_add _ _) (by decide) rfl (fun ls hl => ?_)
            refine lv_goto (tgt := 17) hx hb d_DK_standsAt_45 (by decide) ?_
            exact ih (k + 1) (ce + 4 * pot f1 a + 4 * pot f2 b) (sl + 140 * pot f1 a + 140 * pot f2 b) _ _ _ _ (by omega) (by omega) (by omega) (fun j hj => by
              by_cases e : (j : Int) = k
              · rw [e]; exact bq37
              · exact hall j (by omega)) ((hx1.tr hx_f2).tr hx_f3) (hta3) (htb3) (by omega) (by omega) (by omega) (by omega) hw (lv_sub hl [0, 1, 2, 3] rfl)
          · have h9 : sta ua ub k0 = false := decide_eq_false (fun q => bq37 (sta_k q (by omega) (by omega)))
            refine lv_iconst (v := iI (0)) hx hb d_DK_standsAt_40 rfl ?_
            exact cn_zret hx hb hr hlk hw rfl (⟨by rw [h9]; rfl, (hx1.tr hx_f2).tr hx_f3, by omega⟩) (by omega) (by omega) d_DK_standsAt_41
    exact loop (((ub.length : Int) - 0).toNat + 1) (0) (0) (0) _ _ _ _ (by omega) (by omega) (by omega) (fun j hj => by omega) (exo.rf) (hta) (htb) (by omega) (by omega) (by omega) (by omega) hw (lv_sub hl [0, 1, 2, 3] rfl)
  · have hs0 : sc (pot f a + pot f b) ua ub k0 = 0 := sc_0 (Or.inr (by omega))
    have h9 : sta ua ub k0 = false := decide_eq_false (by omega)
    refine lv_iconst (v := iI (0)) hx hb d_DK_standsAt_13 rfl ?_
    exact cn_zret hx hb hr hlk hw rfl (⟨by rw [h9]; rfl, exo.rf, by omega⟩) (by omega) (by omega) d_DK_standsAt_14
set_option maxRecDepth 100000 in
set_option maxHeartbeats 4000000 in
theorem c_DK_firstPlace (l : Launch) (G : ct_G) (f : dw_M) (sz : Nat) (d e0 a b : Nat) (ua ub : List Int) (fr : Int) (hfr : iR fr) (hd : d ≤ 24) (he0 : e0 ≤ 24) (hta : tx G d f a ua) (htb : tx G e0 f b ub) : cn l y_DK_firstPlace w_DK_firstPlace (43) (990) G f sz [.ref a, .ref b, .int (iI fr)] (fun v f' => v = some (.int (iI (frst ua ub fr))) ∧ exo G no1 f f') (4 * (pot f a + pot f b)) (140 * (pot f a + pot f b)) := by
  refine cn_of (own := "TextDesk") (nm := "firstPlace") (ds := "(LTextDesk$Text;LTextDesk$Text;I)I") (by decide) (Nat.le_of_ble_eq_true rfl) ?_
  intro p e s m args below meth c ls X hnm hr hlk hs0 hz hw hl
  have hx := X.1
  have hb := X.2.1
  have hl : lv_has ls 5 [(0, .ref a), (1, .ref b), (2, .int (iI fr))] := hl
  have hla := hta.len
  have hlb := htb.len
  obtain ⟨hfr1, hfr2⟩ := hfr
  refine lv_aload_n hx hb d_DK_firstPlace_0 rfl (lv_at hl 0 rfl) ?_
  refine st_DK_77 X hz hw hl.1 hta ⟨Nat.le_of_ble_eq_true rfl, Nat.le_of_ble_eq_true rfl⟩ ⟨by show 0 ≤ 4 * (pot f a + pot f b); omega, by show 0 ≤ 140 * (pot f a + pot f b); omega⟩ (Nat.le_of_ble_eq_true rfl) d_DK_firstPlace_1 (fun H locs hw => ?_)
  refine W.eq (g2 := F0 m 4 ls [.int (iI ((ua.length : Int)))]) rfl ?_
  refine lv_aload_n hx hb d_DK_firstPlace_4 rfl (lv_at hl 1 rfl) ?_
  refine st_DK_77 X hz hw hl.1 htb ⟨Nat.le_of_ble_eq_true rfl, Nat.le_of_ble_eq_true rfl⟩ ⟨by show 0 ≤ 4 * (pot f a + pot f b); omega, by show 0 ≤ 140 * (pot f a + pot f b); omega⟩ (Nat.le_of_ble_eq_true rfl) d_DK_firstPlace_5 (fun H locs hw => ?_)
  refine W.eq (g2 := F0 m 8 ls [.int (iI ((ub.length : Int))), .int (iI ((ua.length : Int)))]) rfl ?_
  refine di_sub hx hb d_DK_firstPlace_8 ?_
  refine lv_istore_n (lv' := [(3, .int (iI ((ua.length : Int) - (ub.length : Int)))), (0, .ref a), (1, .ref b), (2, .int (iI fr))]) hx hb d_DK_firstPlace_9 rfl hl (by decide) rfl (fun ls hl => ?_)
  refine lv_iload_n hx hb d_DK_firstPlace_10 rfl (lv_at hl 3 rfl) ?_
  refine lv_iconst (v := iI (0)) hx hb d_DK_firstPlace_11 rfl ?_
  obtain ⟨lo, hlo⟩ : ∃ lo : Int, lo = if fr < 0 then 0 else fr := ⟨_, rfl⟩
  have hlo1 : 0 ≤ lo ∧ lo < 2147483648 := by rw [hlo]; split <;> omega
  refine di_max X hl.1 mw_514 ⟨by omega, by omega⟩ ⟨by omega, by omega⟩ (z := lo) (hlo.symm) (Nat.le_of_ble_eq_true rfl) (Nat.le_of_ble_eq_true rfl) (by show 0 ≤ 4 * (pot f a + pot f b); omega) (by show 0 ≤ 140 * (pot f a + pot f b); omega) d_DK_firstPlace_12 ?_
  refine lv_istore (lv' := [(4, .int (iI lo)), (3, .int (iI ((ua.length : Int) - (ub.length : Int)))), (0, .ref a), (1, .ref b), (2, .int (iI fr))]) hx hb d_DK_firstPlace_15 hl (by decide) rfl (fun ls hl => ?_)
  have loop : ∀ (N : Nat) (k : Int) (ce : Nat) (sl : Nat) (f1 : dw_M) (H : Heap) (locs : List Loc) (ls : Array Slot), ((ua.length : Int) + 1 - k).toNat < N → lo ≤ k → k < 2147483648 → (∀ j : Int, lo ≤ j → j < k → sta ua ub j = false) → exo G no1 f f1 → tx G d f1 a ua → tx G e0 f1 b ub → ce + 4 * (pot f1 a + pot f1 b) ≤ 4 * (pot f a + pot f b) → sl + 140 * (pot f1 a + pot f1 b) ≤ 140 * (pot f a + pot f b) → dw G.1 dk_cl (dw_A f sz) s.heap f1 H locs → lv_has ls 5 [(4, .int (iI k)), (3, .int (iI ((ua.length : Int) - (ub.length : Int)))), (0, .ref a), (1, .ref b)] → W p l e { frames := 43, locals := 990, cells := 4 * (pot f a + pot f b), slots := 140 * (pot f a + pot f b) } s m args below meth c H locs (ce) (sl) (MQ below (ct_Q G f sz (fun v f' => v = some (.int (iI (frst ua ub fr))) ∧ exo G no1 f f')) args s (4 * (pot f a + pot f b)) (140 * (pot f a + pot f b)) (dw_A f sz)) (F0 m 17 ls []) := by
    intro N
    induction N with
    | zero => intros; omega
    | succ N ih =>
      intro k ce sl f1 H locs ls hN hk0 hkb hall hx1 hta1 htb1 hce hsl hw hl
      refine lv_iload hx hb d_DK_firstPlace_17 (lv_at hl 0 rfl) ?_
      refine lv_iload_n hx hb d_DK_firstPlace_19 rfl (lv_at hl 1 rfl) ?_
      refine di_icmp_gt (tgt := 42) hx hb d_DK_firstPlace_20 (by decide) ⟨by omega, by omega⟩ ⟨by omega, by omega⟩ (fun bq20 => ?_) (fun bq20 => ?_)
      · have hdef : frst ua ub fr = fst1 ua ub ((ua.length : Int) - ub.length - lo + 1).toNat lo := by unfold frst; rw [← hlo]
        refine lv_iconst (v := iI (-1)) hx hb d_DK_firstPlace_42 rfl ?_
        exact cn_iret hx hb hr hlk hw  (⟨by rw [hdef, fst1_none _ _ (fun j h1 h2 => hall j h1 (by omega))], hx1⟩) (by omega) (by omega) d_DK_firstPlace_43
      · refine lv_aload_n hx hb d_DK_firstPlace_23 rfl (lv_at hl 2 rfl) ?_
        refine lv_aload_n hx hb d_DK_firstPlace_24 rfl (lv_at hl 3 rfl) ?_
        refine lv_iload hx hb d_DK_firstPlace_25 (lv_at hl 0 rfl) ?_
        have hscl := sc_le (pot f1 a + pot f1 b) ua ub k
        refine cs_DK_118 X hz hw hl.1 (c_DK_standsAt l G f1 _ d e0 a b ua ub k (by omega) (by omega) hd he0 hta1 htb1) ⟨Nat.le_of_ble_eq_true rfl, Nat.le_of_ble_eq_true rfl⟩ ⟨by show ce + 4 * sc (pot f1 a + pot f1 b) ua ub k ≤ 4 * (pot f a + pot f b); omega, by show sl + 140 * sc (pot f1 a + pot f1 b) ua ub k ≤ 140 * (pot f a + pot f b); omega⟩ (Nat.le_of_ble_eq_true rfl) d_DK_firstPlace_27 (fun v f2 H locs hp hw hsz9 hkp9 hdm9 => ?_)
        obtain ⟨rfl, hx_f2, hp2⟩ := hp
        refine W.eq (g2 := F0 m 30 ls [.int (iI (b2 (sta ua ub k)))]) rfl ?_
        have hb1 := b2_01 (sta ua ub k)
        have htb2 := hx_f2.2.1 _ _ _ htb1
        have hta2 := hx_f2.2.1 _ _ _ hta1
        refine di_if_eq (tgt := 36) hx hb d_DK_firstPlace_30 (by decide) ⟨by omega, by omega⟩ (fun bq30 => ?_) (fun bq30 => ?_)
        · refine lv_iinc (v := iI (k + 1)) (lv' := [(4, .int (iI (k + 1))), (3, .int (iI ((ua.length : Int) - (ub.length : Int)))), (0, .ref a), (1, .ref b)]) hx hb d_DK_firstPlace_36 hl (k := 0) rfl (iI_add _ _) (by decide) rfl (fun ls hl => ?_)
          refine lv_goto (tgt := 17) hx hb d_DK_firstPlace_39 (by decide) ?_
          exact ih (k + 1) (ce + 4 * sc (pot f1 a + pot f1 b) ua ub k) (sl + 140 * sc (pot f1 a + pot f1 b) ua ub k) _ _ _ _ (by omega) (by omega) (by omega) (fun j h1 h2 => by
            by_cases e : j = k
            · rw [e]; exact b2_0 bq30
            · exact hall j (by omega) (by omega)) (hx1.tr hx_f2) (hta2) (htb2) (by omega) (by omega) hw (lv_sub hl [0, 1, 2, 3] rfl)
        · have hdef : frst ua ub fr = fst1 ua ub ((ua.length : Int) - ub.length - lo + 1).toNat lo := by unfold frst; rw [← hlo]
          refine lv_iload hx hb d_DK_firstPlace_33 (lv_at hl 0 rfl) ?_
          exact cn_iret hx hb hr hlk hw  (⟨by rw [hdef, fst1_some _ lo k (by omega) (by omega) (fun j h1 h2 => hall j h1 (by omega)) (b2_1 bq30)], hx1.tr hx_f2⟩) (by omega) (by omega) d_DK_firstPlace_35
  exact loop (((ua.length : Int) + 1 - lo).toNat + 1) (lo) (0) (0) _ _ _ _ (by omega) (Int.le_refl _) (by omega) (fun j h1 h2 => by omega) (exo.rf) (hta) (htb) (by omega) (by omega) hw (lv_sub hl [0, 1, 2, 3] rfl)
set_option maxRecDepth 100000 in
set_option maxHeartbeats 4000000 in
theorem c_DK_lastPlace (l : Launch) (G : ct_G) (f : dw_M) (sz : Nat) (d e0 a b : Nat) (ua ub : List Int) (fr : Int) (hfr : iR fr) (hd : d ≤ 24) (he0 : e0 ≤ 24) (hta : tx G d f a ua) (htb : tx G e0 f b ub) : cn l y_DK_lastPlace w_DK_lastPlace (43) (990) G f sz [.ref a, .ref b, .int (iI fr)] (fun v f' => v = some (.int (iI (last ua ub fr))) ∧ exo G no1 f f') (4 * (pot f a + pot f b)) (140 * (pot f a + pot f b)) := by
  refine cn_of (own := "TextDesk") (nm := "lastPlace") (ds := "(LTextDesk$Text;LTextDesk$Text;I)I") (by decide) (Nat.le_of_ble_eq_true rfl) ?_
  intro p e s m args below meth c ls X hnm hr hlk hs0 hz hw hl
  have hx := X.1
  have hb := X.2.1
  have hl : lv_has ls 5 [(0, .ref a), (1, .ref b), (2, .int (iI fr))] := hl
  have hla := hta.len
  have hlb := htb.len
  obtain ⟨hfr1, hfr2⟩ := hfr
  refine lv_aload_n hx hb d_DK_lastPlace_0 rfl (lv_at hl 0 rfl) ?_
  refine st_DK_77 X hz hw hl.1 hta ⟨Nat.le_of_ble_eq_true rfl, Nat.le_of_ble_eq_true rfl⟩ ⟨by show 0 ≤ 4 * (pot f a + pot f b); omega, by show 0 ≤ 140 * (pot f a + pot f b); omega⟩ (Nat.le_of_ble_eq_true rfl) d_DK_lastPlace_1 (fun H locs hw => ?_)
  refine W.eq (g2 := F0 m 4 ls [.int (iI ((ua.length : Int)))]) rfl ?_
  refine lv_aload_n hx hb d_DK_lastPlace_4 rfl (lv_at hl 1 rfl) ?_
  refine st_DK_77 X hz hw hl.1 htb ⟨Nat.le_of_ble_eq_true rfl, Nat.le_of_ble_eq_true rfl⟩ ⟨by show 0 ≤ 4 * (pot f a + pot f b); omega, by show 0 ≤ 140 * (pot f a + pot f b); omega⟩ (Nat.le_of_ble_eq_true rfl) d_DK_lastPlace_5 (fun H locs hw => ?_)
  refine W.eq (g2 := F0 m 8 ls [.int (iI ((ub.length : Int))), .int (iI ((ua.length : Int)))]) rfl ?_
  refine di_sub hx hb d_DK_lastPlace_8 ?_
  refine lv_istore_n (lv' := [(3, .int (iI ((ua.length : Int) - (ub.length : Int)))), (0, .ref a), (1, .ref b), (2, .int (iI fr))]) hx hb d_DK_lastPlace_9 rfl hl (by decide) rfl (fun ls hl => ?_)
  refine lv_iload_n hx hb d_DK_lastPlace_10 rfl (lv_at hl 3 rfl) ?_
  refine lv_iload_n hx hb d_DK_lastPlace_11 rfl (lv_at hl 0 rfl) ?_
  obtain ⟨lo, hlo⟩ : ∃ lo : Int, lo = if (ua.length : Int) - (ub.length : Int) < fr then (ua.length : Int) - (ub.length : Int) else fr := ⟨_, rfl⟩
  have hlo1 : -2147483648 ≤ lo ∧ lo ≤ (ua.length : Int) - (ub.length : Int) := by rw [hlo]; split <;> omega
  refine di_min X hl.1 mw_500 ⟨by omega, by omega⟩ ⟨by omega, by omega⟩ (z := lo) (hlo.symm) (Nat.le_of_ble_eq_true rfl) (Nat.le_of_ble_eq_true rfl) (by show 0 ≤ 4 * (pot f a + pot f b); omega) (by show 0 ≤ 140 * (pot f a + pot f b); omega) d_DK_lastPlace_12 ?_
  refine lv_istore (lv' := [(4, .int (iI lo)), (3, .int (iI ((ua.length : Int) - (ub.length : Int)))), (0, .ref a), (1, .ref b), (2, .int (iI fr))]) hx hb d_DK_lastPlace_15 hl (by decide) rfl (fun ls hl => ?_)
  have loop : ∀ (N : Nat) (k : Int) (ce : Nat) (sl : Nat) (f1 : dw_M) (H : Heap) (locs : List Loc) (ls : Array Slot), (k + 1).toNat < N → k ≤ lo → -2147483648 ≤ k → (∀ j : Int, k < j → j ≤ lo → sta ua ub j = false) → exo G no1 f f1 → tx G d f1 a ua → tx G e0 f1 b ub → ce + 4 * (pot f1 a + pot f1 b) ≤ 4 * (pot f a + pot f b) → sl + 140 * (pot f1 a + pot f1 b) ≤ 140 * (pot f a + pot f b) → dw G.1 dk_cl (dw_A f sz) s.heap f1 H locs → lv_has ls 5 [(4, .int (iI k)), (0, .ref a), (1, .ref b)] → W p l e { frames := 43, locals := 990, cells := 4 * (pot f a + pot f b), slots := 140 * (pot f a + pot f b) } s m args below meth c H locs (ce) (sl) (MQ below (ct_Q G f sz (fun v f' => v = some (.int (iI (last ua ub fr))) ∧ exo G no1 f f')) args s (4 * (pot f a + pot f b)) (140 * (pot f a + pot f b)) (dw_A f sz)) (F0 m 17 ls []) := by
    intro N
    induction N with
    | zero => intros; omega
    | succ N ih =>
      intro k ce sl f1 H locs ls hN hk0 hkb hall hx1 hta1 htb1 hce hsl hw hl
      refine lv_iload hx hb d_DK_lastPlace_17 (lv_at hl 0 rfl) ?_
      refine di_if_lt (tgt := 41) hx hb d_DK_lastPlace_19 (by decide) ⟨by omega, by omega⟩ (fun bq19 => ?_) (fun bq19 => ?_)
      · have hdef : last ua ub fr = lst1 ua ub (ua.length + 1) lo := by unfold last; rw [← hlo]
        refine lv_iconst (v := iI (-1)) hx hb d_DK_lastPlace_41 rfl ?_
        exact cn_iret hx hb hr hlk hw  (⟨by rw [hdef, lst1_none _ _ (fun j h1 h2 => hall j (by omega) h2)], hx1⟩) (by omega) (by omega) d_DK_lastPlace_42
      · refine lv_aload_n hx hb d_DK_lastPlace_22 rfl (lv_at hl 1 rfl) ?_
        refine lv_aload_n hx hb d_DK_lastPlace_23 rfl (lv_at hl 2 rfl) ?_
        refine lv_iload hx hb d_DK_lastPlace_24 (lv_at hl 0 rfl) ?_
        have hscl := sc_le (pot f1 a + pot f1 b) ua ub k
        refine cs_DK_118 X hz hw hl.1 (c_DK_standsAt l G f1 _ d e0 a b ua ub k (by omega) (by omega) hd he0 hta1 htb1) ⟨Nat.le_of_ble_eq_true rfl, Nat.le_of_ble_eq_true rfl⟩ ⟨by show ce + 4 * sc (pot f1 a + pot f1 b) ua ub k ≤ 4 * (pot f a + pot f b); omega, by show sl + 140 * sc (pot f1 a + pot f1 b) ua ub k ≤ 140 * (pot f a + pot f b); omega⟩ (Nat.le_of_ble_eq_true rfl) d_DK_lastPlace_26 (fun v f2 H locs hp hw hsz9 hkp9 hdm9 => ?_)
        obtain ⟨rfl, hx_f2, hp2⟩ := hp
        refine W.eq (g2 := F0 m 29 ls [.int (iI (b2 (sta ua ub k)))]) rfl ?_
        have hb1 := b2_01 (sta ua ub k)
        have htb2 := hx_f2.2.1 _ _ _ htb1
        have hta2 := hx_f2.2.1 _ _ _ hta1
        refine di_if_eq (tgt := 35) hx hb d_DK_lastPlace_29 (by decide) ⟨by omega, by omega⟩ (fun bq29 => ?_) (fun bq29 => ?_)
        · refine lv_iinc (v := iI (k + (-1))) (lv' := [(4, .int (iI (k + (-1)))), (0, .ref a), (1, .ref b)]) hx hb d_DK_lastPlace_35 hl (k := 0) rfl (iI_add _ _) (by decide) rfl (fun ls hl => ?_)
          refine lv_goto (tgt := 17) hx hb d_DK_lastPlace_38 (by decide) ?_
          exact ih (k + (-1)) (ce + 4 * sc (pot f1 a + pot f1 b) ua ub k) (sl + 140 * sc (pot f1 a + pot f1 b) ua ub k) _ _ _ _ (by omega) (by omega) (by omega) (fun j h1 h2 => by
            by_cases e : j = k
            · rw [e]; exact b2_0 bq29
            · exact hall j (by omega) (by omega)) (hx1.tr hx_f2) (hta2) (htb2) (by omega) (by omega) hw (lv_sub hl [0, 1, 2] rfl)
        · have hdef : last ua ub fr = lst1 ua ub (ua.length + 1) lo := by unfold last; rw [← hlo]
          refine lv_iload hx hb d_DK_lastPlace_32 (lv_at hl 0 rfl) ?_
          exact cn_iret hx hb hr hlk hw  (⟨by rw [hdef, lst1_some _ lo k (by omega) (by omega) (by omega) (fun j h1 h2 => hall j (by omega) h2) (b2_1 bq29)], hx1.tr hx_f2⟩) (by omega) (by omega) d_DK_lastPlace_34
  exact loop ((lo + 1).toNat + 1) (lo) (0) (0) _ _ _ _ (by omega) (Int.le_refl _) (by omega) (fun j h1 h2 => by omega) (exo.rf) (hta) (htb) (by omega) (by omega) hw (lv_sub hl [0, 2, 3] rfl)
