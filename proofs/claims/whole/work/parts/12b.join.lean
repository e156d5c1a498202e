set_option maxRecDepth 100000 in
set_option maxHeartbeats 4000000 in
theorem c_RW_appendRange_lf (l : Launch) (G : ct_G) (f : dw_M) (sz : Nat) (r q n b : Nat) (u us : List Int) (sp fr to : Int) (hfr : iR fr) (hto : iR to) (hrw : rw G f r q n u sp) (ht : lf G f b us) : cn l y_RW_appendRange w_RW_appendRange (2) (60) G f sz [.ref r, .ref b, .int (iI fr), .int (iI to)] (fun v f' => v = none ∧ rw G f' r q n (apl1 n u (sbl us fr to)) (apl2 n u (sbl us fr to) sp) ∧ ∀ a, a ≠ r → a ≠ q → f' a = f a) (0) (0) := by
  refine cn_of (own := "TextDesk$Row") (nm := "appendRange") (ds := "(LTextDesk$Sequence;II)V") (by decide) (Nat.le_of_ble_eq_true rfl) ?_
  intro p e s m args below meth c ls X hnm hr hlk hs0 hz hw hl
  have hx := X.1
  have hb := X.2.1
  have hl : lv_has ls 6 [(0, .ref r), (1, .ref b), (2, .int (iI fr)), (3, .int (iI to))] := hl
  have hG := X.E.ok
  obtain ⟨hfr1, hfr2⟩ := hfr
  obtain ⟨hto1, hto2⟩ := hto
  have hlen := ht.len
  obtain ⟨hul, hn⟩ := hrw.len
  refine lv_iload_n hx hb d_RW_appendRange_0 rfl (lv_at hl 3 rfl) ?_
  refine lv_aload_n hx hb d_RW_appendRange_1 rfl (lv_at hl 1 rfl) ?_
  refine sq_RW_29 X hz hw hl.1 (Or.inl ⟨0, ht⟩) ⟨Nat.le_of_ble_eq_true rfl, Nat.le_of_ble_eq_true rfl⟩ ⟨by show 0 ≤ 0; omega, by show 0 ≤ 0; omega⟩ (Nat.le_of_ble_eq_true rfl) d_RW_appendRange_2 (fun H locs hw => ?_)
  refine W.eq (g2 := F0 m 5 ls [.int (iI ((us.length : Int))), .int (iI to)]) rfl ?_
  obtain ⟨en, hen⟩ : ∃ en : Int, en = if (us.length : Int) < to then (us.length : Int) else to := ⟨_, rfl⟩
  have hen1 : en ≤ (us.length : Int) := by rw [hen]; split <;> omega
  have hen2 : -2147483648 ≤ en := by rw [hen]; split <;> omega
  refine di_min X hl.1 mw_249 ⟨by omega, by omega⟩ ⟨by omega, by omega⟩ (z := en) (hen.symm) (Nat.le_of_ble_eq_true rfl) (Nat.le_of_ble_eq_true rfl) (by show 0 ≤ 0; omega) (by show 0 ≤ 0; omega) d_RW_appendRange_5 ?_
  refine lv_istore (lv' := [(4, .int (iI en)), (0, .ref r), (1, .ref b), (2, .int (iI fr)), (3, .int (iI to))]) hx hb d_RW_appendRange_8 hl (by decide) rfl (fun ls hl => ?_)
  refine lv_iload_n hx hb d_RW_appendRange_10 rfl (lv_at hl 3 rfl) ?_
  refine lv_iconst (v := iI (0)) hx hb d_RW_appendRange_11 rfl ?_
  obtain ⟨lo, hlo⟩ : ∃ lo : Int, lo = if fr < 0 then 0 else fr := ⟨_, rfl⟩
  have hlo1 : 0 ≤ lo ∧ lo < 2147483648 := by rw [hlo]; split <;> omega
  refine di_max X hl.1 mw_38 ⟨by omega, by omega⟩ ⟨by omega, by omega⟩ (z := lo) (hlo.symm) (Nat.le_of_ble_eq_true rfl) (Nat.le_of_ble_eq_true rfl) (by show 0 ≤ 0; omega) (by show 0 ≤ 0; omega) d_RW_appendRange_12 ?_
  refine lv_istore (lv' := [(5, .int (iI lo)), (4, .int (iI en)), (0, .ref r), (1, .ref b), (2, .int (iI fr)), (3, .int (iI to))]) hx hb d_RW_appendRange_15 hl (by decide) rfl (fun ls hl => ?_)
  have loop : ∀ (N : Nat) (k : Int) (f1 : dw_M) (H : Heap) (locs : List Loc) (ls : Array Slot), (en - k).toNat < N → lo ≤ k → (k ≤ en ∨ k = lo) → rw G f1 r q n (apl1 n u (sbl us lo k)) (apl2 n u (sbl us lo k) sp) → (∀ a, a ≠ r → a ≠ q → f1 a = f a) → dw G.1 dk_cl (dw_A f sz) s.heap f1 H locs → lv_has ls 6 [(5, .int (iI k)), (4, .int (iI en)), (0, .ref r), (1, .ref b)] → W p l e { frames := 2, locals := 60, cells := 0, slots := 0 } s m args below meth c H locs (0) (0) (MQ below (ct_Q G f sz (fun v f' => v = none ∧ rw G f' r q n (apl1 n u (sbl us fr to)) (apl2 n u (sbl us fr to) sp) ∧ ∀ a, a ≠ r → a ≠ q → f' a = f a)) args s (0) (0) (dw_A f sz)) (F0 m 17 ls []) := by
    intro N
    induction N with
    | zero => intros; omega
    | succ N ih =>
      intro k f1 H locs ls hN hk1 hk2 hrw1 hkp hw hl
      refine lv_iload hx hb d_RW_appendRange_17 (lv_at hl 0 rfl) ?_
      refine lv_iload hx hb d_RW_appendRange_19 (lv_at hl 1 rfl) ?_
      refine di_icmp_ge (tgt := 40) hx hb d_RW_appendRange_21 (by decide) ⟨by omega, by omega⟩ ⟨by omega, by omega⟩ (fun bq21 => ?_) (fun bq21 => ?_)
      · exact cn_vret hx hb hr hlk hw  (⟨rfl, by rw [← sbl_end hlo hen hk1 hk2 (by omega)]; exact hrw1, hkp⟩) (Nat.le_refl _) (Nat.le_refl _) d_RW_appendRange_40
      · refine lv_aload_n hx hb d_RW_appendRange_24 rfl (lv_at hl 2 rfl) ?_
        refine lv_aload_n hx hb d_RW_appendRange_25 rfl (lv_at hl 3 rfl) ?_
        refine lv_iload hx hb d_RW_appendRange_26 (lv_at hl 0 rfl) ?_
        have ht1 : lf G f1 b us := ht.agree (fun a9 x9 hx9 ht9 => by rw [hkp a9 (fun z => rw_ntc hG hrw a9 (Or.inl z) x9 hx9 ht9) (fun z => rw_ntc hG hrw a9 (Or.inr z) x9 hx9 ht9)]; exact hx9)
        refine sl_RW_35 X hz hw hl.1 ht1 ⟨by omega, by omega⟩ ⟨Nat.le_of_ble_eq_true rfl, Nat.le_of_ble_eq_true rfl⟩ ⟨by show 0 ≤ 0; omega, by show 0 ≤ 0; omega⟩ (Nat.le_of_ble_eq_true rfl) d_RW_appendRange_28 (fun H locs hw => ?_)
        refine W.eq (g2 := F0 m 31 ls [.int (iI (gt us k)), .ref r]) rfl ?_
        have hgk : gt us k = us.getD k.toNat 0 := gt_in (by omega) (by omega)
        refine cs_RW_39 X hz hw hl.1 hrw1.choose_spec.1 (c_RW_append l G f1 _ r q n _ _ (gt us k) hrw1) ⟨Nat.le_of_ble_eq_true rfl, Nat.le_of_ble_eq_true rfl⟩ ⟨by show 0 + 0 ≤ 0; omega, by show 0 + 0 ≤ 0; omega⟩ (Nat.le_of_ble_eq_true rfl) d_RW_appendRange_31 (fun v f2 H locs hp hw hsz9 hkp9 hdm9 => ?_)
        obtain ⟨rfl, hrw2, hk2⟩ := hp
        rw [apl1_snoc _ hul, apl2_snoc _ hul, hgk, ← sbl_snoc (by omega) (by omega) (by omega)] at hrw2
        refine W.eq (g2 := F0 m 34 ls []) rfl ?_
        refine lv_iinc (v := iI (k + 1)) (lv' := [(5, .int (iI (k + 1))), (4, .int (iI en)), (0, .ref r), (1, .ref b)]) hx hb d_RW_appendRange_34 hl (k := 0) rfl (iI_add _ _) (by decide) rfl (fun ls hl => ?_)
        refine lv_goto (tgt := 17) hx hb d_RW_appendRange_37 (by decide) ?_
        exact ih (k + 1) _ _ _ _ (by omega) (by omega) (by omega) (hrw2) (fun a h8 h9 => by rw [hk2 a h8 h9]; exact hkp a h8 h9) hw (lv_sub hl [0, 1, 2, 3] rfl)
  exact loop ((en - lo).toNat + 1) (lo) _ _ _ _ (by omega) (Int.le_refl _) (Or.inr rfl) (by rw [sbl_nil (Int.le_refl _) hlo1.1, apl1_nil, apl2_nil hul]; exact hrw) (fun _ _ _ => rfl) hw (lv_sub hl [0, 1, 2, 3] rfl)
set_option maxRecDepth 100000 in
set_option maxHeartbeats 4000000 in
theorem c_TX_pourInto_NT (l : Launch) (G : ct_G) (f : dw_M) (sz : Nat) (a r q n : Nat) (u us : List Int) (sp : Int) (hrw : rw G f r q n u sp) (ht : ntx G f a us) : cn l y_TX_pourInto w_TX_pourInto (3) (90) G f sz [.ref a, .ref r] (fun v f' => v = none ∧ rw G f' r q n (apl1 n u us) (apl2 n u us sp) ∧ ∀ a, a ≠ r → a ≠ q → f' a = f a) (0) (0) := by
  refine cn_of (own := "TextDesk$Text") (nm := "pourInto") (ds := "(LTextDesk$Row;)V") (by decide) (Nat.le_of_ble_eq_true rfl) ?_
  intro p e s m args below meth c ls X hnm hr hlk hs0 hz hw hl
  have hx := X.1
  have hb := X.2.1
  have hl : lv_has ls 2 [(0, .ref a), (1, .ref r)] := hl
  have htl : lf G f a us := Or.inl ht
  have hlen := htl.len
  obtain ⟨y, g, h0, -⟩ := ht
  refine lv_aload_n hx hb d_TX_pourInto_0 rfl (lv_at hl 1 rfl) ?_
  refine lv_aload_n hx hb d_TX_pourInto_1 rfl (lv_at hl 0 rfl) ?_
  refine lv_iconst (v := iI (0)) hx hb d_TX_pourInto_2 rfl ?_
  refine lv_aload_n hx hb d_TX_pourInto_3 rfl (lv_at hl 0 rfl) ?_
  refine gf_TX_7_NT X hw h0 d_TX_pourInto_4 ?_
  refine cs_TX_17 X hz hw hl.1 hrw.choose_spec.1 (c_RW_appendRange_lf l G f _ r q n a u us sp 0 (us.length : Int) ⟨by decide, by decide⟩ ⟨by omega, by omega⟩ hrw htl) ⟨Nat.le_of_ble_eq_true rfl, Nat.le_of_ble_eq_true rfl⟩ ⟨by show 0 + 0 ≤ 0; omega, by show 0 + 0 ≤ 0; omega⟩ (Nat.le_of_ble_eq_true rfl) d_TX_pourInto_7 (fun v f2 H locs hp hw hsz9 hkp9 hdm9 => ?_)
  obtain ⟨rfl, hrw2, hk2⟩ := hp
  rw [sbl_all] at hrw2
  refine W.eq (g2 := F0 m 10 ls []) rfl ?_
  exact cn_vret hx hb hr hlk hw  (⟨rfl, hrw2, hk2⟩) (Nat.le_refl _) (Nat.le_refl _) d_TX_pourInto_10
set_option maxRecDepth 100000 in
set_option maxHeartbeats 4000000 in
theorem c_TX_pourInto_WT (l : Launch) (G : ct_G) (f : dw_M) (sz : Nat) (a r q n : Nat) (u us : List Int) (sp : Int) (hrw : rw G f r q n u sp) (ht : wtx G f a us) : cn l y_TX_pourInto w_TX_pourInto (3) (90) G f sz [.ref a, .ref r] (fun v f' => v = none ∧ rw G f' r q n (apl1 n u us) (apl2 n u us sp) ∧ ∀ a, a ≠ r → a ≠ q → f' a = f a) (0) (0) := by
  refine cn_of (own := "TextDesk$Text") (nm := "pourInto") (ds := "(LTextDesk$Row;)V") (by decide) (Nat.le_of_ble_eq_true rfl) ?_
  intro p e s m args below meth c ls X hnm hr hlk hs0 hz hw hl
  have hx := X.1
  have hb := X.2.1
  have hl : lv_has ls 2 [(0, .ref a), (1, .ref r)] := hl
  have htl : lf G f a us := Or.inr ht
  have hlen := htl.len
  obtain ⟨y, g, h0, -⟩ := ht
  refine lv_aload_n hx hb d_TX_pourInto_0 rfl (lv_at hl 1 rfl) ?_
  refine lv_aload_n hx hb d_TX_pourInto_1 rfl (lv_at hl 0 rfl) ?_
  refine lv_iconst (v := iI (0)) hx hb d_TX_pourInto_2 rfl ?_
  refine lv_aload_n hx hb d_TX_pourInto_3 rfl (lv_at hl 0 rfl) ?_
  refine gf_TX_7_WT X hw h0 d_TX_pourInto_4 ?_
  refine cs_TX_17 X hz hw hl.1 hrw.choose_spec.1 (c_RW_appendRange_lf l G f _ r q n a u us sp 0 (us.length : Int) ⟨by decide, by decide⟩ ⟨by omega, by omega⟩ hrw htl) ⟨Nat.le_of_ble_eq_true rfl, Nat.le_of_ble_eq_true rfl⟩ ⟨by show 0 + 0 ≤ 0; omega, by show 0 + 0 ≤ 0; omega⟩ (Nat.le_of_ble_eq_true rfl) d_TX_pourInto_7 (fun v f2 H locs hp hw hsz9 hkp9 hdm9 => ?_)
  obtain ⟨rfl, hrw2, hk2⟩ := hp
  rw [sbl_all] at hrw2
  refine W.eq (g2 := F0 m 10 ls []) rfl ?_
  exact cn_vret hx hb hr hlk hw  (⟨rfl, hrw2, hk2⟩) (Nat.le_refl _) (Nat.le_refl _) d_TX_pourInto_10
/-- pourInto of a joined text whose parts have at most d levels -/
def jp (l : Launch) (G : ct_G) (d : Nat) : Prop := ∀ (f : dw_M) (sz a r q n : Nat) (u us : List Int) (sp : Int) (x y : Nat) (ux uy : List Int) (fl : Option Nat), f a = some (.inr (3, [.int (iI us.length), .int (iI (nar us)), .ref x, .ref y, va_rf fl])) → tx G d f x ux → tx G d f y uy → us = ux ++ uy → (∀ q, fl = some q → lf G f q us) → rw G f r q n u sp → cn l y_JT_pourInto w_JT_pourInto (4 + d) (120 + 21 * d) G f sz [.ref a, .ref r] (fun v f' => v = none ∧ rw G f' r q n (apl1 n u us) (apl2 n u us sp) ∧ ∀ b, b ≠ r → b ≠ q → f' b = f b) 0 0
section SP
variable {p : Program} {l : Launch} {e : Env} {R : Room} {s : State} {m : MethodId} {args : Array Value} {below : List Frame} {meth : Method} {c : Code} {H : Heap} {locs : List Loc} {cells slots : Nat} {Q : State → Prop}
variable {cc : ByteArray} {pc nL : Nat} {ls : Array Slot} {rest : List Value} {G : ct_G} {A : Nat → Prop} {a b : Nat} {f : dw_M} {H0 : Heap} {fr lo mc ms : Nat} {post : Option Value → dw_M → Prop} {px : String → dw_M → Prop}
theorem sp_JT_47 {d r q n : Nat} {u us : List Int} {sp : Int} (hj : ∀ d', d' < d → jp l G d') (X : cx G "TextDesk$JoinedText" p s m args c cc nL) (hz : ct_z G A s) (hw : dw G.1 dk_cl A s.heap f H locs) (hls : ls.size = nL) (ht : tx G d f b us) (hrw : rw G f r q n u sp) (hR : 4 + d ≤ R.frames ∧ 120 + 21 * d ≤ R.locals) (hf : cells ≤ R.cells ∧ slots ≤ R.slots) (hW : (rest.map fun v => v.category).sum ≤ 8) (hdg : decode cc pc = .ok (.invokevirtual 47, 3))
    (kk : ∀ (f' : dw_M) (H1 : Heap) (locs1 : List Loc), rw G f' r q n (apl1 n u us) (apl2 n u us sp) → (∀ b, b ≠ r → b ≠ q → f' b = f b) → dw G.1 dk_cl A s.heap f' H1 locs1 → W p l e R s m args below meth c H1 locs1 cells slots Q (F0 m (pc + 3) ls rest)) : W p l e R s m args below meth c H locs cells slots Q (F0 m pc ls (.ref r :: .ref b :: rest)) := by
  have hl : lf G f b us → W p l e R s m args below meth c H locs cells slots Q (F0 m pc ls (.ref r :: .ref b :: rest)) := by
    intro h
    rcases h with h | h
    · refine cs_JT_47_NT X hz hw hls h.choose_spec.choose_spec.1 (c_TX_pourInto_NT l G f _ b r q n u us sp hrw h) ⟨by omega, by omega⟩ ⟨by omega, by omega⟩ hW hdg (fun v f9 H1 locs1 hp hw _ _ _ => ?_)
      obtain ⟨rfl, h1, h2⟩ := hp
      exact kk f9 H1 locs1 h1 h2 hw
    · refine cs_JT_47_WT X hz hw hls h.choose_spec.choose_spec.1 (c_TX_pourInto_WT l G f _ b r q n u us sp hrw h) ⟨by omega, by omega⟩ ⟨by omega, by omega⟩ hW hdg (fun v f9 H1 locs1 hp hw _ _ _ => ?_)
      obtain ⟨rfl, h1, h2⟩ := hp
      exact kk f9 H1 locs1 h1 h2 hw
  cases d with
  | zero => exact hl ht
  | succ d =>
    rcases ht with h | ⟨x, y, ux, uy, fl, h1, h2, h3, h4, h5, h6⟩
    · exact hl h
    · refine cs_JT_47_JT X hz hw hls h1 (hj d (Nat.lt_succ_self d) f _ b r q n u us sp x y ux uy fl h1 h2 h3 h4 h5 hrw) ⟨by omega, by omega⟩ ⟨by omega, by omega⟩ hW hdg (fun v f9 H1 locs1 hp hw _ _ _ => ?_)
      obtain ⟨rfl, h1, h2⟩ := hp
      exact kk f9 H1 locs1 h1 h2 hw
end SP
theorem jp_all (l : Launch) (G : ct_G) : ∀ d, jp l G d := by
  intro d
  induction d using Nat.strongRecOn with
  | ind d ih =>
    intro f sz a r q n u us sp x y ux uy fl h0 htx hty hus hfl hrw
    refine cn_of (own := "TextDesk$JoinedText") (nm := "pourInto") (ds := "(LTextDesk$Row;)V") (by decide) (Nat.le_of_ble_eq_true rfl) ?_
    intro p e s m args below meth c ls X hnm hr hlk hs0 hz hw hl
    have hx := X.1
    have hb := X.2.1
    have hl : lv_has ls 2 [(0, .ref a), (1, .ref r)] := hl
    have hG := X.E.ok
    obtain ⟨hul, hn⟩ := hrw.len
    cases fl with
    | none =>
      refine lv_aload_n hx hb d_JT_pourInto_0 rfl (lv_at hl 0 rfl) ?_
      refine gf_JT_24_JT X hw h0 d_JT_pourInto_1 ?_
      refine lv_ifnullN (tgt := 18) hx hb d_JT_pourInto_4 (by decide) ?_
      refine lv_aload_n hx hb d_JT_pourInto_18 rfl (lv_at hl 0 rfl) ?_
      refine gf_JT_15_JT X hw h0 d_JT_pourInto_19 ?_
      refine lv_aload_n hx hb d_JT_pourInto_22 rfl (lv_at hl 1 rfl) ?_
      refine sp_JT_47 (d := d) (u := u) (us := ux) (sp := sp) ih X hz hw hl.1 htx hrw ⟨by show 4 + d ≤ 4 + d; omega, by show 120 + 21 * d ≤ 120 + 21 * d; omega⟩ ⟨by show 0 ≤ 0; omega, by show 0 ≤ 0; omega⟩ (Nat.le_of_ble_eq_true rfl) d_JT_pourInto_23 (fun f2 H locs hr_f2 hk_f2 hw => ?_)
      have hag : ∀ a9 x9, f a9 = some x9 → tcl G x9 → f2 a9 = some x9 := (fun a9 x9 hx9 ht9 => by rw [hk_f2 a9 (fun z => rw_ntc hG hrw a9 (Or.inl z) x9 hx9 ht9) (fun z => rw_ntc hG hrw a9 (Or.inr z) x9 hx9 ht9)]; exact hx9)
      refine lv_aload_n hx hb d_JT_pourInto_26 rfl (lv_at hl 0 rfl) ?_
      refine gf_JT_21_JT X hw (hag _ _ h0 (Or.inl ⟨3, _, rfl, by decide, by decide⟩)) d_JT_pourInto_27 ?_
      refine lv_aload_n hx hb d_JT_pourInto_30 rfl (lv_at hl 1 rfl) ?_
      refine sp_JT_47 (d := d) (u := (apl1 n u ux)) (us := uy) (sp := (apl2 n u ux sp)) ih X hz hw hl.1 (tx.agree hag hty) hr_f2 ⟨by show 4 + d ≤ 4 + d; omega, by show 120 + 21 * d ≤ 120 + 21 * d; omega⟩ ⟨by show 0 ≤ 0; omega, by show 0 ≤ 0; omega⟩ (Nat.le_of_ble_eq_true rfl) d_JT_pourInto_31 (fun f3 H locs hr_f3 hk_f3 hw => ?_)
      rw [apl_app1 hul, apl_app2 hul, ← hus] at hr_f3
      exact cn_vret hx hb hr hlk hw  (⟨rfl, hr_f3, fun b h8 h9 => by rw [hk_f3 b h8 h9]; exact hk_f2 b h8 h9⟩) (Nat.le_refl _) (Nat.le_refl _) d_JT_pourInto_34
    | some y2 =>
      refine lv_aload_n hx hb d_JT_pourInto_0 rfl (lv_at hl 0 rfl) ?_
      refine gf_JT_24_JT X hw h0 d_JT_pourInto_1 ?_
      refine lv_ifnull hx hb d_JT_pourInto_4 ?_
      refine lv_aload_n hx hb d_JT_pourInto_7 rfl (lv_at hl 0 rfl) ?_
      refine gf_JT_24_JT X hw h0 d_JT_pourInto_8 ?_
      refine lv_aload_n hx hb d_JT_pourInto_11 rfl (lv_at hl 1 rfl) ?_
      refine sp_JT_47 (d := d) (u := u) (us := us) (sp := sp) ih X hz hw hl.1 ((hfl y2 rfl).tx d) hrw ⟨by show 4 + d ≤ 4 + d; omega, by show 120 + 21 * d ≤ 120 + 21 * d; omega⟩ ⟨by show 0 ≤ 0; omega, by show 0 ≤ 0; omega⟩ (Nat.le_of_ble_eq_true rfl) d_JT_pourInto_12 (fun f2 H locs hr_f2 hk_f2 hw => ?_)
      refine lv_goto (tgt := 34) hx hb d_JT_pourInto_15 (by decide) ?_
      exact cn_vret hx hb hr hlk hw  (⟨rfl, hr_f2, hk_f2⟩) (Nat.le_refl _) (Nat.le_refl _) d_JT_pourInto_34
set_option maxRecDepth 100000 in
set_option maxHeartbeats 4000000 in
theorem c_DK_textOf (l : Launch) (G : ct_G) (f : dw_M) (sz : Nat) (r q n : Nat) (us : List Int) (sp : Int) (hus : ∀ u ∈ us, 0 ≤ u ∧ u < 65536) (hlen : us.length ≤ 60) (hrw : rw G f r q n us sp) : cn l y_DK_textOf w_DK_textOf (4) (110) G f sz [.ref r] (fun v f' => ∃ a, v = some (.ref a) ∧ f a = none ∧ lf G f' a us ∧ ∀ b x, f b = some x → f' b = some x) (2) (3 + us.length) := by
  refine cn_of (own := "TextDesk") (nm := "textOf") (ds := "(LTextDesk$Row;)LTextDesk$Text;") (by decide) (Nat.le_of_ble_eq_true rfl) ?_
  intro p e s m args below meth c ls X hnm hr hlk hs0 hz hw hl
  have hx := X.1
  have hb := X.2.1
  have hl : lv_has ls 2 [(0, .ref r)] := hl
  refine lv_iconst (v := iI (0)) hx hb d_DK_textOf_0 rfl ?_
  refine lv_istore_n (lv' := [(1, .int (iI 0)), (0, .ref r)]) hx hb d_DK_textOf_1 rfl hl (by decide) rfl (fun ls hl => ?_)
  have loop : ∀ (N : Nat) (k : Int) (H : Heap) (locs : List Loc) (ls : Array Slot), ((us.length : Int) - k).toNat < N → 0 ≤ k → k ≤ (us.length : Int) → (∀ j : Nat, (j : Int) < k → us.getD j 0 < 256) → dw G.1 dk_cl (dw_A f sz) s.heap f H locs → lv_has ls 2 [(1, .int (iI k)), (0, .ref r)] → W p l e { frames := 4, locals := 110, cells := 2, slots := 3 + us.length } s m args below meth c H locs (0) (0) (MQ below (ct_Q G f sz (fun v f' => ∃ a, v = some (.ref a) ∧ f a = none ∧ lf G f' a us ∧ ∀ b x, f b = some x → f' b = some x)) args s (2) (3 + us.length) (dw_A f sz)) (F0 m 2 ls []) := by
    intro N
    induction N with
    | zero => intros; omega
    | succ N ih =>
      intro k H locs ls hN hk0 hk1 hall hw hl
      refine lv_iload_n hx hb d_DK_textOf_2 rfl (lv_at hl 0 rfl) ?_
      refine lv_aload_n hx hb d_DK_textOf_3 rfl (lv_at hl 1 rfl) ?_
      refine cs_DK_60 X hz hw hl.1 hrw.choose_spec.1 (c_RW_size l G f _ r q n us sp hrw) ⟨Nat.le_of_ble_eq_true rfl, Nat.le_of_ble_eq_true rfl⟩ ⟨by show 0 + 0 ≤ 2; omega, by show 0 + 0 ≤ 3 + us.length; omega⟩ (Nat.le_of_ble_eq_true rfl) d_DK_textOf_4 (fun v f9 H locs hp hw hsz9 hkp9 hdm9 => ?_)
      obtain ⟨rfl, hfe⟩ := hp
      rw [hfe] at hw
      refine W.eq (g2 := F0 m 7 ls [.int (iI ((us.length : Int))), .int (iI k)]) rfl ?_
      refine di_icmp_ge (tgt := 36) hx hb d_DK_textOf_7 (by decide) ⟨by omega, by omega⟩ ⟨by omega, by omega⟩ (fun bq7 => ?_) (fun bq7 => ?_)
      · refine nw_DK_193 X hw (by show 0 + 1 ≤ 2; omega) (by show 0 + 3 ≤ 3 + us.length; omega) d_DK_textOf_36 (fun t H hq_t hw => ?_)
        obtain ⟨f2, e_f2⟩ : ∃ g9 : dw_M, g9 = dw_up f t (.inr (1, [.int (iI 0), .int (iI 0), .null])) := ⟨_, rfl⟩
        rw [← e_f2] at hw
        have k_f2_t : f2 t = some (.inr (1, [.int (iI 0), .int (iI 0), .null])) := by rw [e_f2]; exact dw_up_self _ _ _
        refine lv_dup hx hb d_DK_textOf_39 rfl ?_
        refine lv_aload_n hx hb d_DK_textOf_40 rfl (lv_at hl 1 rfl) ?_
        have hrw3 : rw G f2 r q n us sp := by obtain ⟨g9, h3, h4, h5⟩ := hrw; exact ⟨g9, by rw [e_f2]; exact dw_keep h3 (dw_neN h3 hq_t), by rw [e_f2]; exact dw_keep h4 (dw_neN h4 hq_t), h5⟩
        refine cs_DK_195 X hz hw hl.1 (c_NT_init l G f2 _ t r q n us sp (fun u hu => ⟨(hus u hu).1, by obtain ⟨i, hi, rfl⟩ := mem_getD hu; exact hall i (by omega)⟩) hlen hrw3 k_f2_t) ⟨Nat.le_of_ble_eq_true rfl, Nat.le_of_ble_eq_true rfl⟩ ⟨by show 0 + 1 + 1 ≤ 2; omega, by show 0 + 3 + us.length ≤ 3 + us.length; omega⟩ (Nat.le_of_ble_eq_true rfl) d_DK_textOf_41 (fun v f5 H locs hp hw hsz9 hkp9 hdm9 => ?_)
        obtain ⟨rfl, ht5, hk5⟩ := hp
        refine W.eq (g2 := F0 m 44 ls [.ref t]) rfl ?_
        exact cn_aret hx hb hr hlk hw (Or.inr ⟨_, rfl⟩) (⟨t, rfl, hq_t, Or.inl ht5, fun b x h9 => hk5 b x (dw_neN h9 hq_t) (by rw [e_f2]; exact dw_keep h9 (dw_neN h9 hq_t))⟩) (by omega) (by omega) d_DK_textOf_44
      · refine lv_aload_n hx hb d_DK_textOf_10 rfl (lv_at hl 1 rfl) ?_
        refine lv_iload_n hx hb d_DK_textOf_11 rfl (lv_at hl 0 rfl) ?_
        refine cs_DK_88 X hz hw hl.1 hrw.choose_spec.1 (c_RW_get l G f _ r q n us sp k ⟨by omega, by omega⟩ hrw) ⟨Nat.le_of_ble_eq_true rfl, Nat.le_of_ble_eq_true rfl⟩ ⟨by show 0 + 0 ≤ 2; omega, by show 0 + 0 ≤ 3 + us.length; omega⟩ (Nat.le_of_ble_eq_true rfl) d_DK_textOf_12 (fun v f9 H locs hp hw hsz9 hkp9 hdm9 => ?_)
        obtain ⟨rfl, hfe⟩ := hp
        rw [hfe] at hw
        have hu := hus _ (getD_mem (us := us) (k := k.toNat) (by omega))
        have hgk : gt us k = us.getD k.toNat 0 := gt_in (by omega) (by omega)
        refine W.eq (g2 := F0 m 15 ls [.int (iI (gt us k))]) rfl ?_
        refine lv_sipush (v := iI (256)) hx hb d_DK_textOf_15 rfl ?_
        refine di_icmp_lt (tgt := 30) hx hb d_DK_textOf_18 (by decide) ⟨by omega, by omega⟩ ⟨by omega, by omega⟩ (fun bq18 => ?_) (fun bq18 => ?_)
        · refine lv_iinc (v := iI (k + 1)) (lv' := [(1, .int (iI (k + 1))), (0, .ref r)]) hx hb d_DK_textOf_30 hl (k := 0) rfl (iI_add _ _) (by decide) rfl (fun ls hl => ?_)
          refine lv_goto (tgt := 2) hx hb d_DK_textOf_33 (by decide) ?_
          exact ih (k + 1) _ _ _ (by omega) (by omega) (by omega) (fun j hj => by
            by_cases e : j = k.toNat
            · rw [e, ← hgk]; omega
            · exact hall j (by omega)) hw (lv_sub hl [0, 1] rfl)
        · refine nw_DK_188 X hw (by show 0 + 1 ≤ 2; omega) (by show 0 + 3 ≤ 3 + us.length; omega) d_DK_textOf_21 (fun t H hq_t hw => ?_)
          obtain ⟨f2, e_f2⟩ : ∃ g9 : dw_M, g9 = dw_up f t (.inr (2, [.int (iI 0), .int (iI 0), .null])) := ⟨_, rfl⟩
          rw [← e_f2] at hw
          have k_f2_t : f2 t = some (.inr (2, [.int (iI 0), .int (iI 0), .null])) := by rw [e_f2]; exact dw_up_self _ _ _
          refine lv_dup hx hb d_DK_textOf_24 rfl ?_
          refine lv_aload_n hx hb d_DK_textOf_25 rfl (lv_at hl 1 rfl) ?_
          have hrw3 : rw G f2 r q n us sp := by obtain ⟨g9, h3, h4, h5⟩ := hrw; exact ⟨g9, by rw [e_f2]; exact dw_keep h3 (dw_neN h3 hq_t), by rw [e_f2]; exact dw_keep h4 (dw_neN h4 hq_t), h5⟩
          refine cs_DK_190 X hz hw hl.1 (c_WT_init l G f2 _ t r q n us sp hus ⟨_, getD_mem (us := us) (k := k.toNat) (by omega), by rw [← hgk]; omega⟩ hlen hrw3 k_f2_t) ⟨Nat.le_of_ble_eq_true rfl, Nat.le_of_ble_eq_true rfl⟩ ⟨by show 0 + 1 + 1 ≤ 2; omega, by show 0 + 3 + us.length ≤ 3 + us.length; omega⟩ (Nat.le_of_ble_eq_true rfl) d_DK_textOf_26 (fun v f5 H locs hp hw hsz9 hkp9 hdm9 => ?_)
          obtain ⟨rfl, ht5, hk5⟩ := hp
          refine W.eq (g2 := F0 m 29 ls [.ref t]) rfl ?_
          exact cn_aret hx hb hr hlk hw (Or.inr ⟨_, rfl⟩) (⟨t, rfl, hq_t, Or.inr ht5, fun b x h9 => hk5 b x (dw_neN h9 hq_t) (by rw [e_f2]; exact dw_keep h9 (dw_neN h9 hq_t))⟩) (by omega) (by omega) d_DK_textOf_29
  exact loop (((us.length : Int) - 0).toNat + 1) (0) _ _ _ (by omega) (by omega) (by omega) (fun j hj => by omega) hw (lv_sub hl [0, 1] rfl)
set_option maxRecDepth 100000 in
set_option maxHeartbeats 4000000 in
theorem c_JT_get (l : Launch) (G : ct_G) (f : dw_M) (sz : Nat) (d a : Nat) (us : List Int) (k : Int) (hd : d ≤ 24) (hk : iR k) (x y : Nat) (ux uy : List Int) (fl : Option Nat) (h0 : f a = some (.inr (3, [.int (iI us.length), .int (iI (nar us)), .ref x, .ref y, va_rf fl]))) (htx : tx G d f x ux) (hty : tx G d f y uy) (hus : us = ux ++ uy) (hfl : ∀ q, fl = some q → lf G f q us) (hlen : us.length ≤ 60) : cn l y_JT_get w_JT_get (41) (921) G f sz [.ref a, .int (iI k)] (fun v f' => v = some (.int (iI (gt us k))) ∧ exo G no1 f f' ∧ pot f' a = 0) (4 * pot f a) (140 * pot f a) := by
  refine cn_of (own := "TextDesk$JoinedText") (nm := "get") (ds := "(I)I") (by decide) (Nat.le_of_ble_eq_true rfl) ?_
  intro p e s m args below meth c ls X hnm hr hlk hs0 hz hw hl
  have hx := X.1
  have hb := X.2.1
  have hl : lv_has ls 3 [(0, .ref a), (1, .int (iI k))] := hl
  have hta : tx G (d + 1) f a us := Or.inr ⟨x, y, ux, uy, fl, h0, htx, hty, hus, hfl, hlen⟩
  cases fl with
  | none =>
    have hpt : pot f a = 1 := by simp [pot, h0, va_rf]
    refine lv_aload_n hx hb d_JT_get_0 rfl (lv_at hl 0 rfl) ?_
    refine gf_JT_24_JT X hw h0 d_JT_get_1 ?_
    refine lv_ifnonnullN hx hb d_JT_get_4 ?_
    refine nw_JT_27 X hw (by show 0 + 1 ≤ 4 * pot f a; omega) (by show 0 + 3 ≤ 140 * pot f a; omega) d_JT_get_7 (fun w1 H hq_w1 hw => ?_)
    obtain ⟨f2, e_f2⟩ : ∃ g9 : dw_M, g9 = dw_up f w1 (.inr (4, [.null, .int (iI 0), .int (iI 0)])) := ⟨_, rfl⟩
    rw [← e_f2] at hw
    have k_f2_a : f2 a = some (.inr (3, [.int (iI ((us.length : Int))), .int (iI (nar us)), .ref x, .ref y, .null])) := by rw [e_f2]; exact dw_keep h0 (dw_neN h0 hq_w1)
    have k_f2_w1 : f2 w1 = some (.inr (4, [.null, .int (iI 0), .int (iI 0)])) := by rw [e_f2]; exact dw_up_self _ _ _
    refine lv_dup hx hb d_JT_get_10 rfl ?_
    refine lv_aload_n hx hb d_JT_get_11 rfl (lv_at hl 0 rfl) ?_
    refine cs_JT_29 X hz hw hl.1 k_f2_a (c_TX_size_JT l G f2 _ a (us.length : Int) k_f2_a) ⟨Nat.le_of_ble_eq_true rfl, Nat.le_of_ble_eq_true rfl⟩ ⟨by show 0 + 1 + 0 ≤ 4 * pot f a; omega, by show 0 + 3 + 0 ≤ 140 * pot f a; omega⟩ (Nat.le_of_ble_eq_true rfl) d_JT_get_12 (fun v f9 H locs hp hw hsz9 hkp9 hdm9 => ?_)
    obtain ⟨rfl, hfe⟩ := hp
    rw [hfe] at hw
    refine W.eq (g2 := F0 m 15 ls [.int (iI ((us.length : Int))), .ref w1, .ref w1]) rfl ?_
    refine cs_JT_30 X hz hw hl.1 (c_RW_init l G f2 _ w1 us.length (by omega) k_f2_w1) ⟨Nat.le_of_ble_eq_true rfl, Nat.le_of_ble_eq_true rfl⟩ ⟨by show 0 + 1 + 1 ≤ 4 * pot f a; omega, by show 0 + 3 + us.length ≤ 140 * pot f a; omega⟩ (Nat.le_of_ble_eq_true rfl) d_JT_get_15 (fun v f3 H locs hp hw hsz9 hkp9 hdm9 => ?_)
    obtain ⟨rfl, q1, hq1, hrw3, hk3⟩ := hp
    refine W.eq (g2 := F0 m 18 ls [.ref w1]) rfl ?_
    refine lv_astore_n (lv' := [(2, .ref w1), (0, .ref a), (1, .int (iI k))]) hx hb d_JT_get_18 rfl hl (by decide) rfl (fun ls hl => ?_)
    refine lv_aload_n hx hb d_JT_get_19 rfl (lv_at hl 1 rfl) ?_
    refine lv_aload_n hx hb d_JT_get_20 rfl (lv_at hl 0 rfl) ?_
    have hm3 : ∀ b9 x9, f b9 = some x9 → f3 b9 = some x9 := fun b9 x9 h9 => by
      have h8 : f2 b9 = some x9 := by rw [e_f2]; exact dw_keep h9 (dw_neN h9 hq_w1)
      rw [hk3 b9 (dw_neN h9 hq_w1) (dw_neN h8 hq1)]; exact h8
    have hag3 : ∀ a9 x9, f a9 = some x9 → tcl G x9 → f3 a9 = some x9 := fun a9 x9 h9 _ => hm3 a9 x9 h9
    refine cs_JT_33 X hz hw hl.1 (hm3 _ _ h0) (jp_all l G d f3 _ a w1 q1 us.length [] us 0 x y ux uy none (hm3 _ _ h0) (tx.agree hag3 htx) (tx.agree hag3 hty) hus (fun q9 h9 => by cases h9) hrw3) ⟨by show 4 + d + 1 ≤ 41; omega, by show 8 + (2 + 11) + (120 + 21 * d) ≤ 921; omega⟩ ⟨by show 0 + 1 + 1 + 0 ≤ 4 * pot f a; omega, by show 0 + 3 + us.length + 0 ≤ 140 * pot f a; omega⟩ (Nat.le_of_ble_eq_true rfl) d_JT_get_21 (fun v f4 H locs hp hw hsz9 hkp9 hdm9 => ?_)
    obtain ⟨rfl, hrw4, hk4⟩ := hp
    have hfull : apl1 us.length [] us = us := by simp [apl1]
    rw [hfull] at hrw4
    refine W.eq (g2 := F0 m 24 ls []) rfl ?_
    refine lv_aload_n hx hb d_JT_get_24 rfl (lv_at hl 1 rfl) ?_
    refine lv_aload_n hx hb d_JT_get_25 rfl (lv_at hl 0 rfl) ?_
    have hw1f : f w1 = none := hq_w1
    have hq1f : f q1 = none := by
      cases h9 : f q1 with
      | none => rfl
      | some z9 => rw [e_f2, dw_keep h9 (dw_neN h9 hq_w1)] at hq1; cases hq1
    have hm4 : ∀ b9 x9, f b9 = some x9 → f4 b9 = some x9 := fun b9 x9 h9 => by rw [hk4 b9 (dw_neN h9 hw1f) (dw_neN h9 hq1f)]; exact hm3 b9 x9 h9
    refine cs_JT_37 X hz hw hl.1 (c_DK_textOf l G f4 _ w1 q1 us.length us _ hta.rng hlen hrw4) ⟨Nat.le_of_ble_eq_true rfl, Nat.le_of_ble_eq_true rfl⟩ ⟨by show 0 + 1 + 1 + 2 ≤ 4 * pot f a; omega, by show 0 + 3 + us.length + (3 + us.length) ≤ 140 * pot f a; omega⟩ (Nat.le_of_ble_eq_true rfl) d_JT_get_26 (fun v f5 H locs hp hw hsz9 hkp9 hdm9 => ?_)
    obtain ⟨t1, rfl, ht1n, ht1, hm5⟩ := hp
    refine W.eq (g2 := F0 m 29 ls [.ref t1, .ref a]) rfl ?_
    have hm6 : ∀ b9 x9, f b9 = some x9 → f5 b9 = some x9 := fun b9 x9 h9 => hm5 b9 x9 (hm4 b9 x9 h9)
    refine pf_JT_24_JT X hw (hm6 _ _ h0) (rfl) (rfl) d_JT_get_29 (fun H locs hw => ?_)
    obtain ⟨f6, e_f6⟩ : ∃ g9 : dw_M, g9 = dw_up f5 a (.inr (3, [.int (iI ((us.length : Int))), .int (iI (nar us)), .ref x, .ref y, .ref t1])) := ⟨_, rfl⟩
    rw [← e_f6] at hw
    have k_f6_a : f6 a = some (.inr (3, [.int (iI ((us.length : Int))), .int (iI (nar us)), .ref x, .ref y, .ref t1])) := by rw [e_f6]; exact dw_up_self _ _ _
    obtain ⟨hx6, hp6⟩ := exo_flat (S := no1) (hm6 _ _ h0) (tx.agree (fun a9 x9 h9 _ => hm6 a9 x9 h9) hta) ht1
    rw [← e_f6] at hx6 hp6
    have ht6 : lf G f6 t1 us := hx6.lf ht1 (fun a9 h9 => h9.elim)
    refine lv_aload_n hx hb d_JT_get_32 rfl (lv_at hl 1 rfl) ?_
    refine gf_JT_24_JT X hw k_f6_a d_JT_get_33 ?_
    refine lv_iload_n hx hb d_JT_get_36 rfl (lv_at hl 2 rfl) ?_
    refine sl_JT_43 X hz hw hl.1 ht6 hk ⟨Nat.le_of_ble_eq_true rfl, Nat.le_of_ble_eq_true rfl⟩ ⟨by show 0 + 1 + 1 + 2 ≤ 4 * pot f a; omega, by show 0 + 3 + us.length + (3 + us.length) ≤ 140 * pot f a; omega⟩ (Nat.le_of_ble_eq_true rfl) d_JT_get_37 (fun H locs hw => ?_)
    refine W.eq (g2 := F0 m 40 ls [.int (iI (gt us k))]) rfl ?_
    exact cn_iret hx hb hr hlk hw  (⟨rfl, (exo_more hm6).tr hx6, hp6⟩) (by omega) (by omega) d_JT_get_40
  | some y2 =>
    have hpt : pot f a = 0 := by simp [pot, h0, va_rf]
    refine lv_aload_n hx hb d_JT_get_0 rfl (lv_at hl 0 rfl) ?_
    refine gf_JT_24_JT X hw h0 d_JT_get_1 ?_
    refine lv_ifnonnull (tgt := 32) hx hb d_JT_get_4 (by decide) ?_
    refine lv_aload_n hx hb d_JT_get_32 rfl (lv_at hl 0 rfl) ?_
    refine gf_JT_24_JT X hw h0 d_JT_get_33 ?_
    refine lv_iload_n hx hb d_JT_get_36 rfl (lv_at hl 1 rfl) ?_
    refine sl_JT_43 X hz hw hl.1 (hfl y2 rfl) hk ⟨Nat.le_of_ble_eq_true rfl, Nat.le_of_ble_eq_true rfl⟩ ⟨by show 0 ≤ 4 * pot f a; omega, by show 0 ≤ 140 * pot f a; omega⟩ (Nat.le_of_ble_eq_true rfl) d_JT_get_37 (fun H locs hw => ?_)
    refine W.eq (g2 := F0 m 40 ls [.int (iI (gt us k))]) rfl ?_
    exact cn_iret hx hb hr hlk hw  (⟨rfl, exo.rf, hpt⟩) (by omega) (by omega) d_JT_get_40
