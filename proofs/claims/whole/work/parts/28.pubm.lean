theorem uts_len (c : Int) : (uts c).length ≤ 2 := by
  unfold uts
  split <;> simp
section NG
variable {p : Program} {l : Launch} {e : Env} {R : Room} {s : State} {m : MethodId} {args : Array Value} {below : List Frame} {meth : Method} {c : Code} {H : Heap} {locs : List Loc} {cells slots : Nat} {Q : State → Prop} {cc : ByteArray} {pc : Nat} {ls : Array Slot} {rest : List Value}
theorem iI_neg (a : Int) : -iI a = iI (-a) := (Int32.ofInt_neg a).symm
theorem di_neg (hexec : p.tables.exec = Jvm.exec) (hb : c.code = cc) {x : Int} (hdg : decode cc pc = .ok (.ineg, 1)) (k : W p l e R s m args below meth c H locs cells slots Q (F0 m (pc + 1) ls (.int (iI (-x)) :: rest))) : W p l e R s m args below meth c H locs cells slots Q (F0 m pc ls (.int (iI x) :: rest)) :=
  lv_ineg hexec hb hdg (by rw [iI_neg]; exact k)
end NG
set_option maxRecDepth 100000 in
set_option maxHeartbeats 4000000 in
theorem c_MD_agree (l : Launch) (G : ct_G) (f : dw_M) (sz : Nat) (y : Nat) (th : Int) (T Y : List (List Int)) (B Z M C : List Int) (k : Int) (hk : 0 ≤ k ∧ k < 1000) (hCn : ∀ u ∈ C, 0 ≤ u ∧ u < 65536) (hL : mdL G f y th T Y B Z M C) : cn l y_MD_agree w_MD_agree (0) (0) G f sz [.ref y, .int (iI k)] (fun v f' => v = some (.int (iI (agr Z k C))) ∧ f' = f) (0) (0) := by
  refine cn_of (own := "TextDeskModel") (nm := "agree") (ds := "(I)I") (by decide) (Nat.le_of_ble_eq_true rfl) ?_
  intro p e s m args below meth c ls X hnm hr hlk hs0 hz hw hl
  have hx := X.1
  have hb := X.2.1
  have hl : lv_has ls 3 [(0, .ref y), (1, .int (iI k))] := hl
  obtain ⟨si, un, bu, ma, bt, so, co, gsi, gun, gbu, gma, gbt, gso, gco, hM, hT, hB, hZ, hMa, hC, hY⟩ := id hL
  have hTl := hT.1
  have hBl := hB.1.1
  have hZl := hZ.1.1
  have hYl := hY.1
  have hCl := hC.1
  have hZr := hZ.2
  refine lv_iconst (v := iI (0)) hx hb d_MD_agree_0 rfl ?_
  refine lv_istore_n (lv' := [(2, .int (iI 0)), (0, .ref y), (1, .int (iI k))]) hx hb d_MD_agree_1 rfl hl (by decide) rfl (fun ls hl => ?_)
  have loop : ∀ (N : Nat) (n : Int) (mm : Nat) (H : Heap) (locs : List Loc) (ls : Array Slot), ((C.length : Int) - n).toNat < N → 0 ≤ n → n + (mm : Int) = (C.length : Int) → agr Z k C = agf Z C k mm n → dw G.1 dk_cl (dw_A f sz) s.heap f H locs → lv_has ls 3 [(2, .int (iI n)), (0, .ref y), (1, .int (iI k))] → W p l e { frames := 0, locals := 0, cells := 0, slots := 0 } s m args below meth c H locs (0) (0) (MQ below (ct_Q G f sz (fun v f' => v = some (.int (iI (agr Z k C))) ∧ f' = f)) args s (0) (0) (dw_A f sz)) (F0 m 2 ls []) := by
    intro N
    induction N with
    | zero => intros; omega
    | succ N ih =>
      intro n mm H locs ls hN hn0 hmm hag hw hl
      refine lv_iload_n hx hb d_MD_agree_2 rfl (lv_at hl 0 rfl) ?_
      refine lv_aload_n hx hb d_MD_agree_3 rfl (lv_at hl 1 rfl) ?_
      refine gf_MD_99_MD X hw hM.1 d_MD_agree_4 ?_
      refine di_icmp_ge (tgt := 43) hx hb d_MD_agree_7 (by decide) ⟨by omega, by omega⟩ ⟨by omega, by omega⟩ (fun bq7 => ?_) (fun bq7 => ?_)
      · refine lv_iload_n hx hb d_MD_agree_43 rfl (lv_at hl 0 rfl) ?_
        have hm0 : mm = 0 := by omega
        subst hm0
        exact cn_iret hx hb hr hlk hw  (⟨by rw [hag]; rfl, rfl⟩) (Nat.le_refl _) (Nat.le_refl _) d_MD_agree_44
      · obtain ⟨m2, rfl⟩ : ∃ z, mm = z + 1 := ⟨mm - 1, by omega⟩
        have hgc := gt_mem hCn hn0 (by omega : n < (C.length : Int))
        have hgz := gtb hZr (k + n)
        refine lv_iload_n hx hb d_MD_agree_10 rfl (lv_at hl 2 rfl) ?_
        refine lv_iload_n hx hb d_MD_agree_11 rfl (lv_at hl 0 rfl) ?_
        refine di_add hx hb d_MD_agree_12 ?_
        refine lv_aload_n hx hb d_MD_agree_13 rfl (lv_at hl 1 rfl) ?_
        refine gf_MD_112_MD X hw hM.1 d_MD_agree_14 ?_
        refine di_icmp_ge (tgt := 43) hx hb d_MD_agree_17 (by decide) ⟨by omega, by omega⟩ ⟨by omega, by omega⟩ (fun bq17 => ?_) (fun bq17 => ?_)
        · refine lv_iload_n hx hb d_MD_agree_43 rfl (lv_at hl 0 rfl) ?_
          exact cn_iret hx hb hr hlk hw  (⟨by rw [hag, agf, if_neg (by rw [gt_out (us := Z) (k := k + n) (by omega)]; omega)], rfl⟩) (Nat.le_refl _) (Nat.le_refl _) d_MD_agree_44
        · refine lv_aload_n hx hb d_MD_agree_20 rfl (lv_at hl 1 rfl) ?_
          refine gf_MD_22_MD X hw hM.1 d_MD_agree_21 ?_
          refine lv_iload_n hx hb d_MD_agree_24 rfl (lv_at hl 2 rfl) ?_
          refine lv_iload_n hx hb d_MD_agree_25 rfl (lv_at hl 0 rfl) ?_
          refine di_add hx hb d_MD_agree_26 ?_
          refine dw_iald hx hb X.K hw 0 hM.2.2.2.2.2.1 rfl (i := k + n) (by omega) (by omega) (by omega) (hZ.1.at (by omega) (by omega)) d_MD_agree_27 ?_
          refine lv_aload_n hx hb d_MD_agree_28 rfl (lv_at hl 1 rfl) ?_
          refine gf_MD_28_MD X hw hM.1 d_MD_agree_29 ?_
          refine lv_iload_n hx hb d_MD_agree_32 rfl (lv_at hl 0 rfl) ?_
          refine dw_iald hx hb X.K hw 0 hM.2.2.2.2.2.2.2.1 rfl (i := n) (by omega) (by omega) (by omega) (hC.at (by omega) (by omega)) d_MD_agree_33 ?_
          refine di_icmp_ne (tgt := 43) hx hb d_MD_agree_34 (by decide) ⟨by omega, by omega⟩ ⟨by omega, by omega⟩ (fun bq34 => ?_) (fun bq34 => ?_)
          · refine lv_iload_n hx hb d_MD_agree_43 rfl (lv_at hl 0 rfl) ?_
            exact cn_iret hx hb hr hlk hw  (⟨by rw [hag, agf, if_neg (by omega)], rfl⟩) (Nat.le_refl _) (Nat.le_refl _) d_MD_agree_44
          · refine lv_iinc (v := iI (n + 1)) (lv' := [(2, .int (iI (n + 1))), (0, .ref y), (1, .int (iI k))]) hx hb d_MD_agree_37 hl (k := 0) rfl (iI_add _ _) (by decide) rfl (fun ls hl => ?_)
            refine lv_goto (tgt := 2) hx hb d_MD_agree_40 (by decide) ?_
            exact ih (n + 1) (m2) _ _ _ (by omega) (by omega) (by omega) (by rw [hag, agf, if_pos (by omega)]) hw (lv_sub hl [0, 1, 2] rfl)
  exact loop (((C.length : Int) - 0).toNat + 1) (0) (C.length) _ _ _ (by omega) (by omega) (by omega) (rfl) hw (lv_sub hl [0, 1, 2] rfl)
set_option maxRecDepth 100000 in
set_option maxHeartbeats 4000000 in
theorem c_MD_guess (l : Launch) (G : ct_G) (f : dw_M) (sz : Nat) (y : Nat) (th : Int) (T Y : List (List Int)) (B Z M C : List Int) (k n fl : Int) (hk : 0 ≤ k ∧ k < (Z.length : Int)) (hn : 1 ≤ n ∧ n ≤ 3) (hf : 0 ≤ fl ∧ fl < 64) (hL : mdL G f y th T Y B Z M C) : cn l y_MD_guess w_MD_guess (0) (0) G f sz [.ref y, .int (iI k), .int (iI n), .int (iI fl)] (fun v f' => v = some (.int (iI (gss Z k n fl))) ∧ f' = f) (0) (0) := by
  refine cn_of (own := "TextDeskModel") (nm := "guess") (ds := "(III)I") (by decide) (Nat.le_of_ble_eq_true rfl) ?_
  intro p e s m args below meth c ls X hnm hr hlk hs0 hz hw hl
  have hx := X.1
  have hb := X.2.1
  have hl : lv_has ls 8 [(0, .ref y), (1, .int (iI k)), (2, .int (iI n)), (3, .int (iI fl))] := hl
  obtain ⟨si, un, bu, ma, bt, so, co, gsi, gun, gbu, gma, gbt, gso, gco, hM, hT, hB, hZ, hMa, hC, hY⟩ := id hL
  have hTl := hT.1
  have hBl := hB.1.1
  have hZl := hZ.1.1
  have hYl := hY.1
  have hCl := hC.1
  have hZr := hZ.2
  have hga := gtb0 hZr hk.1 hk.2
  refine lv_aload_n hx hb d_MD_guess_0 rfl (lv_at hl 0 rfl) ?_
  refine gf_MD_22_MD X hw hM.1 d_MD_guess_1 ?_
  refine lv_iload_n hx hb d_MD_guess_4 rfl (lv_at hl 1 rfl) ?_
  refine dw_iald hx hb X.K hw 0 hM.2.2.2.2.2.1 rfl (i := k) (by omega) (by omega) (by omega) (hZ.1.at (by omega) (by omega)) d_MD_guess_5 ?_
  refine lv_istore (lv' := [(4, .int (iI (gt Z k))), (0, .ref y), (1, .int (iI k)), (2, .int (iI n)), (3, .int (iI fl))]) hx hb d_MD_guess_6 hl (by decide) rfl (fun ls hl => ?_)
  refine lv_iload_n hx hb d_MD_guess_8 rfl (lv_at hl 3 rfl) ?_
  refine lv_iconst (v := iI (1)) hx hb d_MD_guess_9 rfl ?_
  refine di_icmp_ne (tgt := 21) hx hb d_MD_guess_10 (by decide) ⟨by omega, by omega⟩ ⟨by omega, by omega⟩ (fun bq10 => ?_) (fun bq10 => ?_)
  · refine lv_iload_n hx hb d_MD_guess_21 rfl (lv_at hl 3 rfl) ?_
    refine lv_iconst (v := iI (2)) hx hb d_MD_guess_22 rfl ?_
    refine di_icmp_ne (tgt := 34) hx hb d_MD_guess_23 (by decide) ⟨by omega, by omega⟩ ⟨by omega, by omega⟩ (fun bq23 => ?_) (fun bq23 => ?_)
    · refine lv_iload hx hb d_MD_guess_34 (lv_at hl 0 rfl) ?_
      refine lv_bipush (v := iI (8)) hx hb d_MD_guess_36 rfl ?_
      refine di_rem hx hb d_MD_guess_38 (by omega) (by omega) (by omega) (by omega) ?_
      have hg0 : gs0 (gt Z k) n = gt Z k % 8 := by rw [gs0, if_neg (by omega), if_neg (by omega)]
      rw [← hg0]
      refine lv_istore (lv' := [(5, .int (iI (gs0 (gt Z k) n))), (4, .int (iI (gt Z k))), (0, .ref y), (1, .int (iI k)), (2, .int (iI n)), (3, .int (iI fl))]) hx hb d_MD_guess_39 hl (by decide) rfl (fun ls hl => ?_)
      refine lv_iconst (v := iI (1)) hx hb d_MD_guess_41 rfl ?_
      refine lv_istore (lv' := [(6, .int (iI 1)), (5, .int (iI (gs0 (gt Z k) n))), (4, .int (iI (gt Z k))), (0, .ref y), (1, .int (iI k)), (2, .int (iI n)), (3, .int (iI fl))]) hx hb d_MD_guess_42 hl (by decide) rfl (fun ls hl => ?_)
      refine lv_iconst (v := iI (1)) hx hb d_MD_guess_44 rfl ?_
      refine lv_istore (lv' := [(7, .int (iI 1)), (6, .int (iI 1)), (5, .int (iI (gs0 (gt Z k) n))), (4, .int (iI (gt Z k))), (0, .ref y), (1, .int (iI k)), (2, .int (iI n)), (3, .int (iI fl))]) hx hb d_MD_guess_45 hl (by decide) rfl (fun ls hl => ?_)
      have loop : ∀ (N : Nat) (i : Int) (g : Bool) (cc0 : Int) (mm : Nat) (H : Heap) (locs : List Loc) (ls : Array Slot), (n + 1 - i).toNat < N → 1 ≤ i → i + (mm : Int) = n + 1 → gss Z k n fl = gsl Z k fl mm i g cc0 → dw G.1 dk_cl (dw_A f sz) s.heap f H locs → lv_has ls 8 [(7, .int (iI i)), (6, .int (iI (b2 g))), (5, .int (iI cc0)), (0, .ref y), (1, .int (iI k)), (2, .int (iI n)), (3, .int (iI fl))] → W p l e { frames := 0, locals := 0, cells := 0, slots := 0 } s m args below meth c H locs (0) (0) (MQ below (ct_Q G f sz (fun v f' => v = some (.int (iI (gss Z k n fl))) ∧ f' = f)) args s (0) (0) (dw_A f sz)) (F0 m 47 ls []) := by
        intro N
        induction N with
        | zero => intros; omega
        | succ N ih =>
          intro i g cc0 mm H locs ls hN hi0 hmm hgs hw hl
          refine lv_iload hx hb d_MD_guess_47 (lv_at hl 0 rfl) ?_
          refine lv_iload_n hx hb d_MD_guess_49 rfl (lv_at hl 5 rfl) ?_
          refine di_icmp_gt (tgt := 142) hx hb d_MD_guess_50 (by decide) ⟨by omega, by omega⟩ ⟨by omega, by omega⟩ (fun bq50 => ?_) (fun bq50 => ?_)
          · refine lv_iload hx hb d_MD_guess_142 (lv_at hl 2 rfl) ?_
            have hm0 : mm = 0 := by omega
            subst hm0
            exact cn_iret hx hb hr hlk hw  (⟨by rw [hgs]; rfl, rfl⟩) (Nat.le_refl _) (Nat.le_refl _) d_MD_guess_144
          · obtain ⟨m2, rfl⟩ : ∃ z, mm = z + 1 := ⟨mm - 1, by omega⟩
            have hgz := gtb hZr (k + i)
            have hb01 := b2_01 g
            refine lv_iload hx hb d_MD_guess_53 (lv_at hl 1 rfl) ?_
            refine di_if_eq (tgt := 103) hx hb d_MD_guess_55 (by decide) ⟨by omega, by omega⟩ (fun bq55 => ?_) (fun bq55 => ?_)
            · refine lv_iconst (v := iI (0)) hx hb d_MD_guess_103 rfl ?_
              rw [show (0 : Int) = b2 false from rfl]
              have hgn : (g && cnt (gt Z (k + i))) = false := by rw [b2_0 bq55, Bool.false_and]
              refine lv_istore (lv' := [(6, .int (iI (b2 false))), (7, .int (iI i)), (5, .int (iI cc0)), (0, .ref y), (1, .int (iI k)), (2, .int (iI n)), (3, .int (iI fl))]) hx hb d_MD_guess_104 hl (by decide) rfl (fun ls hl => ?_)
              refine lv_bipush (v := iI (64)) hx hb d_MD_guess_106 rfl ?_
              refine lv_iload hx hb d_MD_guess_108 (lv_at hl 2 rfl) ?_
              refine di_mul hx hb d_MD_guess_110 ?_
              refine lv_iload hx hb d_MD_guess_111 (lv_at hl 0 rfl) ?_
              refine di_if_eq (tgt := 132) hx hb d_MD_guess_113 (by decide) ⟨by decide, by decide⟩ (fun _ => ?_) (fun q9 => absurd q9 (by decide))
              refine lv_iload_n hx hb d_MD_guess_132 rfl (lv_at hl 6 rfl) ?_
              refine di_add hx hb d_MD_guess_133 ?_
              refine lv_istore (lv' := [(5, .int (iI ((64 * cc0) + fl))), (6, .int (iI (b2 false))), (7, .int (iI i)), (0, .ref y), (1, .int (iI k)), (2, .int (iI n)), (3, .int (iI fl))]) hx hb d_MD_guess_134 hl (by decide) rfl (fun ls hl => ?_)
              refine lv_iinc (v := iI (i + 1)) (lv' := [(7, .int (iI (i + 1))), (5, .int (iI ((64 * cc0) + fl))), (6, .int (iI (b2 false))), (0, .ref y), (1, .int (iI k)), (2, .int (iI n)), (3, .int (iI fl))]) hx hb d_MD_guess_136 hl (k := 2) rfl (iI_add _ _) (by decide) rfl (fun ls hl => ?_)
              refine lv_goto (tgt := 47) hx hb d_MD_guess_139 (by decide) ?_
              exact ih (i + 1) (false) ((64 * cc0) + fl) (m2) _ _ _ (by omega) (by omega) (by omega) (by rw [hgs, gsl, hgn, if_neg (by decide)]) hw (lv_sub hl [0, 2, 1, 3, 4, 5, 6] rfl)
            · refine lv_iload_n hx hb d_MD_guess_58 rfl (lv_at hl 4 rfl) ?_
              refine lv_iload hx hb d_MD_guess_59 (lv_at hl 0 rfl) ?_
              refine di_add hx hb d_MD_guess_61 ?_
              refine lv_aload_n hx hb d_MD_guess_62 rfl (lv_at hl 3 rfl) ?_
              refine gf_MD_112_MD X hw hM.1 d_MD_guess_63 ?_
              refine di_icmp_ge (tgt := 103) hx hb d_MD_guess_66 (by decide) ⟨by omega, by omega⟩ ⟨by omega, by omega⟩ (fun bq66 => ?_) (fun bq66 => ?_)
              · refine lv_iconst (v := iI (0)) hx hb d_MD_guess_103 rfl ?_
                rw [show (0 : Int) = b2 false from rfl]
                have hgn : (g && cnt (gt Z (k + i))) = false := by rw [gt_out (us := Z) (k := k + i) (by omega)]; cases g <;> rfl
                refine lv_istore (lv' := [(6, .int (iI (b2 false))), (7, .int (iI i)), (5, .int (iI cc0)), (0, .ref y), (1, .int (iI k)), (2, .int (iI n)), (3, .int (iI fl))]) hx hb d_MD_guess_104 hl (by decide) rfl (fun ls hl => ?_)
                refine lv_bipush (v := iI (64)) hx hb d_MD_guess_106 rfl ?_
                refine lv_iload hx hb d_MD_guess_108 (lv_at hl 2 rfl) ?_
                refine di_mul hx hb d_MD_guess_110 ?_
                refine lv_iload hx hb d_MD_guess_111 (lv_at hl 0 rfl) ?_
                refine di_if_eq (tgt := 132) hx hb d_MD_guess_113 (by decide) ⟨by decide, by decide⟩ (fun _ => ?_) (fun q9 => absurd q9 (by decide))
                refine lv_iload_n hx hb d_MD_guess_132 rfl (lv_at hl 6 rfl) ?_
                refine di_add hx hb d_MD_guess_133 ?_
                refine lv_istore (lv' := [(5, .int (iI ((64 * cc0) + fl))), (6, .int (iI (b2 false))), (7, .int (iI i)), (0, .ref y), (1, .int (iI k)), (2, .int (iI n)), (3, .int (iI fl))]) hx hb d_MD_guess_134 hl (by decide) rfl (fun ls hl => ?_)
                refine lv_iinc (v := iI (i + 1)) (lv' := [(7, .int (iI (i + 1))), (5, .int (iI ((64 * cc0) + fl))), (6, .int (iI (b2 false))), (0, .ref y), (1, .int (iI k)), (2, .int (iI n)), (3, .int (iI fl))]) hx hb d_MD_guess_136 hl (k := 2) rfl (iI_add _ _) (by decide) rfl (fun ls hl => ?_)
                refine lv_goto (tgt := 47) hx hb d_MD_guess_139 (by decide) ?_
                exact ih (i + 1) (false) ((64 * cc0) + fl) (m2) _ _ _ (by omega) (by omega) (by omega) (by rw [hgs, gsl, hgn, if_neg (by decide)]) hw (lv_sub hl [0, 2, 1, 3, 4, 5, 6] rfl)
              · refine lv_aload_n hx hb d_MD_guess_69 rfl (lv_at hl 3 rfl) ?_
                refine gf_MD_22_MD X hw hM.1 d_MD_guess_70 ?_
                refine lv_iload_n hx hb d_MD_guess_73 rfl (lv_at hl 4 rfl) ?_
                refine lv_iload hx hb d_MD_guess_74 (lv_at hl 0 rfl) ?_
                refine di_add hx hb d_MD_guess_76 ?_
                refine dw_iald hx hb X.K hw 0 hM.2.2.2.2.2.1 rfl (i := k + i) (by omega) (by omega) (by omega) (hZ.1.at (by omega) (by omega)) d_MD_guess_77 ?_
                refine lv_sipush (v := iI (128)) hx hb d_MD_guess_78 rfl ?_
                refine di_icmp_lt (tgt := 103) hx hb d_MD_guess_81 (by decide) ⟨by omega, by omega⟩ ⟨by omega, by omega⟩ (fun bq81 => ?_) (fun bq81 => ?_)
                · refine lv_iconst (v := iI (0)) hx hb d_MD_guess_103 rfl ?_
                  rw [show (0 : Int) = b2 false from rfl]
                  have hgn : (g && cnt (gt Z (k + i))) = false := by rw [show cnt (gt Z (k + i)) = false from decide_eq_false (by omega), Bool.and_false]
                  refine lv_istore (lv' := [(6, .int (iI (b2 false))), (7, .int (iI i)), (5, .int (iI cc0)), (0, .ref y), (1, .int (iI k)), (2, .int (iI n)), (3, .int (iI fl))]) hx hb d_MD_guess_104 hl (by decide) rfl (fun ls hl => ?_)
                  refine lv_bipush (v := iI (64)) hx hb d_MD_guess_106 rfl ?_
                  refine lv_iload hx hb d_MD_guess_108 (lv_at hl 2 rfl) ?_
                  refine di_mul hx hb d_MD_guess_110 ?_
                  refine lv_iload hx hb d_MD_guess_111 (lv_at hl 0 rfl) ?_
                  refine di_if_eq (tgt := 132) hx hb d_MD_guess_113 (by decide) ⟨by decide, by decide⟩ (fun _ => ?_) (fun q9 => absurd q9 (by decide))
                  refine lv_iload_n hx hb d_MD_guess_132 rfl (lv_at hl 6 rfl) ?_
                  refine di_add hx hb d_MD_guess_133 ?_
                  refine lv_istore (lv' := [(5, .int (iI ((64 * cc0) + fl))), (6, .int (iI (b2 false))), (7, .int (iI i)), (0, .ref y), (1, .int (iI k)), (2, .int (iI n)), (3, .int (iI fl))]) hx hb d_MD_guess_134 hl (by decide) rfl (fun ls hl => ?_)
                  refine lv_iinc (v := iI (i + 1)) (lv' := [(7, .int (iI (i + 1))), (5, .int (iI ((64 * cc0) + fl))), (6, .int (iI (b2 false))), (0, .ref y), (1, .int (iI k)), (2, .int (iI n)), (3, .int (iI fl))]) hx hb d_MD_guess_136 hl (k := 2) rfl (iI_add _ _) (by decide) rfl (fun ls hl => ?_)
                  refine lv_goto (tgt := 47) hx hb d_MD_guess_139 (by decide) ?_
                  exact ih (i + 1) (false) ((64 * cc0) + fl) (m2) _ _ _ (by omega) (by omega) (by omega) (by rw [hgs, gsl, hgn, if_neg (by decide)]) hw (lv_sub hl [0, 2, 1, 3, 4, 5, 6] rfl)
                · refine lv_aload_n hx hb d_MD_guess_84 rfl (lv_at hl 3 rfl) ?_
                  refine gf_MD_22_MD X hw hM.1 d_MD_guess_85 ?_
                  refine lv_iload_n hx hb d_MD_guess_88 rfl (lv_at hl 4 rfl) ?_
                  refine lv_iload hx hb d_MD_guess_89 (lv_at hl 0 rfl) ?_
                  refine di_add hx hb d_MD_guess_91 ?_
                  refine dw_iald hx hb X.K hw 0 hM.2.2.2.2.2.1 rfl (i := k + i) (by omega) (by omega) (by omega) (hZ.1.at (by omega) (by omega)) d_MD_guess_92 ?_
                  refine lv_sipush (v := iI (192)) hx hb d_MD_guess_93 rfl ?_
                  refine di_icmp_ge (tgt := 103) hx hb d_MD_guess_96 (by decide) ⟨by omega, by omega⟩ ⟨by omega, by omega⟩ (fun bq96 => ?_) (fun bq96 => ?_)
                  · refine lv_iconst (v := iI (0)) hx hb d_MD_guess_103 rfl ?_
                    rw [show (0 : Int) = b2 false from rfl]
                    have hgn : (g && cnt (gt Z (k + i))) = false := by rw [show cnt (gt Z (k + i)) = false from decide_eq_false (by omega), Bool.and_false]
                    refine lv_istore (lv' := [(6, .int (iI (b2 false))), (7, .int (iI i)), (5, .int (iI cc0)), (0, .ref y), (1, .int (iI k)), (2, .int (iI n)), (3, .int (iI fl))]) hx hb d_MD_guess_104 hl (by decide) rfl (fun ls hl => ?_)
                    refine lv_bipush (v := iI (64)) hx hb d_MD_guess_106 rfl ?_
                    refine lv_iload hx hb d_MD_guess_108 (lv_at hl 2 rfl) ?_
                    refine di_mul hx hb d_MD_guess_110 ?_
                    refine lv_iload hx hb d_MD_guess_111 (lv_at hl 0 rfl) ?_
                    refine di_if_eq (tgt := 132) hx hb d_MD_guess_113 (by decide) ⟨by decide, by decide⟩ (fun _ => ?_) (fun q9 => absurd q9 (by decide))
                    refine lv_iload_n hx hb d_MD_guess_132 rfl (lv_at hl 6 rfl) ?_
                    refine di_add hx hb d_MD_guess_133 ?_
                    refine lv_istore (lv' := [(5, .int (iI ((64 * cc0) + fl))), (6, .int (iI (b2 false))), (7, .int (iI i)), (0, .ref y), (1, .int (iI k)), (2, .int (iI n)), (3, .int (iI fl))]) hx hb d_MD_guess_134 hl (by decide) rfl (fun ls hl => ?_)
                    refine lv_iinc (v := iI (i + 1)) (lv' := [(7, .int (iI (i + 1))), (5, .int (iI ((64 * cc0) + fl))), (6, .int (iI (b2 false))), (0, .ref y), (1, .int (iI k)), (2, .int (iI n)), (3, .int (iI fl))]) hx hb d_MD_guess_136 hl (k := 2) rfl (iI_add _ _) (by decide) rfl (fun ls hl => ?_)
                    refine lv_goto (tgt := 47) hx hb d_MD_guess_139 (by decide) ?_
                    exact ih (i + 1) (false) ((64 * cc0) + fl) (m2) _ _ _ (by omega) (by omega) (by omega) (by rw [hgs, gsl, hgn, if_neg (by decide)]) hw (lv_sub hl [0, 2, 1, 3, 4, 5, 6] rfl)
                  · refine lv_iconst (v := iI (1)) hx hb d_MD_guess_99 rfl ?_
                    refine lv_goto (tgt := 104) hx hb d_MD_guess_100 (by decide) ?_
                    rw [show (1 : Int) = b2 true from rfl]
                    have hgn : (g && cnt (gt Z (k + i))) = true := by rw [b2_1 bq55, show cnt (gt Z (k + i)) = true from decide_eq_true (by omega)]; rfl
                    refine lv_istore (lv' := [(6, .int (iI (b2 true))), (7, .int (iI i)), (5, .int (iI cc0)), (0, .ref y), (1, .int (iI k)), (2, .int (iI n)), (3, .int (iI fl))]) hx hb d_MD_guess_104 hl (by decide) rfl (fun ls hl => ?_)
                    refine lv_bipush (v := iI (64)) hx hb d_MD_guess_106 rfl ?_
                    refine lv_iload hx hb d_MD_guess_108 (lv_at hl 2 rfl) ?_
                    refine di_mul hx hb d_MD_guess_110 ?_
                    refine lv_iload hx hb d_MD_guess_111 (lv_at hl 0 rfl) ?_
                    refine di_if_eq (tgt := 132) hx hb d_MD_guess_113 (by decide) ⟨by decide, by decide⟩ (fun q9 => absurd q9 (by decide)) (fun _ => ?_)
                    refine lv_aload_n hx hb d_MD_guess_116 rfl (lv_at hl 3 rfl) ?_
                    refine gf_MD_22_MD X hw hM.1 d_MD_guess_117 ?_
                    refine lv_iload_n hx hb d_MD_guess_120 rfl (lv_at hl 4 rfl) ?_
                    refine lv_iload hx hb d_MD_guess_121 (lv_at hl 1 rfl) ?_
                    refine di_add hx hb d_MD_guess_123 ?_
                    refine dw_iald hx hb X.K hw 0 hM.2.2.2.2.2.1 rfl (i := k + i) (by omega) (by omega) (by omega) (hZ.1.at (by omega) (by omega)) d_MD_guess_124 ?_
                    refine lv_sipush (v := iI (128)) hx hb d_MD_guess_125 rfl ?_
                    refine di_sub hx hb d_MD_guess_128 ?_
                    refine lv_goto (tgt := 133) hx hb d_MD_guess_129 (by decide) ?_
                    refine di_add hx hb d_MD_guess_133 ?_
                    refine lv_istore (lv' := [(5, .int (iI ((64 * cc0) + ((gt Z (k + i)) - 128)))), (6, .int (iI (b2 true))), (7, .int (iI i)), (0, .ref y), (1, .int (iI k)), (2, .int (iI n)), (3, .int (iI fl))]) hx hb d_MD_guess_134 hl (by decide) rfl (fun ls hl => ?_)
                    refine lv_iinc (v := iI (i + 1)) (lv' := [(7, .int (iI (i + 1))), (5, .int (iI ((64 * cc0) + ((gt Z (k + i)) - 128)))), (6, .int (iI (b2 true))), (0, .ref y), (1, .int (iI k)), (2, .int (iI n)), (3, .int (iI fl))]) hx hb d_MD_guess_136 hl (k := 2) rfl (iI_add _ _) (by decide) rfl (fun ls hl => ?_)
                    refine lv_goto (tgt := 47) hx hb d_MD_guess_139 (by decide) ?_
                    exact ih (i + 1) (true) ((64 * cc0) + ((gt Z (k + i)) - 128)) (m2) _ _ _ (by omega) (by omega) (by omega) (by rw [hgs, gsl, hgn, if_pos rfl]) hw (lv_sub hl [0, 2, 1, 3, 4, 5, 6] rfl)
      exact loop ((n + 1 - 1).toNat + 1) (1) (true) (gs0 (gt Z k) n) (n.toNat) _ _ _ (by omega) (by omega) (by omega) (rfl) hw (lv_sub hl [0, 1, 2, 4, 5, 6, 7] rfl)
    · refine lv_iload hx hb d_MD_guess_26 (lv_at hl 0 rfl) ?_
      refine lv_bipush (v := iI (16)) hx hb d_MD_guess_28 rfl ?_
      refine di_rem hx hb d_MD_guess_30 (by omega) (by omega) (by omega) (by omega) ?_
      refine lv_goto (tgt := 39) hx hb d_MD_guess_31 (by decide) ?_
      have hg0 : gs0 (gt Z k) n = gt Z k % 16 := by rw [gs0, if_neg (by omega), if_pos (by omega)]
      rw [← hg0]
      refine lv_istore (lv' := [(5, .int (iI (gs0 (gt Z k) n))), (4, .int (iI (gt Z k))), (0, .ref y), (1, .int (iI k)), (2, .int (iI n)), (3, .int (iI fl))]) hx hb d_MD_guess_39 hl (by decide) rfl (fun ls hl => ?_)
      refine lv_iconst (v := iI (1)) hx hb d_MD_guess_41 rfl ?_
      refine lv_istore (lv' := [(6, .int (iI 1)), (5, .int (iI (gs0 (gt Z k) n))), (4, .int (iI (gt Z k))), (0, .ref y), (1, .int (iI k)), (2, .int (iI n)), (3, .int (iI fl))]) hx hb d_MD_guess_42 hl (by decide) rfl (fun ls hl => ?_)
      refine lv_iconst (v := iI (1)) hx hb d_MD_guess_44 rfl ?_
      refine lv_istore (lv' := [(7, .int (iI 1)), (6, .int (iI 1)), (5, .int (iI (gs0 (gt Z k) n))), (4, .int (iI (gt Z k))), (0, .ref y), (1, .int (iI k)), (2, .int (iI n)), (3, .int (iI fl))]) hx hb d_MD_guess_45 hl (by decide) rfl (fun ls hl => ?_)
      have loop : ∀ (N : Nat) (i : Int) (g : Bool) (cc0 : Int) (mm : Nat) (H : Heap) (locs : List Loc) (ls : Array Slot), (n + 1 - i).toNat < N → 1 ≤ i → i + (mm : Int) = n + 1 → gss Z k n fl = gsl Z k fl mm i g cc0 → dw G.1 dk_cl (dw_A f sz) s.heap f H locs → lv_has ls 8 [(7, .int (iI i)), (6, .int (iI (b2 g))), (5, .int (iI cc0)), (0, .ref y), (1, .int (iI k)), (2, .int (iI n)), (3, .int (iI fl))] → W p l e { frames := 0, locals := 0, cells := 0, slots := 0 } s m args below meth c H locs (0) (0) (MQ below (ct_Q G f sz (fun v f' => v = some (.int (iI (gss Z k n fl))) ∧ f' = f)) args s (0) (0) (dw_A f sz)) (F0 m 47 ls []) := by
        intro N
        induction N with
        | zero => intros; omega
        | succ N ih =>
          intro i g cc0 mm H locs ls hN hi0 hmm hgs hw hl
          refine lv_iload hx hb d_MD_guess_47 (lv_at hl 0 rfl) ?_
          refine lv_iload_n hx hb d_MD_guess_49 rfl (lv_at hl 5 rfl) ?_
          refine di_icmp_gt (tgt := 142) hx hb d_MD_guess_50 (by decide) ⟨by omega, by omega⟩ ⟨by omega, by omega⟩ (fun bq50 => ?_) (fun bq50 => ?_)
          · refine lv_iload hx hb d_MD_guess_142 (lv_at hl 2 rfl) ?_
            have hm0 : mm = 0 := by omega
            subst hm0
            exact cn_iret hx hb hr hlk hw  (⟨by rw [hgs]; rfl, rfl⟩) (Nat.le_refl _) (Nat.le_refl _) d_MD_guess_144
          · obtain ⟨m2, rfl⟩ : ∃ z, mm = z + 1 := ⟨mm - 1, by omega⟩
            have hgz := gtb hZr (k + i)
            have hb01 := b2_01 g
            refine lv_iload hx hb d_MD_guess_53 (lv_at hl 1 rfl) ?_
            refine di_if_eq (tgt := 103) hx hb d_MD_guess_55 (by decide) ⟨by omega, by omega⟩ (fun bq55 => ?_) (fun bq55 => ?_)
            · refine lv_iconst (v := iI (0)) hx hb d_MD_guess_103 rfl ?_
              rw [show (0 : Int) = b2 false from rfl]
              have hgn : (g && cnt (gt Z (k + i))) = false := by rw [b2_0 bq55, Bool.false_and]
              refine lv_istore (lv' := [(6, .int (iI (b2 false))), (7, .int (iI i)), (5, .int (iI cc0)), (0, .ref y), (1, .int (iI k)), (2, .int (iI n)), (3, .int (iI fl))]) hx hb d_MD_guess_104 hl (by decide) rfl (fun ls hl => ?_)
              refine lv_bipush (v := iI (64)) hx hb d_MD_guess_106 rfl ?_
              refine lv_iload hx hb d_MD_guess_108 (lv_at hl 2 rfl) ?_
              refine di_mul hx hb d_MD_guess_110 ?_
              refine lv_iload hx hb d_MD_guess_111 (lv_at hl 0 rfl) ?_
              refine di_if_eq (tgt := 132) hx hb d_MD_guess_113 (by decide) ⟨by decide, by decide⟩ (fun _ => ?_) (fun q9 => absurd q9 (by decide))
              refine lv_iload_n hx hb d_MD_guess_132 rfl (lv_at hl 6 rfl) ?_
              refine di_add hx hb d_MD_guess_133 ?_
              refine lv_istore (lv' := [(5, .int (iI ((64 * cc0) + fl))), (6, .int (iI (b2 false))), (7, .int (iI i)), (0, .ref y), (1, .int (iI k)), (2, .int (iI n)), (3, .int (iI fl))]) hx hb d_MD_guess_134 hl (by decide) rfl (fun ls hl => ?_)
              refine lv_iinc (v := iI (i + 1)) (lv' := [(7, .int (iI (i + 1))), (5, .int (iI ((64 * cc0) + fl))), (6, .int (iI (b2 false))), (0, .ref y), (1, .int (iI k)), (2, .int (iI n)), (3, .int (iI fl))]) hx hb d_MD_guess_136 hl (k := 2) rfl (iI_add _ _) (by decide) rfl (fun ls hl => ?_)
              refine lv_goto (tgt := 47) hx hb d_MD_guess_139 (by decide) ?_
              exact ih (i + 1) (false) ((64 * cc0) + fl) (m2) _ _ _ (by omega) (by omega) (by omega) (by rw [hgs, gsl, hgn, if_neg (by decide)]) hw (lv_sub hl [0, 2, 1, 3, 4, 5, 6] rfl)
            · refine lv_iload_n hx hb d_MD_guess_58 rfl (lv_at hl 4 rfl) ?_
              refine lv_iload hx hb d_MD_guess_59 (lv_at hl 0 rfl) ?_
              refine di_add hx hb d_MD_guess_61 ?_
              refine lv_aload_n hx hb d_MD_guess_62 rfl (lv_at hl 3 rfl) ?_
              refine gf_MD_112_MD X hw hM.1 d_MD_guess_63 ?_
              refine di_icmp_ge (tgt := 103) hx hb d_MD_guess_66 (by decide) ⟨by omega, by omega⟩ ⟨by omega, by omega⟩ (fun bq66 => ?_) (fun bq66 => ?_)
              · refine lv_iconst (v := iI (0)) hx hb d_MD_guess_103 rfl ?_
                rw [show (0 : Int) = b2 false from rfl]
                have hgn : (g && cnt (gt Z (k + i))) = false := by rw [gt_out (us := Z) (k := k + i) (by omega)]; cases g <;> rfl
                refine lv_istore (lv' := [(6, .int (iI (b2 false))), (7, .int (iI i)), (5, .int (iI cc0)), (0, .ref y), (1, .int (iI k)), (2, .int (iI n)), (3, .int (iI fl))]) hx hb d_MD_guess_104 hl (by decide) rfl (fun ls hl => ?_)
                refine lv_bipush (v := iI (64)) hx hb d_MD_guess_106 rfl ?_
                refine lv_iload hx hb d_MD_guess_108 (lv_at hl 2 rfl) ?_
                refine di_mul hx hb d_MD_guess_110 ?_
                refine lv_iload hx hb d_MD_guess_111 (lv_at hl 0 rfl) ?_
                refine di_if_eq (tgt := 132) hx hb d_MD_guess_113 (by decide) ⟨by decide, by decide⟩ (fun _ => ?_) (fun q9 => absurd q9 (by decide))
                refine lv_iload_n hx hb d_MD_guess_132 rfl (lv_at hl 6 rfl) ?_
                refine di_add hx hb d_MD_guess_133 ?_
                refine lv_istore (lv' := [(5, .int (iI ((64 * cc0) + fl))), (6, .int (iI (b2 false))), (7, .int (iI i)), (0, .ref y), (1, .int (iI k)), (2, .int (iI n)), (3, .int (iI fl))]) hx hb d_MD_guess_134 hl (by decide) rfl (fun ls hl => ?_)
                refine lv_iinc (v := iI (i + 1)) (lv' := [(7, .int (iI (i + 1))), (5, .int (iI ((64 * cc0) + fl))), (6, .int (iI (b2 false))), (0, .ref y), (1, .int (iI k)), (2, .int (iI n)), (3, .int (iI fl))]) hx hb d_MD_guess_136 hl (k := 2) rfl (iI_add _ _) (by decide) rfl (fun ls hl => ?_)
                refine lv_goto (tgt := 47) hx hb d_MD_guess_139 (by decide) ?_
                exact ih (i + 1) (false) ((64 * cc0) + fl) (m2) _ _ _ (by omega) (by omega) (by omega) (by rw [hgs, gsl, hgn, if_neg (by decide)]) hw (lv_sub hl [0, 2, 1, 3, 4, 5, 6] rfl)
              · refine lv_aload_n hx hb d_MD_guess_69 rfl (lv_at hl 3 rfl) ?_
                refine gf_MD_22_MD X hw hM.1 d_MD_guess_70 ?_
                refine lv_iload_n hx hb d_MD_guess_73 rfl (lv_at hl 4 rfl) ?_
                refine lv_iload hx hb d_MD_guess_74 (lv_at hl 0 rfl) ?_
                refine di_add hx hb d_MD_guess_76 ?_
                refine dw_iald hx hb X.K hw 0 hM.2.2.2.2.2.1 rfl (i := k + i) (by omega) (by omega) (by omega) (hZ.1.at (by omega) (by omega)) d_MD_guess_77 ?_
                refine lv_sipush (v := iI (128)) hx hb d_MD_guess_78 rfl ?_
                refine di_icmp_lt (tgt := 103) hx hb d_MD_guess_81 (by decide) ⟨by omega, by omega⟩ ⟨by omega, by omega⟩ (fun bq81 => ?_) (fun bq81 => ?_)
                · refine lv_iconst (v := iI (0)) hx hb d_MD_guess_103 rfl ?_
                  rw [show (0 : Int) = b2 false from rfl]
                  have hgn : (g && cnt (gt Z (k + i))) = false := by rw [show cnt (gt Z (k + i)) = false from decide_eq_false (by omega), Bool.and_false]
                  refine lv_istore (lv' := [(6, .int (iI (b2 false))), (7, .int (iI i)), (5, .int (iI cc0)), (0, .ref y), (1, .int (iI k)), (2, .int (iI n)), (3, .int (iI fl))]) hx hb d_MD_guess_104 hl (by decide) rfl (fun ls hl => ?_)
                  refine lv_bipush (v := iI (64)) hx hb d_MD_guess_106 rfl ?_
                  refine lv_iload hx hb d_MD_guess_108 (lv_at hl 2 rfl) ?_
                  refine di_mul hx hb d_MD_guess_110 ?_
                  refine lv_iload hx hb d_MD_guess_111 (lv_at hl 0 rfl) ?_
                  refine di_if_eq (tgt := 132) hx hb d_MD_guess_113 (by decide) ⟨by decide, by decide⟩ (fun _ => ?_) (fun q9 => absurd q9 (by decide))
                  refine lv_iload_n hx hb d_MD_guess_132 rfl (lv_at hl 6 rfl) ?_
                  refine di_add hx hb d_MD_guess_133 ?_
                  refine lv_istore (lv' := [(5, .int (iI ((64 * cc0) + fl))), (6, .int (iI (b2 false))), (7, .int (iI i)), (0, .ref y), (1, .int (iI k)), (2, .int (iI n)), (3, .int (iI fl))]) hx hb d_MD_guess_134 hl (by decide) rfl (fun ls hl => ?_)
                  refine lv_iinc (v := iI (i + 1)) (lv' := [(7, .int (iI (i + 1))), (5, .int (iI ((64 * cc0) + fl))), (6, .int (iI (b2 false))), (0, .ref y), (1, .int (iI k)), (2, .int (iI n)), (3, .int (iI fl))]) hx hb d_MD_guess_136 hl (k := 2) rfl (iI_add _ _) (by decide) rfl (fun ls hl => ?_)
                  refine lv_goto (tgt := 47) hx hb d_MD_guess_139 (by decide) ?_
                  exact ih (i + 1) (false) ((64 * cc0) + fl) (m2) _ _ _ (by omega) (by omega) (by omega) (by rw [hgs, gsl, hgn, if_neg (by decide)]) hw (lv_sub hl [0, 2, 1, 3, 4, 5, 6] rfl)
                · refine lv_aload_n hx hb d_MD_guess_84 rfl (lv_at hl 3 rfl) ?_
                  refine gf_MD_22_MD X hw hM.1 d_MD_guess_85 ?_
                  refine lv_iload_n hx hb d_MD_guess_88 rfl (lv_at hl 4 rfl) ?_
                  refine lv_iload hx hb d_MD_guess_89 (lv_at hl 0 rfl) ?_
                  refine di_add hx hb d_MD_guess_91 ?_
                  refine dw_iald hx hb X.K hw 0 hM.2.2.2.2.2.1 rfl (i := k + i) (by omega) (by omega) (by omega) (hZ.1.at (by omega) (by omega)) d_MD_guess_92 ?_
                  refine lv_sipush (v := iI (192)) hx hb d_MD_guess_93 rfl ?_
                  refine di_icmp_ge (tgt := 103) hx hb d_MD_guess_96 (by decide) ⟨by omega, by omega⟩ ⟨by omega, by omega⟩ (fun bq96 => ?_) (fun bq96 => ?_)
                  · refine lv_iconst (v := iI (0)) hx hb d_MD_guess_103 rfl ?_
                    rw [show (0 : Int) = b2 false from rfl]
                    have hgn : (g && cnt (gt Z (k + i))) = false := by rw [show cnt (gt Z (k + i)) = false from decide_eq_false (by omega), Bool.and_false]
                    refine lv_istore (lv' := [(6, .int (iI (b2 false))), (7, .int (iI i)), (5, .int (iI cc0)), (0, .ref y), (1, .int (iI k)), (2, .int (iI n)), (3, .int (iI fl))]) hx hb d_MD_guess_104 hl (by decide) rfl (fun ls hl => ?_)
                    refine lv_bipush (v := iI (64)) hx hb d_MD_guess_106 rfl ?_
                    refine lv_iload hx hb d_MD_guess_108 (lv_at hl 2 rfl) ?_
                    refine di_mul hx hb d_MD_guess_110 ?_
                    refine lv_iload hx hb d_MD_guess_111 (lv_at hl 0 rfl) ?_
                    refine di_if_eq (tgt := 132) hx hb d_MD_guess_113 (by decide) ⟨by decide, by decide⟩ (fun _ => ?_) (fun q9 => absurd q9 (by decide))
                    refine lv_iload_n hx hb d_MD_guess_132 rfl (lv_at hl 6 rfl) ?_
                    refine di_add hx hb d_MD_guess_133 ?_
                    refine lv_istore (lv' := [(5, .int (iI ((64 * cc0) + fl))), (6, .int (iI (b2 false))), (7, .int (iI i)), (0, .ref y), (1, .int (iI k)), (2, .int (iI n)), (3, .int (iI fl))]) hx hb d_MD_guess_134 hl (by decide) rfl (fun ls hl => ?_)
                    refine lv_iinc (v := iI (i + 1)) (lv' := [(7, .int (iI (i + 1))), (5, .int (iI ((64 * cc0) + fl))), (6, .int (iI (b2 false))), (0, .ref y), (1, .int (iI k)), (2, .int (iI n)), (3, .int (iI fl))]) hx hb d_MD_guess_136 hl (k := 2) rfl (iI_add _ _) (by decide) rfl (fun ls hl => ?_)
                    refine lv_goto (tgt := 47) hx hb d_MD_guess_139 (by decide) ?_
                    exact ih (i + 1) (false) ((64 * cc0) + fl) (m2) _ _ _ (by omega) (by omega) (by omega) (by rw [hgs, gsl, hgn, if_neg (by decide)]) hw (lv_sub hl [0, 2, 1, 3, 4, 5, 6] rfl)
                  · refine lv_iconst (v := iI (1)) hx hb d_MD_guess_99 rfl ?_
                    refine lv_goto (tgt := 104) hx hb d_MD_guess_100 (by decide) ?_
                    rw [show (1 : Int) = b2 true from rfl]
                    have hgn : (g && cnt (gt Z (k + i))) = true := by rw [b2_1 bq55, show cnt (gt Z (k + i)) = true from decide_eq_true (by omega)]; rfl
                    refine lv_istore (lv' := [(6, .int (iI (b2 true))), (7, .int (iI i)), (5, .int (iI cc0)), (0, .ref y), (1, .int (iI k)), (2, .int (iI n)), (3, .int (iI fl))]) hx hb d_MD_guess_104 hl (by decide) rfl (fun ls hl => ?_)
                    refine lv_bipush (v := iI (64)) hx hb d_MD_guess_106 rfl ?_
                    refine lv_iload hx hb d_MD_guess_108 (lv_at hl 2 rfl) ?_
                    refine di_mul hx hb d_MD_guess_110 ?_
                    refine lv_iload hx hb d_MD_guess_111 (lv_at hl 0 rfl) ?_
                    refine di_if_eq (tgt := 132) hx hb d_MD_guess_113 (by decide) ⟨by decide, by decide⟩ (fun q9 => absurd q9 (by decide)) (fun _ => ?_)
                    refine lv_aload_n hx hb d_MD_guess_116 rfl (lv_at hl 3 rfl) ?_
                    refine gf_MD_22_MD X hw hM.1 d_MD_guess_117 ?_
                    refine lv_iload_n hx hb d_MD_guess_120 rfl (lv_at hl 4 rfl) ?_
                    refine lv_iload hx hb d_MD_guess_121 (lv_at hl 1 rfl) ?_
                    refine di_add hx hb d_MD_guess_123 ?_
                    refine dw_iald hx hb X.K hw 0 hM.2.2.2.2.2.1 rfl (i := k + i) (by omega) (by omega) (by omega) (hZ.1.at (by omega) (by omega)) d_MD_guess_124 ?_
                    refine lv_sipush (v := iI (128)) hx hb d_MD_guess_125 rfl ?_
                    refine di_sub hx hb d_MD_guess_128 ?_
                    refine lv_goto (tgt := 133) hx hb d_MD_guess_129 (by decide) ?_
                    refine di_add hx hb d_MD_guess_133 ?_
                    refine lv_istore (lv' := [(5, .int (iI ((64 * cc0) + ((gt Z (k + i)) - 128)))), (6, .int (iI (b2 true))), (7, .int (iI i)), (0, .ref y), (1, .int (iI k)), (2, .int (iI n)), (3, .int (iI fl))]) hx hb d_MD_guess_134 hl (by decide) rfl (fun ls hl => ?_)
                    refine lv_iinc (v := iI (i + 1)) (lv' := [(7, .int (iI (i + 1))), (5, .int (iI ((64 * cc0) + ((gt Z (k + i)) - 128)))), (6, .int (iI (b2 true))), (0, .ref y), (1, .int (iI k)), (2, .int (iI n)), (3, .int (iI fl))]) hx hb d_MD_guess_136 hl (k := 2) rfl (iI_add _ _) (by decide) rfl (fun ls hl => ?_)
                    refine lv_goto (tgt := 47) hx hb d_MD_guess_139 (by decide) ?_
                    exact ih (i + 1) (true) ((64 * cc0) + ((gt Z (k + i)) - 128)) (m2) _ _ _ (by omega) (by omega) (by omega) (by rw [hgs, gsl, hgn, if_pos rfl]) hw (lv_sub hl [0, 2, 1, 3, 4, 5, 6] rfl)
      exact loop ((n + 1 - 1).toNat + 1) (1) (true) (gs0 (gt Z k) n) (n.toNat) _ _ _ (by omega) (by omega) (by omega) (rfl) hw (lv_sub hl [0, 1, 2, 4, 5, 6, 7] rfl)
  · refine lv_iload hx hb d_MD_guess_13 (lv_at hl 0 rfl) ?_
    refine lv_bipush (v := iI (32)) hx hb d_MD_guess_15 rfl ?_
    refine di_rem hx hb d_MD_guess_17 (by omega) (by omega) (by omega) (by omega) ?_
    refine lv_goto (tgt := 39) hx hb d_MD_guess_18 (by decide) ?_
    have hg0 : gs0 (gt Z k) n = gt Z k % 32 := by rw [gs0, if_pos (by omega)]
    rw [← hg0]
    refine lv_istore (lv' := [(5, .int (iI (gs0 (gt Z k) n))), (4, .int (iI (gt Z k))), (0, .ref y), (1, .int (iI k)), (2, .int (iI n)), (3, .int (iI fl))]) hx hb d_MD_guess_39 hl (by decide) rfl (fun ls hl => ?_)
    refine lv_iconst (v := iI (1)) hx hb d_MD_guess_41 rfl ?_
    refine lv_istore (lv' := [(6, .int (iI 1)), (5, .int (iI (gs0 (gt Z k) n))), (4, .int (iI (gt Z k))), (0, .ref y), (1, .int (iI k)), (2, .int (iI n)), (3, .int (iI fl))]) hx hb d_MD_guess_42 hl (by decide) rfl (fun ls hl => ?_)
    refine lv_iconst (v := iI (1)) hx hb d_MD_guess_44 rfl ?_
    refine lv_istore (lv' := [(7, .int (iI 1)), (6, .int (iI 1)), (5, .int (iI (gs0 (gt Z k) n))), (4, .int (iI (gt Z k))), (0, .ref y), (1, .int (iI k)), (2, .int (iI n)), (3, .int (iI fl))]) hx hb d_MD_guess_45 hl (by decide) rfl (fun ls hl => ?_)
    have loop : ∀ (N : Nat) (i : Int) (g : Bool) (cc0 : Int) (mm : Nat) (H : Heap) (locs : List Loc) (ls : Array Slot), (n + 1 - i).toNat < N → 1 ≤ i → i + (mm : Int) = n + 1 → gss Z k n fl = gsl Z k fl mm i g cc0 → dw G.1 dk_cl (dw_A f sz) s.heap f H locs → lv_has ls 8 [(7, .int (iI i)), (6, .int (iI (b2 g))), (5, .int (iI cc0)), (0, .ref y), (1, .int (iI k)), (2, .int (iI n)), (3, .int (iI fl))] → W p l e { frames := 0, locals := 0, cells := 0, slots := 0 } s m args below meth c H locs (0) (0) (MQ below (ct_Q G f sz (fun v f' => v = some (.int (iI (gss Z k n fl))) ∧ f' = f)) args s (0) (0) (dw_A f sz)) (F0 m 47 ls []) := by
      intro N
      induction N with
      | zero => intros; omega
      | succ N ih =>
        intro i g cc0 mm H locs ls hN hi0 hmm hgs hw hl
        refine lv_iload hx hb d_MD_guess_47 (lv_at hl 0 rfl) ?_
        refine lv_iload_n hx hb d_MD_guess_49 rfl (lv_at hl 5 rfl) ?_
        refine di_icmp_gt (tgt := 142) hx hb d_MD_guess_50 (by decide) ⟨by omega, by omega⟩ ⟨by omega, by omega⟩ (fun bq50 => ?_) (fun bq50 => ?_)
        · refine lv_iload hx hb d_MD_guess_142 (lv_at hl 2 rfl) ?_
          have hm0 : mm = 0 := by omega
          subst hm0
          exact cn_iret hx hb hr hlk hw  (⟨by rw [hgs]; rfl, rfl⟩) (Nat.le_refl _) (Nat.le_refl _) d_MD_guess_144
        · obtain ⟨m2, rfl⟩ : ∃ z, mm = z + 1 := ⟨mm - 1, by omega⟩
          have hgz := gtb hZr (k + i)
          have hb01 := b2_01 g
          refine lv_iload hx hb d_MD_guess_53 (lv_at hl 1 rfl) ?_
          refine di_if_eq (tgt := 103) hx hb d_MD_guess_55 (by decide) ⟨by omega, by omega⟩ (fun bq55 => ?_) (fun bq55 => ?_)
          · refine lv_iconst (v := iI (0)) hx hb d_MD_guess_103 rfl ?_
            rw [show (0 : Int) = b2 false from rfl]
            have hgn : (g && cnt (gt Z (k + i))) = false := by rw [b2_0 bq55, Bool.false_and]
            refine lv_istore (lv' := [(6, .int (iI (b2 false))), (7, .int (iI i)), (5, .int (iI cc0)), (0, .ref y), (1, .int (iI k)), (2, .int (iI n)), (3, .int (iI fl))]) hx hb d_MD_guess_104 hl (by decide) rfl (fun ls hl => ?_)
            refine lv_bipush (v := iI (64)) hx hb d_MD_guess_106 rfl ?_
            refine lv_iload hx hb d_MD_guess_108 (lv_at hl 2 rfl) ?_
            refine di_mul hx hb d_MD_guess_110 ?_
            refine lv_iload hx hb d_MD_guess_111 (lv_at hl 0 rfl) ?_
            refine di_if_eq (tgt := 132) hx hb d_MD_guess_113 (by decide) ⟨by decide, by decide⟩ (fun _ => ?_) (fun q9 => absurd q9 (by decide))
            refine lv_iload_n hx hb d_MD_guess_132 rfl (lv_at hl 6 rfl) ?_
            refine di_add hx hb d_MD_guess_133 ?_
            refine lv_istore (lv' := [(5, .int (iI ((64 * cc0) + fl))), (6, .int (iI (b2 false))), (7, .int (iI i)), (0, .ref y), (1, .int (iI k)), (2, .int (iI n)), (3, .int (iI fl))]) hx hb d_MD_guess_134 hl (by decide) rfl (fun ls hl => ?_)
            refine lv_iinc (v := iI (i + 1)) (lv' := [(7, .int (iI (i + 1))), (5, .int (iI ((64 * cc0) + fl))), (6, .int (iI (b2 false))), (0, .ref y), (1, .int (iI k)), (2, .int (iI n)), (3, .int (iI fl))]) hx hb d_MD_guess_136 hl (k := 2) rfl (iI_add _ _) (by decide) rfl (fun ls hl => ?_)
            refine lv_goto (tgt := 47) hx hb d_MD_guess_139 (by decide) ?_
            exact ih (i + 1) (false) ((64 * cc0) + fl) (m2) _ _ _ (by omega) (by omega) (by omega) (by rw [hgs, gsl, hgn, if_neg (by decide)]) hw (lv_sub hl [0, 2, 1, 3, 4, 5, 6] rfl)
          · refine lv_iload_n hx hb d_MD_guess_58 rfl (lv_at hl 4 rfl) ?_
            refine lv_iload hx hb d_MD_guess_59 (lv_at hl 0 rfl) ?_
            refine di_add hx hb d_MD_guess_61 ?_
            refine lv_aload_n hx hb d_MD_guess_62 rfl (lv_at hl 3 rfl) ?_
            refine gf_MD_112_MD X hw hM.1 d_MD_guess_63 ?_
            refine di_icmp_ge (tgt := 103) hx hb d_MD_guess_66 (by decide) ⟨by omega, by omega⟩ ⟨by omega, by omega⟩ (fun bq66 => ?_) (fun bq66 => ?_)
            · refine lv_iconst (v := iI (0)) hx hb d_MD_guess_103 rfl ?_
              rw [show (0 : Int) = b2 false from rfl]
              have hgn : (g && cnt (gt Z (k + i))) = false := by rw [gt_out (us := Z) (k := k + i) (by omega)]; cases g <;> rfl
              refine lv_istore (lv' := [(6, .int (iI (b2 false))), (7, .int (iI i)), (5, .int (iI cc0)), (0, .ref y), (1, .int (iI k)), (2, .int (iI n)), (3, .int (iI fl))]) hx hb d_MD_guess_104 hl (by decide) rfl (fun ls hl => ?_)
              refine lv_bipush (v := iI (64)) hx hb d_MD_guess_106 rfl ?_
              refine lv_iload hx hb d_MD_guess_108 (lv_at hl 2 rfl) ?_
              refine di_mul hx hb d_MD_guess_110 ?_
              refine lv_iload hx hb d_MD_guess_111 (lv_at hl 0 rfl) ?_
              refine di_if_eq (tgt := 132) hx hb d_MD_guess_113 (by decide) ⟨by decide, by decide⟩ (fun _ => ?_) (fun q9 => absurd q9 (by decide))
              refine lv_iload_n hx hb d_MD_guess_132 rfl (lv_at hl 6 rfl) ?_
              refine di_add hx hb d_MD_guess_133 ?_
              refine lv_istore (lv' := [(5, .int (iI ((64 * cc0) + fl))), (6, .int (iI (b2 false))), (7, .int (iI i)), (0, .ref y), (1, .int (iI k)), (2, .int (iI n)), (3, .int (iI fl))]) hx hb d_MD_guess_134 hl (by decide) rfl (fun ls hl => ?_)
              refine lv_iinc (v := iI (i + 1)) (lv' := [(7, .int (iI (i + 1))), (5, .int (iI ((64 * cc0) + fl))), (6, .int (iI (b2 false))), (0, .ref y), (1, .int (iI k)), (2, .int (iI n)), (3, .int (iI fl))]) hx hb d_MD_guess_136 hl (k := 2) rfl (iI_add _ _) (by decide) rfl (fun ls hl => ?_)
              refine lv_goto (tgt := 47) hx hb d_MD_guess_139 (by decide) ?_
              exact ih (i + 1) (false) ((64 * cc0) + fl) (m2) _ _ _ (by omega) (by omega) (by omega) (by rw [hgs, gsl, hgn, if_neg (by decide)]) hw (lv_sub hl [0, 2, 1, 3, 4, 5, 6] rfl)
            · refine lv_aload_n hx hb d_MD_guess_69 rfl (lv_at hl 3 rfl) ?_
              refine gf_MD_22_MD X hw hM.1 d_MD_guess_70 ?_
              refine lv_iload_n hx hb d_MD_guess_73 rfl (lv_at hl 4 rfl) ?_
              refine lv_iload hx hb d_MD_guess_74 (lv_at hl 0 rfl) ?_
              refine di_add hx hb d_MD_guess_76 ?_
              refine dw_iald hx hb X.K hw 0 hM.2.2.2.2.2.1 rfl (i := k + i) (by omega) (by omega) (by omega) (hZ.1.at (by omega) (by omega)) d_MD_guess_77 ?_
              refine lv_sipush (v := iI (128)) hx hb d_MD_guess_78 rfl ?_
              refine di_icmp_lt (tgt := 103) hx hb d_MD_guess_81 (by decide) ⟨by omega, by omega⟩ ⟨by omega, by omega⟩ (fun bq81 => ?_) (fun bq81 => ?_)
              · refine lv_iconst (v := iI (0)) hx hb d_MD_guess_103 rfl ?_
                rw [show (0 : Int) = b2 false from rfl]
                have hgn : (g && cnt (gt Z (k + i))) = false := by rw [show cnt (gt Z (k + i)) = false from decide_eq_false (by omega), Bool.and_false]
                refine lv_istore (lv' := [(6, .int (iI (b2 false))), (7, .int (iI i)), (5, .int (iI cc0)), (0, .ref y), (1, .int (iI k)), (2, .int (iI n)), (3, .int (iI fl))]) hx hb d_MD_guess_104 hl (by decide) rfl (fun ls hl => ?_)
                refine lv_bipush (v := iI (64)) hx hb d_MD_guess_106 rfl ?_
                refine lv_iload hx hb d_MD_guess_108 (lv_at hl 2 rfl) ?_
                refine di_mul hx hb d_MD_guess_110 ?_
                refine lv_iload hx hb d_MD_guess_111 (lv_at hl 0 rfl) ?_
                refine di_if_eq (tgt := 132) hx hb d_MD_guess_113 (by decide) ⟨by decide, by decide⟩ (fun _ => ?_) (fun q9 => absurd q9 (by decide))
                refine lv_iload_n hx hb d_MD_guess_132 rfl (lv_at hl 6 rfl) ?_
                refine di_add hx hb d_MD_guess_133 ?_
                refine lv_istore (lv' := [(5, .int (iI ((64 * cc0) + fl))), (6, .int (iI (b2 false))), (7, .int (iI i)), (0, .ref y), (1, .int (iI k)), (2, .int (iI n)), (3, .int (iI fl))]) hx hb d_MD_guess_134 hl (by decide) rfl (fun ls hl => ?_)
                refine lv_iinc (v := iI (i + 1)) (lv' := [(7, .int (iI (i + 1))), (5, .int (iI ((64 * cc0) + fl))), (6, .int (iI (b2 false))), (0, .ref y), (1, .int (iI k)), (2, .int (iI n)), (3, .int (iI fl))]) hx hb d_MD_guess_136 hl (k := 2) rfl (iI_add _ _) (by decide) rfl (fun ls hl => ?_)
                refine lv_goto (tgt := 47) hx hb d_MD_guess_139 (by decide) ?_
                exact ih (i + 1) (false) ((64 * cc0) + fl) (m2) _ _ _ (by omega) (by omega) (by omega) (by rw [hgs, gsl, hgn, if_neg (by decide)]) hw (lv_sub hl [0, 2, 1, 3, 4, 5, 6] rfl)
              · refine lv_aload_n hx hb d_MD_guess_84 rfl (lv_at hl 3 rfl) ?_
                refine gf_MD_22_MD X hw hM.1 d_MD_guess_85 ?_
                refine lv_iload_n hx hb d_MD_guess_88 rfl (lv_at hl 4 rfl) ?_
                refine lv_iload hx hb d_MD_guess_89 (lv_at hl 0 rfl) ?_
                refine di_add hx hb d_MD_guess_91 ?_
                refine dw_iald hx hb X.K hw 0 hM.2.2.2.2.2.1 rfl (i := k + i) (by omega) (by omega) (by omega) (hZ.1.at (by omega) (by omega)) d_MD_guess_92 ?_
                refine lv_sipush (v := iI (192)) hx hb d_MD_guess_93 rfl ?_
                refine di_icmp_ge (tgt := 103) hx hb d_MD_guess_96 (by decide) ⟨by omega, by omega⟩ ⟨by omega, by omega⟩ (fun bq96 => ?_) (fun bq96 => ?_)
                · refine lv_iconst (v := iI (0)) hx hb d_MD_guess_103 rfl ?_
                  rw [show (0 : Int) = b2 false from rfl]
                  have hgn : (g && cnt (gt Z (k + i))) = false := by rw [show cnt (gt Z (k + i)) = false from decide_eq_false (by omega), Bool.and_false]
                  refine lv_istore (lv' := [(6, .int (iI (b2 false))), (7, .int (iI i)), (5, .int (iI cc0)), (0, .ref y), (1, .int (iI k)), (2, .int (iI n)), (3, .int (iI fl))]) hx hb d_MD_guess_104 hl (by decide) rfl (fun ls hl => ?_)
                  refine lv_bipush (v := iI (64)) hx hb d_MD_guess_106 rfl ?_
                  refine lv_iload hx hb d_MD_guess_108 (lv_at hl 2 rfl) ?_
                  refine di_mul hx hb d_MD_guess_110 ?_
                  refine lv_iload hx hb d_MD_guess_111 (lv_at hl 0 rfl) ?_
                  refine di_if_eq (tgt := 132) hx hb d_MD_guess_113 (by decide) ⟨by decide, by decide⟩ (fun _ => ?_) (fun q9 => absurd q9 (by decide))
                  refine lv_iload_n hx hb d_MD_guess_132 rfl (lv_at hl 6 rfl) ?_
                  refine di_add hx hb d_MD_guess_133 ?_
                  refine lv_istore (lv' := [(5, .int (iI ((64 * cc0) + fl))), (6, .int (iI (b2 false))), (7, .int (iI i)), (0, .ref y), (1, .int (iI k)), (2, .int (iI n)), (3, .int (iI fl))]) hx hb d_MD_guess_134 hl (by decide) rfl (fun ls hl => ?_)
                  refine lv_iinc (v := iI (i + 1)) (lv' := [(7, .int (iI (i + 1))), (5, .int (iI ((64 * cc0) + fl))), (6, .int (iI (b2 false))), (0, .ref y), (1, .int (iI k)), (2, .int (iI n)), (3, .int (iI fl))]) hx hb d_MD_guess_136 hl (k := 2) rfl (iI_add _ _) (by decide) rfl (fun ls hl => ?_)
                  refine lv_goto (tgt := 47) hx hb d_MD_guess_139 (by decide) ?_
                  exact ih (i + 1) (false) ((64 * cc0) + fl) (m2) _ _ _ (by omega) (by omega) (by omega) (by rw [hgs, gsl, hgn, if_neg (by decide)]) hw (lv_sub hl [0, 2, 1, 3, 4, 5, 6] rfl)
                · refine lv_iconst (v := iI (1)) hx hb d_MD_guess_99 rfl ?_
                  refine lv_goto (tgt := 104) hx hb d_MD_guess_100 (by decide) ?_
                  rw [show (1 : Int) = b2 true from rfl]
                  have hgn : (g && cnt (gt Z (k + i))) = true := by rw [b2_1 bq55, show cnt (gt Z (k + i)) = true from decide_eq_true (by omega)]; rfl
                  refine lv_istore (lv' := [(6, .int (iI (b2 true))), (7, .int (iI i)), (5, .int (iI cc0)), (0, .ref y), (1, .int (iI k)), (2, .int (iI n)), (3, .int (iI fl))]) hx hb d_MD_guess_104 hl (by decide) rfl (fun ls hl => ?_)
                  refine lv_bipush (v := iI (64)) hx hb d_MD_guess_106 rfl ?_
                  refine lv_iload hx hb d_MD_guess_108 (lv_at hl 2 rfl) ?_
                  refine di_mul hx hb d_MD_guess_110 ?_
                  refine lv_iload hx hb d_MD_guess_111 (lv_at hl 0 rfl) ?_
                  refine di_if_eq (tgt := 132) hx hb d_MD_guess_113 (by decide) ⟨by decide, by decide⟩ (fun q9 => absurd q9 (by decide)) (fun _ => ?_)
                  refine lv_aload_n hx hb d_MD_guess_116 rfl (lv_at hl 3 rfl) ?_
                  refine gf_MD_22_MD X hw hM.1 d_MD_guess_117 ?_
                  refine lv_iload_n hx hb d_MD_guess_120 rfl (lv_at hl 4 rfl) ?_
                  refine lv_iload hx hb d_MD_guess_121 (lv_at hl 1 rfl) ?_
                  refine di_add hx hb d_MD_guess_123 ?_
                  refine dw_iald hx hb X.K hw 0 hM.2.2.2.2.2.1 rfl (i := k + i) (by omega) (by omega) (by omega) (hZ.1.at (by omega) (by omega)) d_MD_guess_124 ?_
                  refine lv_sipush (v := iI (128)) hx hb d_MD_guess_125 rfl ?_
                  refine di_sub hx hb d_MD_guess_128 ?_
                  refine lv_goto (tgt := 133) hx hb d_MD_guess_129 (by decide) ?_
                  refine di_add hx hb d_MD_guess_133 ?_
                  refine lv_istore (lv' := [(5, .int (iI ((64 * cc0) + ((gt Z (k + i)) - 128)))), (6, .int (iI (b2 true))), (7, .int (iI i)), (0, .ref y), (1, .int (iI k)), (2, .int (iI n)), (3, .int (iI fl))]) hx hb d_MD_guess_134 hl (by decide) rfl (fun ls hl => ?_)
                  refine lv_iinc (v := iI (i + 1)) (lv' := [(7, .int (iI (i + 1))), (5, .int (iI ((64 * cc0) + ((gt Z (k + i)) - 128)))), (6, .int (iI (b2 true))), (0, .ref y), (1, .int (iI k)), (2, .int (iI n)), (3, .int (iI fl))]) hx hb d_MD_guess_136 hl (k := 2) rfl (iI_add _ _) (by decide) rfl (fun ls hl => ?_)
                  refine lv_goto (tgt := 47) hx hb d_MD_guess_139 (by decide) ?_
                  exact ih (i + 1) (true) ((64 * cc0) + ((gt Z (k + i)) - 128)) (m2) _ _ _ (by omega) (by omega) (by omega) (by rw [hgs, gsl, hgn, if_pos rfl]) hw (lv_sub hl [0, 2, 1, 3, 4, 5, 6] rfl)
    exact loop ((n + 1 - 1).toNat + 1) (1) (true) (gs0 (gt Z k) n) (n.toNat) _ _ _ (by omega) (by omega) (by omega) (rfl) hw (lv_sub hl [0, 1, 2, 4, 5, 6, 7] rfl)
set_option maxRecDepth 100000 in
set_option maxHeartbeats 4000000 in
theorem c_MD_may (l : Launch) (G : ct_G) (f : dw_M) (sz : Nat) (cd n : Int) (md : Bool) (hc : iR cd) (hn : 1 ≤ n ∧ n ≤ 3) : cn l y_MD_may w_MD_may (1) (20) G f sz [.int (iI cd), .int (iI n), .int (iI (b2 md))] (fun v f' => v = some (.int (iI (b2 (mayb cd n md)))) ∧ f' = f) (0) (0) := by
  refine cn_of (own := "TextDeskModel") (nm := "may") (ds := "(IIZ)Z") (by decide) (Nat.le_of_ble_eq_true rfl) ?_
  intro p e s m args below meth c ls X hnm hr hlk hs0 hz hw hl
  have hx := X.1
  have hb := X.2.1
  have hl : lv_has ls 5 [(0, .int (iI cd)), (1, .int (iI n)), (2, .int (iI (b2 md)))] := hl
  obtain ⟨hc0, hc1⟩ := hc
  have hbm := b2_01 md
  have hbh := b2_01 (hi cd)
  have hbl := b2_01 (lw cd)
  rcases (show n = 1 ∨ n = 2 ∨ n = 3 by omega) with he | he | he
  · subst he
    have hle : lea 1 = 128 := rfl
    have hmo : mos 1 = 2047 := rfl
    refine lv_iload_n hx hb d_MD_may_0 rfl (lv_at hl 1 rfl) ?_
    refine lv_iconst (v := iI (1)) hx hb d_MD_may_1 rfl ?_
    refine di_icmp_ne (tgt := 11) hx hb d_MD_may_2 (by decide) ⟨by decide, by decide⟩ ⟨by decide, by decide⟩ (fun q9 => absurd q9 (by decide)) (fun _ => ?_)
    refine lv_sipush (v := iI (128)) hx hb d_MD_may_5 rfl ?_
    refine lv_goto (tgt := 24) hx hb d_MD_may_8 (by decide) ?_
    refine lv_istore_n (lv' := [(3, .int (iI 128)), (0, .int (iI cd)), (1, .int (iI 1)), (2, .int (iI (b2 md)))]) hx hb d_MD_may_24 rfl hl (by decide) rfl (fun ls hl => ?_)
    refine lv_iload_n hx hb d_MD_may_25 rfl (lv_at hl 2 rfl) ?_
    refine lv_iconst (v := iI (1)) hx hb d_MD_may_26 rfl ?_
    refine di_icmp_ne (tgt := 36) hx hb d_MD_may_27 (by decide) ⟨by decide, by decide⟩ ⟨by decide, by decide⟩ (fun q9 => absurd q9 (by decide)) (fun _ => ?_)
    refine lv_sipush (v := iI (2047)) hx hb d_MD_may_30 rfl ?_
    refine lv_goto (tgt := 48) hx hb d_MD_may_33 (by decide) ?_
    refine lv_istore (lv' := [(4, .int (iI 2047)), (3, .int (iI 128)), (0, .int (iI cd)), (1, .int (iI 1)), (2, .int (iI (b2 md)))]) hx hb d_MD_may_48 hl (by decide) rfl (fun ls hl => ?_)
    refine lv_iload_n hx hb d_MD_may_50 rfl (lv_at hl 2 rfl) ?_
    refine lv_iload_n hx hb d_MD_may_51 rfl (lv_at hl 1 rfl) ?_
    refine di_icmp_lt (tgt := 83) hx hb d_MD_may_52 (by decide) ⟨by omega, by omega⟩ ⟨by omega, by omega⟩ (fun bq52 => ?_) (fun bq52 => ?_)
    · refine lv_iconst (v := iI (0)) hx hb d_MD_may_83 rfl ?_
      exact cn_zret hx hb hr hlk hw rfl (⟨by rw [show mayb cd 1 md = false from by rw [mayb, show decide (lea 1 ≤ cd ∧ cd ≤ mos 1) = false from decide_eq_false (by rw [hle, hmo]; omega), Bool.false_and]]; rfl, rfl⟩) (Nat.le_refl _) (Nat.le_refl _) d_MD_may_84
    · refine lv_iload_n hx hb d_MD_may_55 rfl (lv_at hl 2 rfl) ?_
      refine lv_iload hx hb d_MD_may_56 (lv_at hl 0 rfl) ?_
      refine di_icmp_gt (tgt := 83) hx hb d_MD_may_58 (by decide) ⟨by omega, by omega⟩ ⟨by omega, by omega⟩ (fun bq58 => ?_) (fun bq58 => ?_)
      · refine lv_iconst (v := iI (0)) hx hb d_MD_may_83 rfl ?_
        exact cn_zret hx hb hr hlk hw rfl (⟨by rw [show mayb cd 1 md = false from by rw [mayb, show decide (lea 1 ≤ cd ∧ cd ≤ mos 1) = false from decide_eq_false (by rw [hle, hmo]; omega), Bool.false_and]]; rfl, rfl⟩) (Nat.le_refl _) (Nat.le_refl _) d_MD_may_84
      · refine lv_iload_n hx hb d_MD_may_61 rfl (lv_at hl 4 rfl) ?_
        refine di_if_ne (tgt := 79) hx hb d_MD_may_62 (by decide) ⟨by omega, by omega⟩ (fun bq62 => ?_) (fun bq62 => ?_)
        · refine lv_iconst (v := iI (1)) hx hb d_MD_may_79 rfl ?_
          refine lv_goto (tgt := 84) hx hb d_MD_may_80 (by decide) ?_
          exact cn_zret hx hb hr hlk hw rfl (⟨by rw [show mayb cd 1 md = true from by rw [mayb, show decide (lea 1 ≤ cd ∧ cd ≤ mos 1) = true from decide_eq_true (by rw [hle, hmo]; omega), Bool.true_and, b2_1 bq62]; rfl]; rfl, rfl⟩) (Nat.le_refl _) (Nat.le_refl _) d_MD_may_84
        · have hmf : md = false := b2_0 (by omega)
          refine lv_iload_n hx hb d_MD_may_65 rfl (lv_at hl 2 rfl) ?_
          refine cs_MD_43 X hz hw hl.1 (c_MD_high l G f _ cd ⟨by omega, by omega⟩) ⟨Nat.le_of_ble_eq_true rfl, Nat.le_of_ble_eq_true rfl⟩ ⟨by show 0 + 0 ≤ 0; omega, by show 0 + 0 ≤ 0; omega⟩ (Nat.le_of_ble_eq_true rfl) d_MD_may_66 (fun v f9 H locs hp hw hsz9 hkp9 hdm9 => ?_)
          obtain ⟨rfl, hfe⟩ := hp
          rw [hfe] at hw
          refine W.eq (g2 := F0 m 69 ls [.int (iI (b2 (hi cd)))]) rfl ?_
          refine di_if_ne (tgt := 83) hx hb d_MD_may_69 (by decide) ⟨by omega, by omega⟩ (fun bq69 => ?_) (fun bq69 => ?_)
          · refine lv_iconst (v := iI (0)) hx hb d_MD_may_83 rfl ?_
            exact cn_zret hx hb hr hlk hw rfl (⟨by rw [show mayb cd 1 md = false from by rw [mayb, show decide (lea 1 ≤ cd ∧ cd ≤ mos 1) = true from decide_eq_true (by rw [hle, hmo]; omega), Bool.true_and, hmf, b2_1 bq69]; rfl]; rfl, rfl⟩) (Nat.le_refl _) (Nat.le_refl _) d_MD_may_84
          · have hhf : hi cd = false := b2_0 (by omega)
            refine lv_iload_n hx hb d_MD_may_72 rfl (lv_at hl 2 rfl) ?_
            refine cs_MD_47 X hz hw hl.1 (c_MD_low l G f _ cd ⟨by omega, by omega⟩) ⟨Nat.le_of_ble_eq_true rfl, Nat.le_of_ble_eq_true rfl⟩ ⟨by show 0 + 0 ≤ 0; omega, by show 0 + 0 ≤ 0; omega⟩ (Nat.le_of_ble_eq_true rfl) d_MD_may_73 (fun v f9 H locs hp hw hsz9 hkp9 hdm9 => ?_)
            obtain ⟨rfl, hfe⟩ := hp
            rw [hfe] at hw
            refine W.eq (g2 := F0 m 76 ls [.int (iI (b2 (lw cd)))]) rfl ?_
            refine di_if_ne (tgt := 83) hx hb d_MD_may_76 (by decide) ⟨by omega, by omega⟩ (fun bq76 => ?_) (fun bq76 => ?_)
            · refine lv_iconst (v := iI (0)) hx hb d_MD_may_83 rfl ?_
              exact cn_zret hx hb hr hlk hw rfl (⟨by rw [show mayb cd 1 md = false from by rw [mayb, show decide (lea 1 ≤ cd ∧ cd ≤ mos 1) = true from decide_eq_true (by rw [hle, hmo]; omega), Bool.true_and, hmf, hhf, b2_1 bq76]; rfl]; rfl, rfl⟩) (Nat.le_refl _) (Nat.le_refl _) d_MD_may_84
            · refine lv_iconst (v := iI (1)) hx hb d_MD_may_79 rfl ?_
              refine lv_goto (tgt := 84) hx hb d_MD_may_80 (by decide) ?_
              exact cn_zret hx hb hr hlk hw rfl (⟨by rw [show mayb cd 1 md = true from by rw [mayb, show decide (lea 1 ≤ cd ∧ cd ≤ mos 1) = true from decide_eq_true (by rw [hle, hmo]; omega), Bool.true_and, hmf, hhf, b2_0 (by omega : b2 (lw cd) = 0)]; rfl]; rfl, rfl⟩) (Nat.le_refl _) (Nat.le_refl _) d_MD_may_84
  · subst he
    have hle : lea 2 = 2048 := rfl
    have hmo : mos 2 = 65535 := rfl
    refine lv_iload_n hx hb d_MD_may_0 rfl (lv_at hl 1 rfl) ?_
    refine lv_iconst (v := iI (1)) hx hb d_MD_may_1 rfl ?_
    refine di_icmp_ne (tgt := 11) hx hb d_MD_may_2 (by decide) ⟨by decide, by decide⟩ ⟨by decide, by decide⟩ (fun _ => ?_) (fun q9 => absurd q9 (by decide))
    refine lv_iload_n hx hb d_MD_may_11 rfl (lv_at hl 1 rfl) ?_
    refine lv_iconst (v := iI (2)) hx hb d_MD_may_12 rfl ?_
    refine di_icmp_ne (tgt := 22) hx hb d_MD_may_13 (by decide) ⟨by decide, by decide⟩ ⟨by decide, by decide⟩ (fun q9 => absurd q9 (by decide)) (fun _ => ?_)
    refine lv_sipush (v := iI (2048)) hx hb d_MD_may_16 rfl ?_
    refine lv_goto (tgt := 24) hx hb d_MD_may_19 (by decide) ?_
    refine lv_istore_n (lv' := [(3, .int (iI 2048)), (0, .int (iI cd)), (1, .int (iI 2)), (2, .int (iI (b2 md)))]) hx hb d_MD_may_24 rfl hl (by decide) rfl (fun ls hl => ?_)
    refine lv_iload_n hx hb d_MD_may_25 rfl (lv_at hl 2 rfl) ?_
    refine lv_iconst (v := iI (1)) hx hb d_MD_may_26 rfl ?_
    refine di_icmp_ne (tgt := 36) hx hb d_MD_may_27 (by decide) ⟨by decide, by decide⟩ ⟨by decide, by decide⟩ (fun _ => ?_) (fun q9 => absurd q9 (by decide))
    refine lv_iload_n hx hb d_MD_may_36 rfl (lv_at hl 2 rfl) ?_
    refine lv_iconst (v := iI (2)) hx hb d_MD_may_37 rfl ?_
    refine di_icmp_ne (tgt := 46) hx hb d_MD_may_38 (by decide) ⟨by decide, by decide⟩ ⟨by decide, by decide⟩ (fun q9 => absurd q9 (by decide)) (fun _ => ?_)
    refine lv_ldc (v := iI (65535)) hx hb X.own (X.hts _ mw_859) d_MD_may_41 ?_
    refine lv_goto (tgt := 48) hx hb d_MD_may_43 (by decide) ?_
    refine lv_istore (lv' := [(4, .int (iI 65535)), (3, .int (iI 2048)), (0, .int (iI cd)), (1, .int (iI 2)), (2, .int (iI (b2 md)))]) hx hb d_MD_may_48 hl (by decide) rfl (fun ls hl => ?_)
    refine lv_iload_n hx hb d_MD_may_50 rfl (lv_at hl 2 rfl) ?_
    refine lv_iload_n hx hb d_MD_may_51 rfl (lv_at hl 1 rfl) ?_
    refine di_icmp_lt (tgt := 83) hx hb d_MD_may_52 (by decide) ⟨by omega, by omega⟩ ⟨by omega, by omega⟩ (fun bq52 => ?_) (fun bq52 => ?_)
    · refine lv_iconst (v := iI (0)) hx hb d_MD_may_83 rfl ?_
      exact cn_zret hx hb hr hlk hw rfl (⟨by rw [show mayb cd 2 md = false from by rw [mayb, show decide (lea 2 ≤ cd ∧ cd ≤ mos 2) = false from decide_eq_false (by rw [hle, hmo]; omega), Bool.false_and]]; rfl, rfl⟩) (Nat.le_refl _) (Nat.le_refl _) d_MD_may_84
    · refine lv_iload_n hx hb d_MD_may_55 rfl (lv_at hl 2 rfl) ?_
      refine lv_iload hx hb d_MD_may_56 (lv_at hl 0 rfl) ?_
      refine di_icmp_gt (tgt := 83) hx hb d_MD_may_58 (by decide) ⟨by omega, by omega⟩ ⟨by omega, by omega⟩ (fun bq58 => ?_) (fun bq58 => ?_)
      · refine lv_iconst (v := iI (0)) hx hb d_MD_may_83 rfl ?_
        exact cn_zret hx hb hr hlk hw rfl (⟨by rw [show mayb cd 2 md = false from by rw [mayb, show decide (lea 2 ≤ cd ∧ cd ≤ mos 2) = false from decide_eq_false (by rw [hle, hmo]; omega), Bool.false_and]]; rfl, rfl⟩) (Nat.le_refl _) (Nat.le_refl _) d_MD_may_84
      · refine lv_iload_n hx hb d_MD_may_61 rfl (lv_at hl 4 rfl) ?_
        refine di_if_ne (tgt := 79) hx hb d_MD_may_62 (by decide) ⟨by omega, by omega⟩ (fun bq62 => ?_) (fun bq62 => ?_)
        · refine lv_iconst (v := iI (1)) hx hb d_MD_may_79 rfl ?_
          refine lv_goto (tgt := 84) hx hb d_MD_may_80 (by decide) ?_
          exact cn_zret hx hb hr hlk hw rfl (⟨by rw [show mayb cd 2 md = true from by rw [mayb, show decide (lea 2 ≤ cd ∧ cd ≤ mos 2) = true from decide_eq_true (by rw [hle, hmo]; omega), Bool.true_and, b2_1 bq62]; rfl]; rfl, rfl⟩) (Nat.le_refl _) (Nat.le_refl _) d_MD_may_84
        · have hmf : md = false := b2_0 (by omega)
          refine lv_iload_n hx hb d_MD_may_65 rfl (lv_at hl 2 rfl) ?_
          refine cs_MD_43 X hz hw hl.1 (c_MD_high l G f _ cd ⟨by omega, by omega⟩) ⟨Nat.le_of_ble_eq_true rfl, Nat.le_of_ble_eq_true rfl⟩ ⟨by show 0 + 0 ≤ 0; omega, by show 0 + 0 ≤ 0; omega⟩ (Nat.le_of_ble_eq_true rfl) d_MD_may_66 (fun v f9 H locs hp hw hsz9 hkp9 hdm9 => ?_)
          obtain ⟨rfl, hfe⟩ := hp
          rw [hfe] at hw
          refine W.eq (g2 := F0 m 69 ls [.int (iI (b2 (hi cd)))]) rfl ?_
          refine di_if_ne (tgt := 83) hx hb d_MD_may_69 (by decide) ⟨by omega, by omega⟩ (fun bq69 => ?_) (fun bq69 => ?_)
          · refine lv_iconst (v := iI (0)) hx hb d_MD_may_83 rfl ?_
            exact cn_zret hx hb hr hlk hw rfl (⟨by rw [show mayb cd 2 md = false from by rw [mayb, show decide (lea 2 ≤ cd ∧ cd ≤ mos 2) = true from decide_eq_true (by rw [hle, hmo]; omega), Bool.true_and, hmf, b2_1 bq69]; rfl]; rfl, rfl⟩) (Nat.le_refl _) (Nat.le_refl _) d_MD_may_84
          · have hhf : hi cd = false := b2_0 (by omega)
            refine lv_iload_n hx hb d_MD_may_72 rfl (lv_at hl 2 rfl) ?_
            refine cs_MD_47 X hz hw hl.1 (c_MD_low l G f _ cd ⟨by omega, by omega⟩) ⟨Nat.le_of_ble_eq_true rfl, Nat.le_of_ble_eq_true rfl⟩ ⟨by show 0 + 0 ≤ 0; omega, by show 0 + 0 ≤ 0; omega⟩ (Nat.le_of_ble_eq_true rfl) d_MD_may_73 (fun v f9 H locs hp hw hsz9 hkp9 hdm9 => ?_)
            obtain ⟨rfl, hfe⟩ := hp
            rw [hfe] at hw
            refine W.eq (g2 := F0 m 76 ls [.int (iI (b2 (lw cd)))]) rfl ?_
            refine di_if_ne (tgt := 83) hx hb d_MD_may_76 (by decide) ⟨by omega, by omega⟩ (fun bq76 => ?_) (fun bq76 => ?_)
            · refine lv_iconst (v := iI (0)) hx hb d_MD_may_83 rfl ?_
              exact cn_zret hx hb hr hlk hw rfl (⟨by rw [show mayb cd 2 md = false from by rw [mayb, show decide (lea 2 ≤ cd ∧ cd ≤ mos 2) = true from decide_eq_true (by rw [hle, hmo]; omega), Bool.true_and, hmf, hhf, b2_1 bq76]; rfl]; rfl, rfl⟩) (Nat.le_refl _) (Nat.le_refl _) d_MD_may_84
            · refine lv_iconst (v := iI (1)) hx hb d_MD_may_79 rfl ?_
              refine lv_goto (tgt := 84) hx hb d_MD_may_80 (by decide) ?_
              exact cn_zret hx hb hr hlk hw rfl (⟨by rw [show mayb cd 2 md = true from by rw [mayb, show decide (lea 2 ≤ cd ∧ cd ≤ mos 2) = true from decide_eq_true (by rw [hle, hmo]; omega), Bool.true_and, hmf, hhf, b2_0 (by omega : b2 (lw cd) = 0)]; rfl]; rfl, rfl⟩) (Nat.le_refl _) (Nat.le_refl _) d_MD_may_84
  · subst he
    have hle : lea 3 = 65536 := rfl
    have hmo : mos 3 = 1114111 := rfl
    refine lv_iload_n hx hb d_MD_may_0 rfl (lv_at hl 1 rfl) ?_
    refine lv_iconst (v := iI (1)) hx hb d_MD_may_1 rfl ?_
    refine di_icmp_ne (tgt := 11) hx hb d_MD_may_2 (by decide) ⟨by decide, by decide⟩ ⟨by decide, by decide⟩ (fun _ => ?_) (fun q9 => absurd q9 (by decide))
    refine lv_iload_n hx hb d_MD_may_11 rfl (lv_at hl 1 rfl) ?_
    refine lv_iconst (v := iI (2)) hx hb d_MD_may_12 rfl ?_
    refine di_icmp_ne (tgt := 22) hx hb d_MD_may_13 (by decide) ⟨by decide, by decide⟩ ⟨by decide, by decide⟩ (fun _ => ?_) (fun q9 => absurd q9 (by decide))
    refine lv_ldc (v := iI (65536)) hx hb X.own (X.hts _ mw_697) d_MD_may_22 ?_
    refine lv_istore_n (lv' := [(3, .int (iI 65536)), (0, .int (iI cd)), (1, .int (iI 3)), (2, .int (iI (b2 md)))]) hx hb d_MD_may_24 rfl hl (by decide) rfl (fun ls hl => ?_)
    refine lv_iload_n hx hb d_MD_may_25 rfl (lv_at hl 2 rfl) ?_
    refine lv_iconst (v := iI (1)) hx hb d_MD_may_26 rfl ?_
    refine di_icmp_ne (tgt := 36) hx hb d_MD_may_27 (by decide) ⟨by decide, by decide⟩ ⟨by decide, by decide⟩ (fun _ => ?_) (fun q9 => absurd q9 (by decide))
    refine lv_iload_n hx hb d_MD_may_36 rfl (lv_at hl 2 rfl) ?_
    refine lv_iconst (v := iI (2)) hx hb d_MD_may_37 rfl ?_
    refine di_icmp_ne (tgt := 46) hx hb d_MD_may_38 (by decide) ⟨by decide, by decide⟩ ⟨by decide, by decide⟩ (fun _ => ?_) (fun q9 => absurd q9 (by decide))
    refine lv_ldc (v := iI (1114111)) hx hb X.own (X.hts _ mw_860) d_MD_may_46 ?_
    refine lv_istore (lv' := [(4, .int (iI 1114111)), (3, .int (iI 65536)), (0, .int (iI cd)), (1, .int (iI 3)), (2, .int (iI (b2 md)))]) hx hb d_MD_may_48 hl (by decide) rfl (fun ls hl => ?_)
    refine lv_iload_n hx hb d_MD_may_50 rfl (lv_at hl 2 rfl) ?_
    refine lv_iload_n hx hb d_MD_may_51 rfl (lv_at hl 1 rfl) ?_
    refine di_icmp_lt (tgt := 83) hx hb d_MD_may_52 (by decide) ⟨by omega, by omega⟩ ⟨by omega, by omega⟩ (fun bq52 => ?_) (fun bq52 => ?_)
    · refine lv_iconst (v := iI (0)) hx hb d_MD_may_83 rfl ?_
      exact cn_zret hx hb hr hlk hw rfl (⟨by rw [show mayb cd 3 md = false from by rw [mayb, show decide (lea 3 ≤ cd ∧ cd ≤ mos 3) = false from decide_eq_false (by rw [hle, hmo]; omega), Bool.false_and]]; rfl, rfl⟩) (Nat.le_refl _) (Nat.le_refl _) d_MD_may_84
    · refine lv_iload_n hx hb d_MD_may_55 rfl (lv_at hl 2 rfl) ?_
      refine lv_iload hx hb d_MD_may_56 (lv_at hl 0 rfl) ?_
      refine di_icmp_gt (tgt := 83) hx hb d_MD_may_58 (by decide) ⟨by omega, by omega⟩ ⟨by omega, by omega⟩ (fun bq58 => ?_) (fun bq58 => ?_)
      · refine lv_iconst (v := iI (0)) hx hb d_MD_may_83 rfl ?_
        exact cn_zret hx hb hr hlk hw rfl (⟨by rw [show mayb cd 3 md = false from by rw [mayb, show decide (lea 3 ≤ cd ∧ cd ≤ mos 3) = false from decide_eq_false (by rw [hle, hmo]; omega), Bool.false_and]]; rfl, rfl⟩) (Nat.le_refl _) (Nat.le_refl _) d_MD_may_84
      · refine lv_iload_n hx hb d_MD_may_61 rfl (lv_at hl 4 rfl) ?_
        refine di_if_ne (tgt := 79) hx hb d_MD_may_62 (by decide) ⟨by omega, by omega⟩ (fun bq62 => ?_) (fun bq62 => ?_)
        · refine lv_iconst (v := iI (1)) hx hb d_MD_may_79 rfl ?_
          refine lv_goto (tgt := 84) hx hb d_MD_may_80 (by decide) ?_
          exact cn_zret hx hb hr hlk hw rfl (⟨by rw [show mayb cd 3 md = true from by rw [mayb, show decide (lea 3 ≤ cd ∧ cd ≤ mos 3) = true from decide_eq_true (by rw [hle, hmo]; omega), Bool.true_and, b2_1 bq62]; rfl]; rfl, rfl⟩) (Nat.le_refl _) (Nat.le_refl _) d_MD_may_84
        · have hmf : md = false := b2_0 (by omega)
          refine lv_iload_n hx hb d_MD_may_65 rfl (lv_at hl 2 rfl) ?_
          refine cs_MD_43 X hz hw hl.1 (c_MD_high l G f _ cd ⟨by omega, by omega⟩) ⟨Nat.le_of_ble_eq_true rfl, Nat.le_of_ble_eq_true rfl⟩ ⟨by show 0 + 0 ≤ 0; omega, by show 0 + 0 ≤ 0; omega⟩ (Nat.le_of_ble_eq_true rfl) d_MD_may_66 (fun v f9 H locs hp hw hsz9 hkp9 hdm9 => ?_)
          obtain ⟨rfl, hfe⟩ := hp
          rw [hfe] at hw
          refine W.eq (g2 := F0 m 69 ls [.int (iI (b2 (hi cd)))]) rfl ?_
          refine di_if_ne (tgt := 83) hx hb d_MD_may_69 (by decide) ⟨by omega, by omega⟩ (fun bq69 => ?_) (fun bq69 => ?_)
          · refine lv_iconst (v := iI (0)) hx hb d_MD_may_83 rfl ?_
            exact cn_zret hx hb hr hlk hw rfl (⟨by rw [show mayb cd 3 md = false from by rw [mayb, show decide (lea 3 ≤ cd ∧ cd ≤ mos 3) = true from decide_eq_true (by rw [hle, hmo]; omega), Bool.true_and, hmf, b2_1 bq69]; rfl]; rfl, rfl⟩) (Nat.le_refl _) (Nat.le_refl _) d_MD_may_84
          · have hhf : hi cd = false := b2_0 (by omega)
            refine lv_iload_n hx hb d_MD_may_72 rfl (lv_at hl 2 rfl) ?_
            refine cs_MD_47 X hz hw hl.1 (c_MD_low l G f _ cd ⟨by omega, by omega⟩) ⟨Nat.le_of_ble_eq_true rfl, Nat.le_of_ble_eq_true rfl⟩ ⟨by show 0 + 0 ≤ 0; omega, by show 0 + 0 ≤ 0; omega⟩ (Nat.le_of_ble_eq_true rfl) d_MD_may_73 (fun v f9 H locs hp hw hsz9 hkp9 hdm9 => ?_)
            obtain ⟨rfl, hfe⟩ := hp
            rw [hfe] at hw
            refine W.eq (g2 := F0 m 76 ls [.int (iI (b2 (lw cd)))]) rfl ?_
            refine di_if_ne (tgt := 83) hx hb d_MD_may_76 (by decide) ⟨by omega, by omega⟩ (fun bq76 => ?_) (fun bq76 => ?_)
            · refine lv_iconst (v := iI (0)) hx hb d_MD_may_83 rfl ?_
              exact cn_zret hx hb hr hlk hw rfl (⟨by rw [show mayb cd 3 md = false from by rw [mayb, show decide (lea 3 ≤ cd ∧ cd ≤ mos 3) = true from decide_eq_true (by rw [hle, hmo]; omega), Bool.true_and, hmf, hhf, b2_1 bq76]; rfl]; rfl, rfl⟩) (Nat.le_refl _) (Nat.le_refl _) d_MD_may_84
            · refine lv_iconst (v := iI (1)) hx hb d_MD_may_79 rfl ?_
              refine lv_goto (tgt := 84) hx hb d_MD_may_80 (by decide) ?_
              exact cn_zret hx hb hr hlk hw rfl (⟨by rw [show mayb cd 3 md = true from by rw [mayb, show decide (lea 3 ≤ cd ∧ cd ≤ mos 3) = true from decide_eq_true (by rw [hle, hmo]; omega), Bool.true_and, hmf, hhf, b2_0 (by omega : b2 (lw cd) = 0)]; rfl]; rfl, rfl⟩) (Nat.le_refl _) (Nat.le_refl _) d_MD_may_84
set_option maxRecDepth 100000 in
set_option maxHeartbeats 4000000 in
theorem c_MD_begun (l : Launch) (G : ct_G) (f : dw_M) (sz : Nat) (y : Nat) (th : Int) (T Y : List (List Int)) (B Z M C : List Int) (k n : Int) (md : Bool) (hk : 0 ≤ k ∧ k < (Z.length : Int)) (hn : 1 ≤ n ∧ n ≤ 3) (hL : mdL G f y th T Y B Z M C) : cn l y_MD_begun w_MD_begun (2) (44) G f sz [.ref y, .int (iI k), .int (iI n), .int (iI (b2 md))] (fun v f' => v = some (.int (iI (bgn Z k n md 64 0 1))) ∧ ∃ C', mdL G f' y th T Y B Z M C') (0) (0) := by
  refine cn_of (own := "TextDeskModel") (nm := "begun") (ds := "(IIZ)I") (by decide) (Nat.le_of_ble_eq_true rfl) ?_
  intro p e s m args below meth c ls X hnm hr hlk hs0 hz hw hl
  have hx := X.1
  have hb := X.2.1
  have hl : lv_has ls 8 [(0, .ref y), (1, .int (iI k)), (2, .int (iI n)), (3, .int (iI (b2 md)))] := hl
  obtain ⟨si, un, bu, ma, bt, so, co, gsi, gun, gbu, gma, gbt, gso, gco, hM, hT, hB, hZ, hMa, hC, hY⟩ := id hL
  have hTl := hT.1
  have hBl := hB.1.1
  have hZl := hZ.1.1
  have hYl := hY.1
  have hCl := hC.1
  refine lv_iconst (v := iI (1)) hx hb d_MD_begun_0 rfl ?_
  refine lv_istore (lv' := [(4, .int (iI 1)), (0, .ref y), (1, .int (iI k)), (2, .int (iI n)), (3, .int (iI (b2 md)))]) hx hb d_MD_begun_1 hl (by decide) rfl (fun ls hl => ?_)
  refine lv_iconst (v := iI (0)) hx hb d_MD_begun_3 rfl ?_
  refine lv_istore (lv' := [(5, .int (iI 0)), (4, .int (iI 1)), (0, .ref y), (1, .int (iI k)), (2, .int (iI n)), (3, .int (iI (b2 md)))]) hx hb d_MD_begun_4 hl (by decide) rfl (fun ls hl => ?_)
  have loop : ∀ (N : Nat) (fl : Int) (bs0 : Int) (mm : Nat) (Ck : List Int) (f1 : dw_M) (H : Heap) (locs : List Loc) (ls : Array Slot), ((64 : Int) - fl).toNat < N → 0 ≤ fl → fl + (mm : Int) = 64 → 0 ≤ bs0 ∧ bs0 ≤ 4 → bgn Z k n md 64 0 1 = bgn Z k n md mm fl bs0 → mdL G f1 y th T Y B Z M Ck → dw G.1 dk_cl (dw_A f sz) s.heap f1 H locs → lv_has ls 8 [(5, .int (iI fl)), (4, .int (iI bs0)), (0, .ref y), (1, .int (iI k)), (2, .int (iI n)), (3, .int (iI (b2 md)))] → W p l e { frames := 2, locals := 44, cells := 0, slots := 0 } s m args below meth c H locs (0) (0) (MQ below (ct_Q G f sz (fun v f' => v = some (.int (iI (bgn Z k n md 64 0 1))) ∧ ∃ C', mdL G f' y th T Y B Z M C')) args s (0) (0) (dw_A f sz)) (F0 m 6 ls []) := by
    intro N
    induction N with
    | zero => intros; omega
    | succ N ih =>
      intro fl bs0 mm Ck f1 H locs ls hN hf0 hmm hbs hbg hL1 hw hl
      obtain ⟨si, un, bu, ma, bt, so, co, gsi, gun, gbu, gma, gbt, gso, gco, hM, hT, hB, hZ, hMa, hC, hY⟩ := id hL1
      refine lv_iload hx hb d_MD_begun_6 (lv_at hl 0 rfl) ?_
      refine lv_bipush (v := iI (64)) hx hb d_MD_begun_8 rfl ?_
      refine di_icmp_ge (tgt := 68) hx hb d_MD_begun_10 (by decide) ⟨by omega, by omega⟩ ⟨by omega, by omega⟩ (fun bq10 => ?_) (fun bq10 => ?_)
      · refine lv_iload hx hb d_MD_begun_68 (lv_at hl 1 rfl) ?_
        have hm0 : mm = 0 := by omega
        subst hm0
        exact cn_iret hx hb hr hlk hw  (⟨by rw [hbg]; rfl, Ck, hL1⟩) (Nat.le_refl _) (Nat.le_refl _) d_MD_begun_70
      · obtain ⟨m2, rfl⟩ : ∃ z, mm = z + 1 := ⟨mm - 1, by omega⟩
        have hgr := gss_rng (Z := Z) (k := k) hn (fl := fl) ⟨by omega, by omega⟩
        have hbm := b2_01 (mayb (gss Z k n fl) n md)
        refine lv_aload_n hx hb d_MD_begun_13 rfl (lv_at hl 2 rfl) ?_
        refine lv_iload_n hx hb d_MD_begun_14 rfl (lv_at hl 3 rfl) ?_
        refine lv_iload_n hx hb d_MD_begun_15 rfl (lv_at hl 4 rfl) ?_
        refine lv_iload hx hb d_MD_begun_16 (lv_at hl 0 rfl) ?_
        refine cs_MD_121 X hz hw hl.1 hM.1 (c_MD_guess l G f1 _ y th T Y B Z M Ck k n fl hk hn ⟨by omega, by omega⟩ ⟨si, un, bu, ma, bt, so, co, _, _, _, _, _, _, _, hM, hT, hB, hZ, hMa, hC, hY⟩) ⟨Nat.le_of_ble_eq_true rfl, Nat.le_of_ble_eq_true rfl⟩ ⟨by show 0 + 0 ≤ 0; omega, by show 0 + 0 ≤ 0; omega⟩ (Nat.le_of_ble_eq_true rfl) d_MD_begun_18 (fun v f9 H locs hp hw hsz9 hkp9 hdm9 => ?_)
        obtain ⟨rfl, hfe⟩ := hp
        rw [hfe] at hw
        refine W.eq (g2 := F0 m 21 ls [.int (iI (gss Z k n fl))]) rfl ?_
        refine lv_istore (lv' := [(6, .int (iI (gss Z k n fl))), (5, .int (iI fl)), (4, .int (iI bs0)), (0, .ref y), (1, .int (iI k)), (2, .int (iI n)), (3, .int (iI (b2 md)))]) hx hb d_MD_begun_21 hl (by decide) rfl (fun ls hl => ?_)
        refine lv_iload hx hb d_MD_begun_23 (lv_at hl 0 rfl) ?_
        refine lv_iload_n hx hb d_MD_begun_25 rfl (lv_at hl 5 rfl) ?_
        refine lv_iload_n hx hb d_MD_begun_26 rfl (lv_at hl 6 rfl) ?_
        refine cs_MD_124 X hz hw hl.1 (c_MD_may l G f1 _ (gss Z k n fl) n md ⟨by omega, by omega⟩ hn) ⟨Nat.le_of_ble_eq_true rfl, Nat.le_of_ble_eq_true rfl⟩ ⟨by show 0 + 0 ≤ 0; omega, by show 0 + 0 ≤ 0; omega⟩ (Nat.le_of_ble_eq_true rfl) d_MD_begun_27 (fun v f9 H locs hp hw hsz9 hkp9 hdm9 => ?_)
        obtain ⟨rfl, hfe⟩ := hp
        rw [hfe] at hw
        refine W.eq (g2 := F0 m 30 ls [.int (iI (b2 (mayb (gss Z k n fl) n md)))]) rfl ?_
        refine di_if_eq (tgt := 62) hx hb d_MD_begun_30 (by decide) ⟨by omega, by omega⟩ (fun bq30 => ?_) (fun bq30 => ?_)
        · refine lv_iinc (v := iI (fl + 1)) (lv' := [(5, .int (iI (fl + 1))), (6, .int (iI (gss Z k n fl))), (4, .int (iI bs0)), (0, .ref y), (1, .int (iI k)), (2, .int (iI n)), (3, .int (iI (b2 md)))]) hx hb d_MD_begun_62 hl (k := 1) rfl (iI_add _ _) (by decide) rfl (fun ls hl => ?_)
          refine lv_goto (tgt := 6) hx hb d_MD_begun_65 (by decide) ?_
          exact ih (fl + 1) (bs0) (m2) (Ck) _ _ _ _ (by omega) (by omega) (by omega) (by omega) (by rw [hbg, bgn, if_neg (by rw [b2_0 bq30]; decide)]) (hL1) hw (lv_sub hl [0, 2, 3, 4, 5, 6] rfl)
        · have hmy := b2_1 bq30
          have hmr := (mayb_t hmy).1
          have hmr2 : 0 ≤ gss Z k n fl ∧ gss Z k n fl < 1114112 := by unfold mos at hmr; have h9 := hmr.2; split at h9; omega; split at h9 <;> omega
          refine lv_aload_n hx hb d_MD_begun_33 rfl (lv_at hl 3 rfl) ?_
          refine lv_iload hx hb d_MD_begun_34 (lv_at hl 0 rfl) ?_
          refine cs_MD_106 X hz hw hl.1 hM.1 (c_MD_utf l G f1 _ y th T Y B Z M Ck (gss Z k n fl) (hmr2.1) (hmr2.2) ⟨si, un, bu, ma, bt, so, co, _, _, _, _, _, _, _, hM, hT, hB, hZ, hMa, hC, hY⟩) ⟨Nat.le_of_ble_eq_true rfl, Nat.le_of_ble_eq_true rfl⟩ ⟨by show 0 + 0 ≤ 0; omega, by show 0 + 0 ≤ 0; omega⟩ (Nat.le_of_ble_eq_true rfl) d_MD_begun_36 (fun v f21 H locs hp hw hsz9 hkp9 hdm9 => ?_)
          obtain ⟨rfl, hL_f21⟩ := hp
          refine W.eq (g2 := F0 m 39 ls []) rfl ?_
          obtain ⟨si, un, bu, ma, bt, so, co, gsi, gun, gbu, gma, gbt, gso, gco, hM, hT, hB, hZ, hMa, hC, hY⟩ := id hL_f21
          refine lv_aload_n hx hb d_MD_begun_39 rfl (lv_at hl 3 rfl) ?_
          refine lv_iload_n hx hb d_MD_begun_40 rfl (lv_at hl 4 rfl) ?_
          refine cs_MD_128 X hz hw hl.1 hM.1 (c_MD_agree l G f21 _ y th T Y B Z M (utf (gss Z k n fl)) k ⟨by omega, by omega⟩ (fun u h => by have := utf_rng hmr2.1 hmr2.2 u h; omega) ⟨si, un, bu, ma, bt, so, co, _, _, _, _, _, _, _, hM, hT, hB, hZ, hMa, hC, hY⟩) ⟨Nat.le_of_ble_eq_true rfl, Nat.le_of_ble_eq_true rfl⟩ ⟨by show 0 + 0 ≤ 0; omega, by show 0 + 0 ≤ 0; omega⟩ (Nat.le_of_ble_eq_true rfl) d_MD_begun_41 (fun v f9 H locs hp hw hsz9 hkp9 hdm9 => ?_)
          obtain ⟨rfl, hfe⟩ := hp
          rw [hfe] at hw
          refine W.eq (g2 := F0 m 44 ls [.int (iI (agr Z k (utf (gss Z k n fl))))]) rfl ?_
          have har := agf_rng Z (utf (gss Z k n fl)) k (utf (gss Z k n fl)).length 0
          have hul := (utf_len (gss Z k n fl)).1
          have har2 : 0 ≤ agr Z k (utf (gss Z k n fl)) ∧ agr Z k (utf (gss Z k n fl)) ≤ 4 := by unfold agr; omega
          refine lv_istore (lv' := [(7, .int (iI (agr Z k (utf (gss Z k n fl))))), (6, .int (iI (gss Z k n fl))), (5, .int (iI fl)), (4, .int (iI bs0)), (0, .ref y), (1, .int (iI k)), (2, .int (iI n)), (3, .int (iI (b2 md)))]) hx hb d_MD_begun_44 hl (by decide) rfl (fun ls hl => ?_)
          refine lv_iload hx hb d_MD_begun_46 (lv_at hl 0 rfl) ?_
          refine lv_iload hx hb d_MD_begun_48 (lv_at hl 3 rfl) ?_
          refine di_icmp_le (tgt := 58) hx hb d_MD_begun_50 (by decide) ⟨by omega, by omega⟩ ⟨by omega, by omega⟩ (fun bq50 => ?_) (fun bq50 => ?_)
          · refine lv_iload hx hb d_MD_begun_58 (lv_at hl 3 rfl) ?_
            refine lv_istore (lv' := [(4, .int (iI bs0)), (7, .int (iI (agr Z k (utf (gss Z k n fl))))), (6, .int (iI (gss Z k n fl))), (5, .int (iI fl)), (0, .ref y), (1, .int (iI k)), (2, .int (iI n)), (3, .int (iI (b2 md)))]) hx hb d_MD_begun_60 hl (by decide) rfl (fun ls hl => ?_)
            refine lv_iinc (v := iI (fl + 1)) (lv' := [(5, .int (iI (fl + 1))), (4, .int (iI bs0)), (7, .int (iI (agr Z k (utf (gss Z k n fl))))), (6, .int (iI (gss Z k n fl))), (0, .ref y), (1, .int (iI k)), (2, .int (iI n)), (3, .int (iI (b2 md)))]) hx hb d_MD_begun_62 hl (k := 3) rfl (iI_add _ _) (by decide) rfl (fun ls hl => ?_)
            refine lv_goto (tgt := 6) hx hb d_MD_begun_65 (by decide) ?_
            exact ih (fl + 1) (bs0) (m2) (utf (gss Z k n fl)) _ _ _ _ (by omega) (by omega) (by omega) (by omega) (by rw [hbg, bgn, if_pos hmy, if_neg (by omega)]) (hL_f21) hw (lv_sub hl [0, 1, 4, 5, 6, 7] rfl)
          · refine lv_iload hx hb d_MD_begun_53 (lv_at hl 0 rfl) ?_
            refine lv_goto (tgt := 60) hx hb d_MD_begun_55 (by decide) ?_
            refine lv_istore (lv' := [(4, .int (iI (agr Z k (utf (gss Z k n fl))))), (7, .int (iI (agr Z k (utf (gss Z k n fl))))), (6, .int (iI (gss Z k n fl))), (5, .int (iI fl)), (0, .ref y), (1, .int (iI k)), (2, .int (iI n)), (3, .int (iI (b2 md)))]) hx hb d_MD_begun_60 hl (by decide) rfl (fun ls hl => ?_)
            refine lv_iinc (v := iI (fl + 1)) (lv' := [(5, .int (iI (fl + 1))), (4, .int (iI (agr Z k (utf (gss Z k n fl))))), (7, .int (iI (agr Z k (utf (gss Z k n fl))))), (6, .int (iI (gss Z k n fl))), (0, .ref y), (1, .int (iI k)), (2, .int (iI n)), (3, .int (iI (b2 md)))]) hx hb d_MD_begun_62 hl (k := 3) rfl (iI_add _ _) (by decide) rfl (fun ls hl => ?_)
            refine lv_goto (tgt := 6) hx hb d_MD_begun_65 (by decide) ?_
            exact ih (fl + 1) (agr Z k (utf (gss Z k n fl))) (m2) (utf (gss Z k n fl)) _ _ _ _ (by omega) (by omega) (by omega) (by omega) (by rw [hbg, bgn, if_pos hmy, if_pos (by omega)]) (hL_f21) hw (lv_sub hl [0, 1, 4, 5, 6, 7] rfl)
  exact loop (((64 : Int) - 0).toNat + 1) (0) (1) (64) (C) _ _ _ _ (by omega) (by omega) (by omega) (by omega) (rfl) (hL) hw (lv_sub hl [0, 1, 2, 3, 4, 5] rfl)
set_option maxRecDepth 100000 in
set_option maxHeartbeats 4000000 in
theorem c_MD_readAt (l : Launch) (G : ct_G) (f : dw_M) (sz : Nat) (y : Nat) (th : Int) (T Y : List (List Int)) (B Z M C : List Int) (k en : Int) (hk : 0 ≤ k ∧ k < (Z.length : Int)) (hen : 0 ≤ en ∧ en ≤ 4) (hm : M.length < 1000) (hL : mdL G f y th T Y B Z M C) : cn l y_MD_readAt w_MD_readAt (3) (71) G f sz [.ref y, .int (iI k), .int (iI en)] (fun v f' => v = some (.int (iI (if (rdr Z en k).1 = -1 then -(rdr Z en k).2 else (rdr Z en k).2))) ∧ ∃ C', mdL G f' y th T Y B Z (M ++ (if (rdr Z en k).1 = -1 then [] else uts (rdr Z en k).1)) C') (0) (0) := by
  refine cn_of (own := "TextDeskModel") (nm := "readAt") (ds := "(II)I") (by decide) (Nat.le_of_ble_eq_true rfl) ?_
  intro p e s m args below meth c ls X hnm hr hlk hs0 hz hw hl
  have hx := X.1
  have hb := X.2.1
  have hl : lv_has ls 8 [(0, .ref y), (1, .int (iI k)), (2, .int (iI en))] := hl
  obtain ⟨si, un, bu, ma, bt, so, co, gsi, gun, gbu, gma, gbt, gso, gco, hM, hT, hB, hZ, hMa, hC, hY⟩ := id hL
  have hTl := hT.1
  have hBl := hB.1.1
  have hZl := hZ.1.1
  have hYl := hY.1
  have hCl := hC.1
  have hZr := hZ.2
  have hga := gtb0 hZr hk.1 hk.2
  have hgb := gtb hZr (k + 1)
  refine lv_aload_n hx hb d_MD_readAt_0 rfl (lv_at hl 0 rfl) ?_
  refine gf_MD_22_MD X hw hM.1 d_MD_readAt_1 ?_
  refine lv_iload_n hx hb d_MD_readAt_4 rfl (lv_at hl 1 rfl) ?_
  refine dw_iald hx hb X.K hw 0 hM.2.2.2.2.2.1 rfl (i := k) (by omega) (by omega) (by omega) (hZ.1.at (by omega) (by omega)) d_MD_readAt_5 ?_
  refine lv_istore_n (lv' := [(3, .int (iI (gt Z k))), (0, .ref y), (1, .int (iI k)), (2, .int (iI en))]) hx hb d_MD_readAt_6 rfl hl (by decide) rfl (fun ls hl => ?_)
  refine lv_iload_n hx hb d_MD_readAt_7 rfl (lv_at hl 3 rfl) ?_
  refine lv_iconst (v := iI (4)) hx hb d_MD_readAt_8 rfl ?_
  refine di_icmp_eq (tgt := 32) hx hb d_MD_readAt_9 (by decide) ⟨by omega, by omega⟩ ⟨by omega, by omega⟩ (fun bq9 => ?_) (fun bq9 => ?_)
  · refine lv_aload_n hx hb d_MD_readAt_32 rfl (lv_at hl 1 rfl) ?_
    refine lv_iload_n hx hb d_MD_readAt_33 rfl (lv_at hl 0 rfl) ?_
    refine cs_MD_64 X hz hw hl.1 hM.1 (c_MD_make l G f _ y th T Y B Z M C (gt Z k) (by omega) ⟨si, un, bu, ma, bt, so, co, _, _, _, _, _, _, _, hM, hT, hB, hZ, hMa, hC, hY⟩) ⟨Nat.le_of_ble_eq_true rfl, Nat.le_of_ble_eq_true rfl⟩ ⟨by show 0 + 0 ≤ 0; omega, by show 0 + 0 ≤ 0; omega⟩ (Nat.le_of_ble_eq_true rfl) d_MD_readAt_34 (fun v f11 H locs hp hw hsz9 hkp9 hdm9 => ?_)
    obtain ⟨rfl, hL_f11⟩ := hp
    refine W.eq (g2 := F0 m 37 ls []) rfl ?_
    obtain ⟨si, un, bu, ma, bt, so, co, gsi, gun, gbu, gma, gbt, gso, gco, hM, hT, hB, hZ, hMa, hC, hY⟩ := id hL_f11
    refine lv_iconst (v := iI (1)) hx hb d_MD_readAt_37 rfl ?_
    have hr9 : rdr Z en k = (gt Z k, 1) := by rw [rdr, if_neg (by omega), if_neg (by omega), if_neg (by omega), if_neg (by omega)]
    have hu9 : uts ((gt Z k, 1)).1 = [gt Z k] := by show uts (gt Z k) = _; rw [uts, if_pos (by omega)]
    exact cn_iret hx hb hr hlk hw  (⟨by rw [hr9, if_neg (show ¬ ((gt Z k, 1)).1 = -1 by show ¬ (gt Z k) = -1; omega)], _, by rw [hr9, if_neg (show ¬ ((gt Z k, 1)).1 = -1 by show ¬ (gt Z k) = -1; omega), hu9]; exact hL_f11⟩) (Nat.le_refl _) (Nat.le_refl _) d_MD_readAt_38
  · refine lv_iload_n hx hb d_MD_readAt_12 rfl (lv_at hl 3 rfl) ?_
    refine lv_iconst (v := iI (2)) hx hb d_MD_readAt_13 rfl ?_
    refine di_icmp_ge (tgt := 39) hx hb d_MD_readAt_14 (by decide) ⟨by omega, by omega⟩ ⟨by omega, by omega⟩ (fun bq14 => ?_) (fun bq14 => ?_)
    · rcases (show en = 2 ∨ en = 3 by omega) with he9 | he9
      · refine lv_iload_n hx hb d_MD_readAt_39 rfl (lv_at hl 3 rfl) ?_
        refine lv_iconst (v := iI (1)) hx hb d_MD_readAt_40 rfl ?_
        refine di_icmp_le (tgt := 98) hx hb d_MD_readAt_41 (by decide) ⟨by omega, by omega⟩ ⟨by omega, by omega⟩ (fun bq41 => ?_) (fun bq41 => ?_)
        · exfalso; omega
        · refine lv_iload_n hx hb d_MD_readAt_44 rfl (lv_at hl 2 rfl) ?_
          refine lv_iconst (v := iI (1)) hx hb d_MD_readAt_45 rfl ?_
          refine di_add hx hb d_MD_readAt_46 ?_
          refine lv_aload_n hx hb d_MD_readAt_47 rfl (lv_at hl 1 rfl) ?_
          refine gf_MD_112_MD X hw hM.1 d_MD_readAt_48 ?_
          refine di_icmp_ne (tgt := 56) hx hb d_MD_readAt_51 (by decide) ⟨by omega, by omega⟩ ⟨by omega, by omega⟩ (fun bq51 => ?_) (fun bq51 => ?_)
          · refine lv_aload_n hx hb d_MD_readAt_56 rfl (lv_at hl 1 rfl) ?_
            refine lv_iload_n hx hb d_MD_readAt_57 rfl (lv_at hl 3 rfl) ?_
            refine lv_iconst (v := iI (2)) hx hb d_MD_readAt_58 rfl ?_
            refine di_icmp_ne (tgt := 79) hx hb d_MD_readAt_59 (by decide) ⟨by omega, by omega⟩ ⟨by omega, by omega⟩ (fun bq59 => ?_) (fun bq59 => ?_)
            · exfalso; omega
            · refine lv_sipush (v := iI (256)) hx hb d_MD_readAt_62 rfl ?_
              refine lv_iload_n hx hb d_MD_readAt_65 rfl (lv_at hl 0 rfl) ?_
              refine di_mul hx hb d_MD_readAt_66 ?_
              refine lv_aload_n hx hb d_MD_readAt_67 rfl (lv_at hl 1 rfl) ?_
              refine gf_MD_22_MD X hw hM.1 d_MD_readAt_68 ?_
              refine lv_iload_n hx hb d_MD_readAt_71 rfl (lv_at hl 2 rfl) ?_
              refine lv_iconst (v := iI (1)) hx hb d_MD_readAt_72 rfl ?_
              refine di_add hx hb d_MD_readAt_73 ?_
              refine dw_iald hx hb X.K hw 0 hM.2.2.2.2.2.1 rfl (i := k + 1) (by omega) (by omega) (by omega) (hZ.1.at (by omega) (by omega)) d_MD_readAt_74 ?_
              refine di_add hx hb d_MD_readAt_75 ?_
              refine lv_goto (tgt := 93) hx hb d_MD_readAt_76 (by decide) ?_
              have hgb0 := gtb0 hZr (by omega : 0 ≤ k + 1) (by omega : k + 1 < (Z.length : Int))
              refine cs_MD_64 X hz hw hl.1 hM.1 (c_MD_make l G f _ y th T Y B Z M C (256 * gt Z k + gt Z (k + 1)) (by omega) ⟨si, un, bu, ma, bt, so, co, _, _, _, _, _, _, _, hM, hT, hB, hZ, hMa, hC, hY⟩) ⟨Nat.le_of_ble_eq_true rfl, Nat.le_of_ble_eq_true rfl⟩ ⟨by show 0 + 0 ≤ 0; omega, by show 0 + 0 ≤ 0; omega⟩ (Nat.le_of_ble_eq_true rfl) d_MD_readAt_93 (fun v f11 H locs hp hw hsz9 hkp9 hdm9 => ?_)
              obtain ⟨rfl, hL_f11⟩ := hp
              refine W.eq (g2 := F0 m 96 ls []) rfl ?_
              obtain ⟨si, un, bu, ma, bt, so, co, gsi, gun, gbu, gma, gbt, gso, gco, hM, hT, hB, hZ, hMa, hC, hY⟩ := id hL_f11
              refine lv_iconst (v := iI (2)) hx hb d_MD_readAt_96 rfl ?_
              have hr9 : rdr Z en k = (256 * gt Z k + gt Z (k + 1), 2) := by rw [rdr, if_neg (by omega), if_neg (by omega), if_pos (by omega), rd2, if_neg (by omega), show gt Z k * 256 + gt Z (k + 1) = 256 * gt Z k + gt Z (k + 1) by omega]
              have hu9 : uts ((256 * gt Z k + gt Z (k + 1), 2)).1 = [256 * gt Z k + gt Z (k + 1)] := by show uts (256 * gt Z k + gt Z (k + 1)) = _; rw [uts, if_pos (by omega)]
              exact cn_iret hx hb hr hlk hw  (⟨by rw [hr9, if_neg (show ¬ ((256 * gt Z k + gt Z (k + 1), 2)).1 = -1 by show ¬ (256 * gt Z k + gt Z (k + 1)) = -1; omega)], _, by rw [hr9, if_neg (show ¬ ((256 * gt Z k + gt Z (k + 1), 2)).1 = -1 by show ¬ (256 * gt Z k + gt Z (k + 1)) = -1; omega), hu9]; exact hL_f11⟩) (Nat.le_refl _) (Nat.le_refl _) d_MD_readAt_97
          · refine lv_iconst (v := iI (-1)) hx hb d_MD_readAt_54 rfl ?_
            have hr9 : rdr Z en k = (-1, 1) := by rw [rdr, if_neg (by omega), if_neg (by omega), if_pos (by omega), rd2, if_pos (by rw [gt_out (us := Z) (k := k + 1) (by omega)]; omega)]
            exact cn_iret hx hb hr hlk hw  (⟨by rw [hr9, if_pos (show (((-1 : Int), (1 : Int)) : Int × Int).1 = -1 from rfl)], _, by rw [hr9, if_pos (show (((-1 : Int), (1 : Int)) : Int × Int).1 = -1 from rfl), List.append_nil]; exact hL⟩) (Nat.le_refl _) (Nat.le_refl _) d_MD_readAt_55
      · refine lv_iload_n hx hb d_MD_readAt_39 rfl (lv_at hl 3 rfl) ?_
        refine lv_iconst (v := iI (1)) hx hb d_MD_readAt_40 rfl ?_
        refine di_icmp_le (tgt := 98) hx hb d_MD_readAt_41 (by decide) ⟨by omega, by omega⟩ ⟨by omega, by omega⟩ (fun bq41 => ?_) (fun bq41 => ?_)
        · exfalso; omega
        · refine lv_iload_n hx hb d_MD_readAt_44 rfl (lv_at hl 2 rfl) ?_
          refine lv_iconst (v := iI (1)) hx hb d_MD_readAt_45 rfl ?_
          refine di_add hx hb d_MD_readAt_46 ?_
          refine lv_aload_n hx hb d_MD_readAt_47 rfl (lv_at hl 1 rfl) ?_
          refine gf_MD_112_MD X hw hM.1 d_MD_readAt_48 ?_
          refine di_icmp_ne (tgt := 56) hx hb d_MD_readAt_51 (by decide) ⟨by omega, by omega⟩ ⟨by omega, by omega⟩ (fun bq51 => ?_) (fun bq51 => ?_)
          · refine lv_aload_n hx hb d_MD_readAt_56 rfl (lv_at hl 1 rfl) ?_
            refine lv_iload_n hx hb d_MD_readAt_57 rfl (lv_at hl 3 rfl) ?_
            refine lv_iconst (v := iI (2)) hx hb d_MD_readAt_58 rfl ?_
            refine di_icmp_ne (tgt := 79) hx hb d_MD_readAt_59 (by decide) ⟨by omega, by omega⟩ ⟨by omega, by omega⟩ (fun bq59 => ?_) (fun bq59 => ?_)
            · refine lv_sipush (v := iI (256)) hx hb d_MD_readAt_79 rfl ?_
              refine lv_aload_n hx hb d_MD_readAt_82 rfl (lv_at hl 1 rfl) ?_
              refine gf_MD_22_MD X hw hM.1 d_MD_readAt_83 ?_
              refine lv_iload_n hx hb d_MD_readAt_86 rfl (lv_at hl 2 rfl) ?_
              refine lv_iconst (v := iI (1)) hx hb d_MD_readAt_87 rfl ?_
              refine di_add hx hb d_MD_readAt_88 ?_
              refine dw_iald hx hb X.K hw 0 hM.2.2.2.2.2.1 rfl (i := k + 1) (by omega) (by omega) (by omega) (hZ.1.at (by omega) (by omega)) d_MD_readAt_89 ?_
              refine di_mul hx hb d_MD_readAt_90 ?_
              refine lv_iload_n hx hb d_MD_readAt_91 rfl (lv_at hl 0 rfl) ?_
              refine di_add hx hb d_MD_readAt_92 ?_
              have hgb0 := gtb0 hZr (by omega : 0 ≤ k + 1) (by omega : k + 1 < (Z.length : Int))
              refine cs_MD_64 X hz hw hl.1 hM.1 (c_MD_make l G f _ y th T Y B Z M C (256 * gt Z (k + 1) + gt Z k) (by omega) ⟨si, un, bu, ma, bt, so, co, _, _, _, _, _, _, _, hM, hT, hB, hZ, hMa, hC, hY⟩) ⟨Nat.le_of_ble_eq_true rfl, Nat.le_of_ble_eq_true rfl⟩ ⟨by show 0 + 0 ≤ 0; omega, by show 0 + 0 ≤ 0; omega⟩ (Nat.le_of_ble_eq_true rfl) d_MD_readAt_93 (fun v f11 H locs hp hw hsz9 hkp9 hdm9 => ?_)
              obtain ⟨rfl, hL_f11⟩ := hp
              refine W.eq (g2 := F0 m 96 ls []) rfl ?_
              obtain ⟨si, un, bu, ma, bt, so, co, gsi, gun, gbu, gma, gbt, gso, gco, hM, hT, hB, hZ, hMa, hC, hY⟩ := id hL_f11
              refine lv_iconst (v := iI (2)) hx hb d_MD_readAt_96 rfl ?_
              have hr9 : rdr Z en k = (256 * gt Z (k + 1) + gt Z k, 2) := by rw [rdr, if_neg (by omega), if_neg (by omega), if_neg (by omega), if_pos (by omega), rd2, if_neg (by omega), show gt Z (k + 1) * 256 + gt Z k = 256 * gt Z (k + 1) + gt Z k by omega]
              have hu9 : uts ((256 * gt Z (k + 1) + gt Z k, 2)).1 = [256 * gt Z (k + 1) + gt Z k] := by show uts (256 * gt Z (k + 1) + gt Z k) = _; rw [uts, if_pos (by omega)]
              exact cn_iret hx hb hr hlk hw  (⟨by rw [hr9, if_neg (show ¬ ((256 * gt Z (k + 1) + gt Z k, 2)).1 = -1 by show ¬ (256 * gt Z (k + 1) + gt Z k) = -1; omega)], _, by rw [hr9, if_neg (show ¬ ((256 * gt Z (k + 1) + gt Z k, 2)).1 = -1 by show ¬ (256 * gt Z (k + 1) + gt Z k) = -1; omega), hu9]; exact hL_f11⟩) (Nat.le_refl _) (Nat.le_refl _) d_MD_readAt_97
            · exfalso; omega
          · refine lv_iconst (v := iI (-1)) hx hb d_MD_readAt_54 rfl ?_
            have hr9 : rdr Z en k = (-1, 1) := by rw [rdr, if_neg (by omega), if_neg (by omega), if_neg (by omega), if_pos (by omega), rd2, if_pos (by rw [gt_out (us := Z) (k := k + 1) (by omega)]; omega)]
            exact cn_iret hx hb hr hlk hw  (⟨by rw [hr9, if_pos (show (((-1 : Int), (1 : Int)) : Int × Int).1 = -1 from rfl)], _, by rw [hr9, if_pos (show (((-1 : Int), (1 : Int)) : Int × Int).1 = -1 from rfl), List.append_nil]; exact hL⟩) (Nat.le_refl _) (Nat.le_refl _) d_MD_readAt_55
    · have hen01 : en = 0 ∨ en = 1 := by omega
      refine lv_iload_n hx hb d_MD_readAt_17 rfl (lv_at hl 0 rfl) ?_
      refine lv_sipush (v := iI (128)) hx hb d_MD_readAt_18 rfl ?_
      refine di_icmp_ge (tgt := 39) hx hb d_MD_readAt_21 (by decide) ⟨by omega, by omega⟩ ⟨by omega, by omega⟩ (fun bq21 => ?_) (fun bq21 => ?_)
      · refine lv_iload_n hx hb d_MD_readAt_39 rfl (lv_at hl 3 rfl) ?_
        refine lv_iconst (v := iI (1)) hx hb d_MD_readAt_40 rfl ?_
        refine di_icmp_le (tgt := 98) hx hb d_MD_readAt_41 (by decide) ⟨by omega, by omega⟩ ⟨by omega, by omega⟩ (fun bq41 => ?_) (fun bq41 => ?_)
        · refine lv_iload_n hx hb d_MD_readAt_98 rfl (lv_at hl 3 rfl) ?_
          refine lv_iconst (v := iI (1)) hx hb d_MD_readAt_99 rfl ?_
          refine di_icmp_ne (tgt := 107) hx hb d_MD_readAt_100 (by decide) ⟨by omega, by omega⟩ ⟨by omega, by omega⟩ (fun bq100 => ?_) (fun bq100 => ?_)
          · refine lv_iconst (v := iI (0)) hx hb d_MD_readAt_107 rfl ?_
            have hmd : md2 en = false := decide_eq_false (by omega)
            refine lv_istore (lv' := [(4, .int (iI (b2 false))), (3, .int (iI (gt Z k))), (0, .ref y), (1, .int (iI k)), (2, .int (iI en))]) hx hb d_MD_readAt_108 hl (by decide) rfl (fun ls hl => ?_)
            refine lv_iload hx hb d_MD_readAt_110 (lv_at hl 0 rfl) ?_
            refine di_if_eq (tgt := 153) hx hb d_MD_readAt_112 (by decide) ⟨by decide, by decide⟩ (fun _ => ?_) (fun q9 => absurd q9 (by decide))
            have hz9 : ¬ (en = 1 ∧ gt Z k = 192 ∧ gt Z (k + 1) = 128) := fun q => by omega
            refine lv_iload_n hx hb d_MD_readAt_153 rfl (lv_at hl 1 rfl) ?_
            refine lv_sipush (v := iI (192)) hx hb d_MD_readAt_154 rfl ?_
            refine di_icmp_ge (tgt := 164) hx hb d_MD_readAt_157 (by decide) ⟨by omega, by omega⟩ ⟨by omega, by omega⟩ (fun bq157 => ?_) (fun bq157 => ?_)
            · refine lv_iload_n hx hb d_MD_readAt_164 rfl (lv_at hl 1 rfl) ?_
              refine lv_sipush (v := iI (224)) hx hb d_MD_readAt_165 rfl ?_
              refine di_icmp_ge (tgt := 175) hx hb d_MD_readAt_168 (by decide) ⟨by omega, by omega⟩ ⟨by omega, by omega⟩ (fun bq168 => ?_) (fun bq168 => ?_)
              · refine lv_iload_n hx hb d_MD_readAt_175 rfl (lv_at hl 1 rfl) ?_
                refine lv_sipush (v := iI (240)) hx hb d_MD_readAt_176 rfl ?_
                refine di_icmp_ge (tgt := 186) hx hb d_MD_readAt_179 (by decide) ⟨by omega, by omega⟩ ⟨by omega, by omega⟩ (fun bq179 => ?_) (fun bq179 => ?_)
                · refine lv_iload_n hx hb d_MD_readAt_186 rfl (lv_at hl 1 rfl) ?_
                  refine lv_sipush (v := iI (248)) hx hb d_MD_readAt_187 rfl ?_
                  refine di_icmp_ge (tgt := 202) hx hb d_MD_readAt_190 (by decide) ⟨by omega, by omega⟩ ⟨by omega, by omega⟩ (fun bq190 => ?_) (fun bq190 => ?_)
                  · refine lv_iconst (v := iI (0)) hx hb d_MD_readAt_202 rfl ?_
                    refine lv_istore (lv' := [(5, .int (iI 0)), (4, .int (iI (b2 false))), (3, .int (iI (gt Z k))), (0, .ref y), (1, .int (iI k)), (2, .int (iI en))]) hx hb d_MD_readAt_203 hl (by decide) rfl (fun ls hl => ?_)
                    refine lv_iload hx hb d_MD_readAt_205 (lv_at hl 0 rfl) ?_
                    refine di_if_ne (tgt := 212) hx hb d_MD_readAt_207 (by decide) ⟨by decide, by decide⟩ (fun q9 => absurd q9 (by decide)) (fun _ => ?_)
                    refine lv_iconst (v := iI (-1)) hx hb d_MD_readAt_210 rfl ?_
                    have hr9 : rdr Z en k = (-1, 1) := rd_0 hen01 (by omega)
                    exact cn_iret hx hb hr hlk hw  (⟨by rw [hr9, if_pos (show (((-1 : Int), (1 : Int)) : Int × Int).1 = -1 from rfl)], _, by rw [hr9, if_pos (show (((-1 : Int), (1 : Int)) : Int × Int).1 = -1 from rfl), List.append_nil]; exact hL⟩) (Nat.le_refl _) (Nat.le_refl _) d_MD_readAt_211
                  · refine lv_iload hx hb d_MD_readAt_193 (lv_at hl 0 rfl) ?_
                    refine di_if_ne (tgt := 202) hx hb d_MD_readAt_195 (by decide) ⟨by decide, by decide⟩ (fun q9 => absurd q9 (by decide)) (fun _ => ?_)
                    refine lv_iconst (v := iI (3)) hx hb d_MD_readAt_198 rfl ?_
                    refine lv_goto (tgt := 203) hx hb d_MD_readAt_199 (by decide) ?_
                    refine lv_istore (lv' := [(5, .int (iI 3)), (4, .int (iI (b2 false))), (3, .int (iI (gt Z k))), (0, .ref y), (1, .int (iI k)), (2, .int (iI en))]) hx hb d_MD_readAt_203 hl (by decide) rfl (fun ls hl => ?_)
                    refine lv_iload hx hb d_MD_readAt_205 (lv_at hl 0 rfl) ?_
                    refine di_if_ne (tgt := 212) hx hb d_MD_readAt_207 (by decide) ⟨by decide, by decide⟩ (fun _ => ?_) (fun q9 => absurd q9 (by decide))
                    refine lv_aload_n hx hb d_MD_readAt_212 rfl (lv_at hl 3 rfl) ?_
                    refine lv_iload_n hx hb d_MD_readAt_213 rfl (lv_at hl 4 rfl) ?_
                    refine lv_iload hx hb d_MD_readAt_214 (lv_at hl 0 rfl) ?_
                    refine lv_iload hx hb d_MD_readAt_216 (lv_at hl 1 rfl) ?_
                    have hall := rd_all hen01 (n := 3) (Or.inr (Or.inr ⟨rfl, by omega, by omega, by omega⟩)) hz9
                    rw [hmd] at hall
                    refine cs_MD_131 X hz hw hl.1 hM.1 (c_MD_begun l G f _ y th T Y B Z M C k 3 false hk ⟨by omega, by omega⟩ ⟨si, un, bu, ma, bt, so, co, _, _, _, _, _, _, _, hM, hT, hB, hZ, hMa, hC, hY⟩) ⟨Nat.le_of_ble_eq_true rfl, Nat.le_of_ble_eq_true rfl⟩ ⟨by show 0 + 0 ≤ 0; omega, by show 0 + 0 ≤ 0; omega⟩ (Nat.le_of_ble_eq_true rfl) d_MD_readAt_218 (fun v f12 H locs hp hw hsz9 hkp9 hdm9 => ?_)
                    obtain ⟨rfl, C2, hL_f12⟩ := hp
                    refine W.eq (g2 := F0 m 221 ls [.int (iI (bgn Z k 3 false 64 0 1))]) rfl ?_
                    obtain ⟨si, un, bu, ma, bt, so, co, gsi, gun, gbu, gma, gbt, gso, gco, hM, hT, hB, hZ, hMa, hC, hY⟩ := id hL_f12
                    refine lv_istore (lv' := [(6, .int (iI (bgn Z k 3 false 64 0 1))), (5, .int (iI 3)), (4, .int (iI (b2 false))), (3, .int (iI (gt Z k))), (0, .ref y), (1, .int (iI k)), (2, .int (iI en))]) hx hb d_MD_readAt_221 hl (by decide) rfl (fun ls hl => ?_)
                    refine lv_iload hx hb d_MD_readAt_223 (lv_at hl 0 rfl) ?_
                    refine lv_iload hx hb d_MD_readAt_225 (lv_at hl 1 rfl) ?_
                    refine di_icmp_gt (tgt := 234) hx hb d_MD_readAt_227 (by decide) ⟨by omega, by omega⟩ ⟨by omega, by omega⟩ (fun bq227 => ?_) (fun bq227 => ?_)
                    · have hr8 := hall.2.1 (by omega)
                      have hrr := rdr_rng hZr hen hk.1 hk.2
                      rw [hr8] at hrr
                      have hgg := gss_rng (Z := Z) (k := k) (n := 3) ⟨by omega, by omega⟩ (fl := 0) ⟨by omega, by omega⟩
                      have hrr1 : gss Z k 3 0 < 1114112 := hrr.2.1
                      refine lv_aload_n hx hb d_MD_readAt_234 rfl (lv_at hl 4 rfl) ?_
                      refine lv_iload_n hx hb d_MD_readAt_235 rfl (lv_at hl 5 rfl) ?_
                      refine lv_iload hx hb d_MD_readAt_236 (lv_at hl 1 rfl) ?_
                      refine lv_iconst (v := iI (0)) hx hb d_MD_readAt_238 rfl ?_
                      refine cs_MD_121 X hz hw hl.1 hM.1 (c_MD_guess l G f12 _ y th T Y B Z M C2 k 3 0 hk ⟨by omega, by omega⟩ ⟨by omega, by omega⟩ ⟨si, un, bu, ma, bt, so, co, _, _, _, _, _, _, _, hM, hT, hB, hZ, hMa, hC, hY⟩) ⟨Nat.le_of_ble_eq_true rfl, Nat.le_of_ble_eq_true rfl⟩ ⟨by show 0 + 0 ≤ 0; omega, by show 0 + 0 ≤ 0; omega⟩ (Nat.le_of_ble_eq_true rfl) d_MD_readAt_239 (fun v f9 H locs hp hw hsz9 hkp9 hdm9 => ?_)
                      obtain ⟨rfl, hfe⟩ := hp
                      rw [hfe] at hw
                      refine W.eq (g2 := F0 m 242 ls [.int (iI (gss Z k 3 0))]) rfl ?_
                      refine lv_istore (lv' := [(7, .int (iI (gss Z k 3 0))), (6, .int (iI (bgn Z k 3 false 64 0 1))), (5, .int (iI 3)), (4, .int (iI (b2 false))), (3, .int (iI (gt Z k))), (0, .ref y), (1, .int (iI k)), (2, .int (iI en))]) hx hb d_MD_readAt_242 hl (by decide) rfl (fun ls hl => ?_)
                      refine lv_iload hx hb d_MD_readAt_244 (lv_at hl 0 rfl) ?_
                      refine lv_ldc (v := iI (65535)) hx hb X.own (X.hts _ mw_859) d_MD_readAt_246 ?_
                      refine di_icmp_le (tgt := 267) hx hb d_MD_readAt_248 (by decide) ⟨by omega, by omega⟩ ⟨by omega, by omega⟩ (fun bq248 => ?_) (fun bq248 => ?_)
                      · refine lv_aload_n hx hb d_MD_readAt_267 rfl (lv_at hl 5 rfl) ?_
                        refine lv_iload hx hb d_MD_readAt_268 (lv_at hl 0 rfl) ?_
                        refine lv_ldc (v := iI (65535)) hx hb X.own (X.hts _ mw_859) d_MD_readAt_270 ?_
                        refine di_icmp_le (tgt := 290) hx hb d_MD_readAt_272 (by decide) ⟨by omega, by omega⟩ ⟨by omega, by omega⟩ (fun bq272 => ?_) (fun bq272 => ?_)
                        · refine lv_iload hx hb d_MD_readAt_290 (lv_at hl 0 rfl) ?_
                          refine cs_MD_64 X hz hw hl.1 hM.1 (c_MD_make l G f12 _ y th T Y B Z M C2 (gss Z k 3 0) (by omega) ⟨si, un, bu, ma, bt, so, co, _, _, _, _, _, _, _, hM, hT, hB, hZ, hMa, hC, hY⟩) ⟨Nat.le_of_ble_eq_true rfl, Nat.le_of_ble_eq_true rfl⟩ ⟨by show 0 + 0 ≤ 0; omega, by show 0 + 0 ≤ 0; omega⟩ (Nat.le_of_ble_eq_true rfl) d_MD_readAt_292 (fun v f14 H locs hp hw hsz9 hkp9 hdm9 => ?_)
                          obtain ⟨rfl, hL_f14⟩ := hp
                          refine W.eq (g2 := F0 m 295 ls []) rfl ?_
                          obtain ⟨si, un, bu, ma, bt, so, co, gsi, gun, gbu, gma, gbt, gso, gco, hM, hT, hB, hZ, hMa, hC, hY⟩ := id hL_f14
                          refine lv_iload hx hb d_MD_readAt_295 (lv_at hl 2 rfl) ?_
                          refine lv_iconst (v := iI (1)) hx hb d_MD_readAt_297 rfl ?_
                          refine di_add hx hb d_MD_readAt_298 ?_
                          have hr9 : rdr Z en k = (gss Z k 3 0, 3 + 1) := hr8
                          have hu9 : uts ((gss Z k 3 0, 3 + 1)).1 = [gss Z k 3 0] := by show uts (gss Z k 3 0) = _; rw [uts, if_pos (by omega)]
                          exact cn_iret hx hb hr hlk hw  (⟨by rw [hr9, if_neg (show ¬ ((gss Z k 3 0, 3 + 1)).1 = -1 by show ¬ (gss Z k 3 0) = -1; omega)], _, by rw [hr9, if_neg (show ¬ ((gss Z k 3 0, 3 + 1)).1 = -1 by show ¬ (gss Z k 3 0) = -1; omega), hu9]; exact hL_f14⟩) (Nat.le_refl _) (Nat.le_refl _) d_MD_readAt_299
                        · exfalso; omega
                      · refine lv_aload_n hx hb d_MD_readAt_251 rfl (lv_at hl 5 rfl) ?_
                        refine lv_ldc (v := iI (55296)) hx hb X.own (X.hts _ mw_732) d_MD_readAt_252 ?_
                        refine lv_iload hx hb d_MD_readAt_254 (lv_at hl 0 rfl) ?_
                        refine lv_ldc (v := iI (65536)) hx hb X.own (X.hts _ mw_697) d_MD_readAt_256 ?_
                        refine di_sub hx hb d_MD_readAt_258 ?_
                        refine lv_sipush (v := iI (1024)) hx hb d_MD_readAt_259 rfl ?_
                        refine di_div hx hb d_MD_readAt_262 (by omega) (by omega) (by omega) (by omega) ?_
                        refine di_add hx hb d_MD_readAt_263 ?_
                        refine cs_MD_64 X hz hw hl.1 hM.1 (c_MD_make l G f12 _ y th T Y B Z M C2 (55296 + (gss Z k 3 0 - 65536) / 1024) (by omega) ⟨si, un, bu, ma, bt, so, co, _, _, _, _, _, _, _, hM, hT, hB, hZ, hMa, hC, hY⟩) ⟨Nat.le_of_ble_eq_true rfl, Nat.le_of_ble_eq_true rfl⟩ ⟨by show 0 + 0 ≤ 0; omega, by show 0 + 0 ≤ 0; omega⟩ (Nat.le_of_ble_eq_true rfl) d_MD_readAt_264 (fun v f14 H locs hp hw hsz9 hkp9 hdm9 => ?_)
                        obtain ⟨rfl, hL_f14⟩ := hp
                        refine W.eq (g2 := F0 m 267 ls []) rfl ?_
                        obtain ⟨si, un, bu, ma, bt, so, co, gsi, gun, gbu, gma, gbt, gso, gco, hM, hT, hB, hZ, hMa, hC, hY⟩ := id hL_f14
                        refine lv_aload_n hx hb d_MD_readAt_267 rfl (lv_at hl 5 rfl) ?_
                        refine lv_iload hx hb d_MD_readAt_268 (lv_at hl 0 rfl) ?_
                        refine lv_ldc (v := iI (65535)) hx hb X.own (X.hts _ mw_859) d_MD_readAt_270 ?_
                        refine di_icmp_le (tgt := 290) hx hb d_MD_readAt_272 (by decide) ⟨by omega, by omega⟩ ⟨by omega, by omega⟩ (fun bq272 => ?_) (fun bq272 => ?_)
                        · exfalso; omega
                        · refine lv_ldc (v := iI (56320)) hx hb X.own (X.hts _ mw_737) d_MD_readAt_275 ?_
                          refine lv_iload hx hb d_MD_readAt_277 (lv_at hl 0 rfl) ?_
                          refine lv_ldc (v := iI (65536)) hx hb X.own (X.hts _ mw_697) d_MD_readAt_279 ?_
                          refine di_sub hx hb d_MD_readAt_281 ?_
                          refine lv_sipush (v := iI (1024)) hx hb d_MD_readAt_282 rfl ?_
                          refine di_rem hx hb d_MD_readAt_285 (by omega) (by omega) (by omega) (by omega) ?_
                          refine di_add hx hb d_MD_readAt_286 ?_
                          refine lv_goto (tgt := 292) hx hb d_MD_readAt_287 (by decide) ?_
                          refine cs_MD_64 X hz hw hl.1 hM.1 (c_MD_make l G f14 _ y th T Y B Z (M ++ [55296 + (gss Z k 3 0 - 65536) / 1024]) C2 (56320 + (gss Z k 3 0 - 65536) % 1024) (by simp; omega) ⟨si, un, bu, ma, bt, so, co, _, _, _, _, _, _, _, hM, hT, hB, hZ, hMa, hC, hY⟩) ⟨Nat.le_of_ble_eq_true rfl, Nat.le_of_ble_eq_true rfl⟩ ⟨by show 0 + 0 ≤ 0; omega, by show 0 + 0 ≤ 0; omega⟩ (Nat.le_of_ble_eq_true rfl) d_MD_readAt_292 (fun v f15 H locs hp hw hsz9 hkp9 hdm9 => ?_)
                          obtain ⟨rfl, hL_f15⟩ := hp
                          refine W.eq (g2 := F0 m 295 ls []) rfl ?_
                          obtain ⟨si, un, bu, ma, bt, so, co, gsi, gun, gbu, gma, gbt, gso, gco, hM, hT, hB, hZ, hMa, hC, hY⟩ := id hL_f15
                          rw [List.append_assoc] at hL_f15
                          refine lv_iload hx hb d_MD_readAt_295 (lv_at hl 2 rfl) ?_
                          refine lv_iconst (v := iI (1)) hx hb d_MD_readAt_297 rfl ?_
                          refine di_add hx hb d_MD_readAt_298 ?_
                          have hr9 : rdr Z en k = (gss Z k 3 0, 3 + 1) := hr8
                          have hu9 : uts ((gss Z k 3 0, 3 + 1)).1 = [55296 + (gss Z k 3 0 - 65536) / 1024, 56320 + (gss Z k 3 0 - 65536) % 1024] := by show uts (gss Z k 3 0) = _; rw [uts, if_neg (by omega)]
                          exact cn_iret hx hb hr hlk hw  (⟨by rw [hr9, if_neg (show ¬ ((gss Z k 3 0, 3 + 1)).1 = -1 by show ¬ (gss Z k 3 0) = -1; omega)], _, by rw [hr9, if_neg (show ¬ ((gss Z k 3 0, 3 + 1)).1 = -1 by show ¬ (gss Z k 3 0) = -1; omega), hu9]; exact hL_f15⟩) (Nat.le_refl _) (Nat.le_refl _) d_MD_readAt_299
                    · refine lv_iload hx hb d_MD_readAt_230 (lv_at hl 0 rfl) ?_
                      refine di_neg hx hb d_MD_readAt_232 ?_
                      have hr9 : rdr Z en k = (-1, bgn Z k 3 false 64 0 1) := hall.1 (by omega)
                      exact cn_iret hx hb hr hlk hw  (⟨by rw [hr9, if_pos (show (((-1 : Int), (bgn Z k 3 false 64 0 1 : Int)) : Int × Int).1 = -1 from rfl)], _, by rw [hr9, if_pos (show (((-1 : Int), (bgn Z k 3 false 64 0 1 : Int)) : Int × Int).1 = -1 from rfl), List.append_nil]; exact hL_f12⟩) (Nat.le_refl _) (Nat.le_refl _) d_MD_readAt_233
                · refine lv_iconst (v := iI (2)) hx hb d_MD_readAt_182 rfl ?_
                  refine lv_goto (tgt := 203) hx hb d_MD_readAt_183 (by decide) ?_
                  refine lv_istore (lv' := [(5, .int (iI 2)), (4, .int (iI (b2 false))), (3, .int (iI (gt Z k))), (0, .ref y), (1, .int (iI k)), (2, .int (iI en))]) hx hb d_MD_readAt_203 hl (by decide) rfl (fun ls hl => ?_)
                  refine lv_iload hx hb d_MD_readAt_205 (lv_at hl 0 rfl) ?_
                  refine di_if_ne (tgt := 212) hx hb d_MD_readAt_207 (by decide) ⟨by decide, by decide⟩ (fun _ => ?_) (fun q9 => absurd q9 (by decide))
                  refine lv_aload_n hx hb d_MD_readAt_212 rfl (lv_at hl 3 rfl) ?_
                  refine lv_iload_n hx hb d_MD_readAt_213 rfl (lv_at hl 4 rfl) ?_
                  refine lv_iload hx hb d_MD_readAt_214 (lv_at hl 0 rfl) ?_
                  refine lv_iload hx hb d_MD_readAt_216 (lv_at hl 1 rfl) ?_
                  have hall := rd_all hen01 (n := 2) (Or.inr (Or.inl ⟨rfl, by omega, by omega⟩)) hz9
                  rw [hmd] at hall
                  refine cs_MD_131 X hz hw hl.1 hM.1 (c_MD_begun l G f _ y th T Y B Z M C k 2 false hk ⟨by omega, by omega⟩ ⟨si, un, bu, ma, bt, so, co, _, _, _, _, _, _, _, hM, hT, hB, hZ, hMa, hC, hY⟩) ⟨Nat.le_of_ble_eq_true rfl, Nat.le_of_ble_eq_true rfl⟩ ⟨by show 0 + 0 ≤ 0; omega, by show 0 + 0 ≤ 0; omega⟩ (Nat.le_of_ble_eq_true rfl) d_MD_readAt_218 (fun v f12 H locs hp hw hsz9 hkp9 hdm9 => ?_)
                  obtain ⟨rfl, C2, hL_f12⟩ := hp
                  refine W.eq (g2 := F0 m 221 ls [.int (iI (bgn Z k 2 false 64 0 1))]) rfl ?_
                  obtain ⟨si, un, bu, ma, bt, so, co, gsi, gun, gbu, gma, gbt, gso, gco, hM, hT, hB, hZ, hMa, hC, hY⟩ := id hL_f12
                  refine lv_istore (lv' := [(6, .int (iI (bgn Z k 2 false 64 0 1))), (5, .int (iI 2)), (4, .int (iI (b2 false))), (3, .int (iI (gt Z k))), (0, .ref y), (1, .int (iI k)), (2, .int (iI en))]) hx hb d_MD_readAt_221 hl (by decide) rfl (fun ls hl => ?_)
                  refine lv_iload hx hb d_MD_readAt_223 (lv_at hl 0 rfl) ?_
                  refine lv_iload hx hb d_MD_readAt_225 (lv_at hl 1 rfl) ?_
                  refine di_icmp_gt (tgt := 234) hx hb d_MD_readAt_227 (by decide) ⟨by omega, by omega⟩ ⟨by omega, by omega⟩ (fun bq227 => ?_) (fun bq227 => ?_)
                  · have hr8 := hall.2.1 (by omega)
                    have hrr := rdr_rng hZr hen hk.1 hk.2
                    rw [hr8] at hrr
                    have hgg := gss_rng (Z := Z) (k := k) (n := 2) ⟨by omega, by omega⟩ (fl := 0) ⟨by omega, by omega⟩
                    have hrr1 : gss Z k 2 0 < 1114112 := hrr.2.1
                    refine lv_aload_n hx hb d_MD_readAt_234 rfl (lv_at hl 4 rfl) ?_
                    refine lv_iload_n hx hb d_MD_readAt_235 rfl (lv_at hl 5 rfl) ?_
                    refine lv_iload hx hb d_MD_readAt_236 (lv_at hl 1 rfl) ?_
                    refine lv_iconst (v := iI (0)) hx hb d_MD_readAt_238 rfl ?_
                    refine cs_MD_121 X hz hw hl.1 hM.1 (c_MD_guess l G f12 _ y th T Y B Z M C2 k 2 0 hk ⟨by omega, by omega⟩ ⟨by omega, by omega⟩ ⟨si, un, bu, ma, bt, so, co, _, _, _, _, _, _, _, hM, hT, hB, hZ, hMa, hC, hY⟩) ⟨Nat.le_of_ble_eq_true rfl, Nat.le_of_ble_eq_true rfl⟩ ⟨by show 0 + 0 ≤ 0; omega, by show 0 + 0 ≤ 0; omega⟩ (Nat.le_of_ble_eq_true rfl) d_MD_readAt_239 (fun v f9 H locs hp hw hsz9 hkp9 hdm9 => ?_)
                    obtain ⟨rfl, hfe⟩ := hp
                    rw [hfe] at hw
                    refine W.eq (g2 := F0 m 242 ls [.int (iI (gss Z k 2 0))]) rfl ?_
                    refine lv_istore (lv' := [(7, .int (iI (gss Z k 2 0))), (6, .int (iI (bgn Z k 2 false 64 0 1))), (5, .int (iI 2)), (4, .int (iI (b2 false))), (3, .int (iI (gt Z k))), (0, .ref y), (1, .int (iI k)), (2, .int (iI en))]) hx hb d_MD_readAt_242 hl (by decide) rfl (fun ls hl => ?_)
                    refine lv_iload hx hb d_MD_readAt_244 (lv_at hl 0 rfl) ?_
                    refine lv_ldc (v := iI (65535)) hx hb X.own (X.hts _ mw_859) d_MD_readAt_246 ?_
                    refine di_icmp_le (tgt := 267) hx hb d_MD_readAt_248 (by decide) ⟨by omega, by omega⟩ ⟨by omega, by omega⟩ (fun bq248 => ?_) (fun bq248 => ?_)
                    · refine lv_aload_n hx hb d_MD_readAt_267 rfl (lv_at hl 5 rfl) ?_
                      refine lv_iload hx hb d_MD_readAt_268 (lv_at hl 0 rfl) ?_
                      refine lv_ldc (v := iI (65535)) hx hb X.own (X.hts _ mw_859) d_MD_readAt_270 ?_
                      refine di_icmp_le (tgt := 290) hx hb d_MD_readAt_272 (by decide) ⟨by omega, by omega⟩ ⟨by omega, by omega⟩ (fun bq272 => ?_) (fun bq272 => ?_)
                      · refine lv_iload hx hb d_MD_readAt_290 (lv_at hl 0 rfl) ?_
                        refine cs_MD_64 X hz hw hl.1 hM.1 (c_MD_make l G f12 _ y th T Y B Z M C2 (gss Z k 2 0) (by omega) ⟨si, un, bu, ma, bt, so, co, _, _, _, _, _, _, _, hM, hT, hB, hZ, hMa, hC, hY⟩) ⟨Nat.le_of_ble_eq_true rfl, Nat.le_of_ble_eq_true rfl⟩ ⟨by show 0 + 0 ≤ 0; omega, by show 0 + 0 ≤ 0; omega⟩ (Nat.le_of_ble_eq_true rfl) d_MD_readAt_292 (fun v f14 H locs hp hw hsz9 hkp9 hdm9 => ?_)
                        obtain ⟨rfl, hL_f14⟩ := hp
                        refine W.eq (g2 := F0 m 295 ls []) rfl ?_
                        obtain ⟨si, un, bu, ma, bt, so, co, gsi, gun, gbu, gma, gbt, gso, gco, hM, hT, hB, hZ, hMa, hC, hY⟩ := id hL_f14
                        refine lv_iload hx hb d_MD_readAt_295 (lv_at hl 2 rfl) ?_
                        refine lv_iconst (v := iI (1)) hx hb d_MD_readAt_297 rfl ?_
                        refine di_add hx hb d_MD_readAt_298 ?_
                        have hr9 : rdr Z en k = (gss Z k 2 0, 2 + 1) := hr8
                        have hu9 : uts ((gss Z k 2 0, 2 + 1)).1 = [gss Z k 2 0] := by show uts (gss Z k 2 0) = _; rw [uts, if_pos (by omega)]
                        exact cn_iret hx hb hr hlk hw  (⟨by rw [hr9, if_neg (show ¬ ((gss Z k 2 0, 2 + 1)).1 = -1 by show ¬ (gss Z k 2 0) = -1; omega)], _, by rw [hr9, if_neg (show ¬ ((gss Z k 2 0, 2 + 1)).1 = -1 by show ¬ (gss Z k 2 0) = -1; omega), hu9]; exact hL_f14⟩) (Nat.le_refl _) (Nat.le_refl _) d_MD_readAt_299
                      · exfalso; omega
                    · refine lv_aload_n hx hb d_MD_readAt_251 rfl (lv_at hl 5 rfl) ?_
                      refine lv_ldc (v := iI (55296)) hx hb X.own (X.hts _ mw_732) d_MD_readAt_252 ?_
                      refine lv_iload hx hb d_MD_readAt_254 (lv_at hl 0 rfl) ?_
                      refine lv_ldc (v := iI (65536)) hx hb X.own (X.hts _ mw_697) d_MD_readAt_256 ?_
                      refine di_sub hx hb d_MD_readAt_258 ?_
                      refine lv_sipush (v := iI (1024)) hx hb d_MD_readAt_259 rfl ?_
                      refine di_div hx hb d_MD_readAt_262 (by omega) (by omega) (by omega) (by omega) ?_
                      refine di_add hx hb d_MD_readAt_263 ?_
                      refine cs_MD_64 X hz hw hl.1 hM.1 (c_MD_make l G f12 _ y th T Y B Z M C2 (55296 + (gss Z k 2 0 - 65536) / 1024) (by omega) ⟨si, un, bu, ma, bt, so, co, _, _, _, _, _, _, _, hM, hT, hB, hZ, hMa, hC, hY⟩) ⟨Nat.le_of_ble_eq_true rfl, Nat.le_of_ble_eq_true rfl⟩ ⟨by show 0 + 0 ≤ 0; omega, by show 0 + 0 ≤ 0; omega⟩ (Nat.le_of_ble_eq_true rfl) d_MD_readAt_264 (fun v f14 H locs hp hw hsz9 hkp9 hdm9 => ?_)
                      obtain ⟨rfl, hL_f14⟩ := hp
                      refine W.eq (g2 := F0 m 267 ls []) rfl ?_
                      obtain ⟨si, un, bu, ma, bt, so, co, gsi, gun, gbu, gma, gbt, gso, gco, hM, hT, hB, hZ, hMa, hC, hY⟩ := id hL_f14
                      refine lv_aload_n hx hb d_MD_readAt_267 rfl (lv_at hl 5 rfl) ?_
                      refine lv_iload hx hb d_MD_readAt_268 (lv_at hl 0 rfl) ?_
                      refine lv_ldc (v := iI (65535)) hx hb X.own (X.hts _ mw_859) d_MD_readAt_270 ?_
                      refine di_icmp_le (tgt := 290) hx hb d_MD_readAt_272 (by decide) ⟨by omega, by omega⟩ ⟨by omega, by omega⟩ (fun bq272 => ?_) (fun bq272 => ?_)
                      · exfalso; omega
                      · refine lv_ldc (v := iI (56320)) hx hb X.own (X.hts _ mw_737) d_MD_readAt_275 ?_
                        refine lv_iload hx hb d_MD_readAt_277 (lv_at hl 0 rfl) ?_
                        refine lv_ldc (v := iI (65536)) hx hb X.own (X.hts _ mw_697) d_MD_readAt_279 ?_
                        refine di_sub hx hb d_MD_readAt_281 ?_
                        refine lv_sipush (v := iI (1024)) hx hb d_MD_readAt_282 rfl ?_
                        refine di_rem hx hb d_MD_readAt_285 (by omega) (by omega) (by omega) (by omega) ?_
                        refine di_add hx hb d_MD_readAt_286 ?_
                        refine lv_goto (tgt := 292) hx hb d_MD_readAt_287 (by decide) ?_
                        refine cs_MD_64 X hz hw hl.1 hM.1 (c_MD_make l G f14 _ y th T Y B Z (M ++ [55296 + (gss Z k 2 0 - 65536) / 1024]) C2 (56320 + (gss Z k 2 0 - 65536) % 1024) (by simp; omega) ⟨si, un, bu, ma, bt, so, co, _, _, _, _, _, _, _, hM, hT, hB, hZ, hMa, hC, hY⟩) ⟨Nat.le_of_ble_eq_true rfl, Nat.le_of_ble_eq_true rfl⟩ ⟨by show 0 + 0 ≤ 0; omega, by show 0 + 0 ≤ 0; omega⟩ (Nat.le_of_ble_eq_true rfl) d_MD_readAt_292 (fun v f15 H locs hp hw hsz9 hkp9 hdm9 => ?_)
                        obtain ⟨rfl, hL_f15⟩ := hp
                        refine W.eq (g2 := F0 m 295 ls []) rfl ?_
                        obtain ⟨si, un, bu, ma, bt, so, co, gsi, gun, gbu, gma, gbt, gso, gco, hM, hT, hB, hZ, hMa, hC, hY⟩ := id hL_f15
                        rw [List.append_assoc] at hL_f15
                        refine lv_iload hx hb d_MD_readAt_295 (lv_at hl 2 rfl) ?_
                        refine lv_iconst (v := iI (1)) hx hb d_MD_readAt_297 rfl ?_
                        refine di_add hx hb d_MD_readAt_298 ?_
                        have hr9 : rdr Z en k = (gss Z k 2 0, 2 + 1) := hr8
                        have hu9 : uts ((gss Z k 2 0, 2 + 1)).1 = [55296 + (gss Z k 2 0 - 65536) / 1024, 56320 + (gss Z k 2 0 - 65536) % 1024] := by show uts (gss Z k 2 0) = _; rw [uts, if_neg (by omega)]
                        exact cn_iret hx hb hr hlk hw  (⟨by rw [hr9, if_neg (show ¬ ((gss Z k 2 0, 2 + 1)).1 = -1 by show ¬ (gss Z k 2 0) = -1; omega)], _, by rw [hr9, if_neg (show ¬ ((gss Z k 2 0, 2 + 1)).1 = -1 by show ¬ (gss Z k 2 0) = -1; omega), hu9]; exact hL_f15⟩) (Nat.le_refl _) (Nat.le_refl _) d_MD_readAt_299
                  · refine lv_iload hx hb d_MD_readAt_230 (lv_at hl 0 rfl) ?_
                    refine di_neg hx hb d_MD_readAt_232 ?_
                    have hr9 : rdr Z en k = (-1, bgn Z k 2 false 64 0 1) := hall.1 (by omega)
                    exact cn_iret hx hb hr hlk hw  (⟨by rw [hr9, if_pos (show (((-1 : Int), (bgn Z k 2 false 64 0 1 : Int)) : Int × Int).1 = -1 from rfl)], _, by rw [hr9, if_pos (show (((-1 : Int), (bgn Z k 2 false 64 0 1 : Int)) : Int × Int).1 = -1 from rfl), List.append_nil]; exact hL_f12⟩) (Nat.le_refl _) (Nat.le_refl _) d_MD_readAt_233
              · refine lv_iconst (v := iI (1)) hx hb d_MD_readAt_171 rfl ?_
                refine lv_goto (tgt := 203) hx hb d_MD_readAt_172 (by decide) ?_
                refine lv_istore (lv' := [(5, .int (iI 1)), (4, .int (iI (b2 false))), (3, .int (iI (gt Z k))), (0, .ref y), (1, .int (iI k)), (2, .int (iI en))]) hx hb d_MD_readAt_203 hl (by decide) rfl (fun ls hl => ?_)
                refine lv_iload hx hb d_MD_readAt_205 (lv_at hl 0 rfl) ?_
                refine di_if_ne (tgt := 212) hx hb d_MD_readAt_207 (by decide) ⟨by decide, by decide⟩ (fun _ => ?_) (fun q9 => absurd q9 (by decide))
                refine lv_aload_n hx hb d_MD_readAt_212 rfl (lv_at hl 3 rfl) ?_
                refine lv_iload_n hx hb d_MD_readAt_213 rfl (lv_at hl 4 rfl) ?_
                refine lv_iload hx hb d_MD_readAt_214 (lv_at hl 0 rfl) ?_
                refine lv_iload hx hb d_MD_readAt_216 (lv_at hl 1 rfl) ?_
                have hall := rd_all hen01 (n := 1) (Or.inl ⟨rfl, by omega, by omega⟩) hz9
                rw [hmd] at hall
                refine cs_MD_131 X hz hw hl.1 hM.1 (c_MD_begun l G f _ y th T Y B Z M C k 1 false hk ⟨by omega, by omega⟩ ⟨si, un, bu, ma, bt, so, co, _, _, _, _, _, _, _, hM, hT, hB, hZ, hMa, hC, hY⟩) ⟨Nat.le_of_ble_eq_true rfl, Nat.le_of_ble_eq_true rfl⟩ ⟨by show 0 + 0 ≤ 0; omega, by show 0 + 0 ≤ 0; omega⟩ (Nat.le_of_ble_eq_true rfl) d_MD_readAt_218 (fun v f12 H locs hp hw hsz9 hkp9 hdm9 => ?_)
                obtain ⟨rfl, C2, hL_f12⟩ := hp
                refine W.eq (g2 := F0 m 221 ls [.int (iI (bgn Z k 1 false 64 0 1))]) rfl ?_
                obtain ⟨si, un, bu, ma, bt, so, co, gsi, gun, gbu, gma, gbt, gso, gco, hM, hT, hB, hZ, hMa, hC, hY⟩ := id hL_f12
                refine lv_istore (lv' := [(6, .int (iI (bgn Z k 1 false 64 0 1))), (5, .int (iI 1)), (4, .int (iI (b2 false))), (3, .int (iI (gt Z k))), (0, .ref y), (1, .int (iI k)), (2, .int (iI en))]) hx hb d_MD_readAt_221 hl (by decide) rfl (fun ls hl => ?_)
                refine lv_iload hx hb d_MD_readAt_223 (lv_at hl 0 rfl) ?_
                refine lv_iload hx hb d_MD_readAt_225 (lv_at hl 1 rfl) ?_
                refine di_icmp_gt (tgt := 234) hx hb d_MD_readAt_227 (by decide) ⟨by omega, by omega⟩ ⟨by omega, by omega⟩ (fun bq227 => ?_) (fun bq227 => ?_)
                · have hr8 := hall.2.1 (by omega)
                  have hrr := rdr_rng hZr hen hk.1 hk.2
                  rw [hr8] at hrr
                  have hgg := gss_rng (Z := Z) (k := k) (n := 1) ⟨by omega, by omega⟩ (fl := 0) ⟨by omega, by omega⟩
                  have hrr1 : gss Z k 1 0 < 1114112 := hrr.2.1
                  refine lv_aload_n hx hb d_MD_readAt_234 rfl (lv_at hl 4 rfl) ?_
                  refine lv_iload_n hx hb d_MD_readAt_235 rfl (lv_at hl 5 rfl) ?_
                  refine lv_iload hx hb d_MD_readAt_236 (lv_at hl 1 rfl) ?_
                  refine lv_iconst (v := iI (0)) hx hb d_MD_readAt_238 rfl ?_
                  refine cs_MD_121 X hz hw hl.1 hM.1 (c_MD_guess l G f12 _ y th T Y B Z M C2 k 1 0 hk ⟨by omega, by omega⟩ ⟨by omega, by omega⟩ ⟨si, un, bu, ma, bt, so, co, _, _, _, _, _, _, _, hM, hT, hB, hZ, hMa, hC, hY⟩) ⟨Nat.le_of_ble_eq_true rfl, Nat.le_of_ble_eq_true rfl⟩ ⟨by show 0 + 0 ≤ 0; omega, by show 0 + 0 ≤ 0; omega⟩ (Nat.le_of_ble_eq_true rfl) d_MD_readAt_239 (fun v f9 H locs hp hw hsz9 hkp9 hdm9 => ?_)
                  obtain ⟨rfl, hfe⟩ := hp
                  rw [hfe] at hw
                  refine W.eq (g2 := F0 m 242 ls [.int (iI (gss Z k 1 0))]) rfl ?_
                  refine lv_istore (lv' := [(7, .int (iI (gss Z k 1 0))), (6, .int (iI (bgn Z k 1 false 64 0 1))), (5, .int (iI 1)), (4, .int (iI (b2 false))), (3, .int (iI (gt Z k))), (0, .ref y), (1, .int (iI k)), (2, .int (iI en))]) hx hb d_MD_readAt_242 hl (by decide) rfl (fun ls hl => ?_)
                  refine lv_iload hx hb d_MD_readAt_244 (lv_at hl 0 rfl) ?_
                  refine lv_ldc (v := iI (65535)) hx hb X.own (X.hts _ mw_859) d_MD_readAt_246 ?_
                  refine di_icmp_le (tgt := 267) hx hb d_MD_readAt_248 (by decide) ⟨by omega, by omega⟩ ⟨by omega, by omega⟩ (fun bq248 => ?_) (fun bq248 => ?_)
                  · refine lv_aload_n hx hb d_MD_readAt_267 rfl (lv_at hl 5 rfl) ?_
                    refine lv_iload hx hb d_MD_readAt_268 (lv_at hl 0 rfl) ?_
                    refine lv_ldc (v := iI (65535)) hx hb X.own (X.hts _ mw_859) d_MD_readAt_270 ?_
                    refine di_icmp_le (tgt := 290) hx hb d_MD_readAt_272 (by decide) ⟨by omega, by omega⟩ ⟨by omega, by omega⟩ (fun bq272 => ?_) (fun bq272 => ?_)
                    · refine lv_iload hx hb d_MD_readAt_290 (lv_at hl 0 rfl) ?_
                      refine cs_MD_64 X hz hw hl.1 hM.1 (c_MD_make l G f12 _ y th T Y B Z M C2 (gss Z k 1 0) (by omega) ⟨si, un, bu, ma, bt, so, co, _, _, _, _, _, _, _, hM, hT, hB, hZ, hMa, hC, hY⟩) ⟨Nat.le_of_ble_eq_true rfl, Nat.le_of_ble_eq_true rfl⟩ ⟨by show 0 + 0 ≤ 0; omega, by show 0 + 0 ≤ 0; omega⟩ (Nat.le_of_ble_eq_true rfl) d_MD_readAt_292 (fun v f14 H locs hp hw hsz9 hkp9 hdm9 => ?_)
                      obtain ⟨rfl, hL_f14⟩ := hp
                      refine W.eq (g2 := F0 m 295 ls []) rfl ?_
                      obtain ⟨si, un, bu, ma, bt, so, co, gsi, gun, gbu, gma, gbt, gso, gco, hM, hT, hB, hZ, hMa, hC, hY⟩ := id hL_f14
                      refine lv_iload hx hb d_MD_readAt_295 (lv_at hl 2 rfl) ?_
                      refine lv_iconst (v := iI (1)) hx hb d_MD_readAt_297 rfl ?_
                      refine di_add hx hb d_MD_readAt_298 ?_
                      have hr9 : rdr Z en k = (gss Z k 1 0, 1 + 1) := hr8
                      have hu9 : uts ((gss Z k 1 0, 1 + 1)).1 = [gss Z k 1 0] := by show uts (gss Z k 1 0) = _; rw [uts, if_pos (by omega)]
                      exact cn_iret hx hb hr hlk hw  (⟨by rw [hr9, if_neg (show ¬ ((gss Z k 1 0, 1 + 1)).1 = -1 by show ¬ (gss Z k 1 0) = -1; omega)], _, by rw [hr9, if_neg (show ¬ ((gss Z k 1 0, 1 + 1)).1 = -1 by show ¬ (gss Z k 1 0) = -1; omega), hu9]; exact hL_f14⟩) (Nat.le_refl _) (Nat.le_refl _) d_MD_readAt_299
                    · exfalso; omega
                  · refine lv_aload_n hx hb d_MD_readAt_251 rfl (lv_at hl 5 rfl) ?_
                    refine lv_ldc (v := iI (55296)) hx hb X.own (X.hts _ mw_732) d_MD_readAt_252 ?_
                    refine lv_iload hx hb d_MD_readAt_254 (lv_at hl 0 rfl) ?_
                    refine lv_ldc (v := iI (65536)) hx hb X.own (X.hts _ mw_697) d_MD_readAt_256 ?_
                    refine di_sub hx hb d_MD_readAt_258 ?_
                    refine lv_sipush (v := iI (1024)) hx hb d_MD_readAt_259 rfl ?_
                    refine di_div hx hb d_MD_readAt_262 (by omega) (by omega) (by omega) (by omega) ?_
                    refine di_add hx hb d_MD_readAt_263 ?_
                    refine cs_MD_64 X hz hw hl.1 hM.1 (c_MD_make l G f12 _ y th T Y B Z M C2 (55296 + (gss Z k 1 0 - 65536) / 1024) (by omega) ⟨si, un, bu, ma, bt, so, co, _, _, _, _, _, _, _, hM, hT, hB, hZ, hMa, hC, hY⟩) ⟨Nat.le_of_ble_eq_true rfl, Nat.le_of_ble_eq_true rfl⟩ ⟨by show 0 + 0 ≤ 0; omega, by show 0 + 0 ≤ 0; omega⟩ (Nat.le_of_ble_eq_true rfl) d_MD_readAt_264 (fun v f14 H locs hp hw hsz9 hkp9 hdm9 => ?_)
                    obtain ⟨rfl, hL_f14⟩ := hp
                    refine W.eq (g2 := F0 m 267 ls []) rfl ?_
                    obtain ⟨si, un, bu, ma, bt, so, co, gsi, gun, gbu, gma, gbt, gso, gco, hM, hT, hB, hZ, hMa, hC, hY⟩ := id hL_f14
                    refine lv_aload_n hx hb d_MD_readAt_267 rfl (lv_at hl 5 rfl) ?_
                    refine lv_iload hx hb d_MD_readAt_268 (lv_at hl 0 rfl) ?_
                    refine lv_ldc (v := iI (65535)) hx hb X.own (X.hts _ mw_859) d_MD_readAt_270 ?_
                    refine di_icmp_le (tgt := 290) hx hb d_MD_readAt_272 (by decide) ⟨by omega, by omega⟩ ⟨by omega, by omega⟩ (fun bq272 => ?_) (fun bq272 => ?_)
                    · exfalso; omega
                    · refine lv_ldc (v := iI (56320)) hx hb X.own (X.hts _ mw_737) d_MD_readAt_275 ?_
                      refine lv_iload hx hb d_MD_readAt_277 (lv_at hl 0 rfl) ?_
                      refine lv_ldc (v := iI (65536)) hx hb X.own (X.hts _ mw_697) d_MD_readAt_279 ?_
                      refine di_sub hx hb d_MD_readAt_281 ?_
                      refine lv_sipush (v := iI (1024)) hx hb d_MD_readAt_282 rfl ?_
                      refine di_rem hx hb d_MD_readAt_285 (by omega) (by omega) (by omega) (by omega) ?_
                      refine di_add hx hb d_MD_readAt_286 ?_
                      refine lv_goto (tgt := 292) hx hb d_MD_readAt_287 (by decide) ?_
                      refine cs_MD_64 X hz hw hl.1 hM.1 (c_MD_make l G f14 _ y th T Y B Z (M ++ [55296 + (gss Z k 1 0 - 65536) / 1024]) C2 (56320 + (gss Z k 1 0 - 65536) % 1024) (by simp; omega) ⟨si, un, bu, ma, bt, so, co, _, _, _, _, _, _, _, hM, hT, hB, hZ, hMa, hC, hY⟩) ⟨Nat.le_of_ble_eq_true rfl, Nat.le_of_ble_eq_true rfl⟩ ⟨by show 0 + 0 ≤ 0; omega, by show 0 + 0 ≤ 0; omega⟩ (Nat.le_of_ble_eq_true rfl) d_MD_readAt_292 (fun v f15 H locs hp hw hsz9 hkp9 hdm9 => ?_)
                      obtain ⟨rfl, hL_f15⟩ := hp
                      refine W.eq (g2 := F0 m 295 ls []) rfl ?_
                      obtain ⟨si, un, bu, ma, bt, so, co, gsi, gun, gbu, gma, gbt, gso, gco, hM, hT, hB, hZ, hMa, hC, hY⟩ := id hL_f15
                      rw [List.append_assoc] at hL_f15
                      refine lv_iload hx hb d_MD_readAt_295 (lv_at hl 2 rfl) ?_
                      refine lv_iconst (v := iI (1)) hx hb d_MD_readAt_297 rfl ?_
                      refine di_add hx hb d_MD_readAt_298 ?_
                      have hr9 : rdr Z en k = (gss Z k 1 0, 1 + 1) := hr8
                      have hu9 : uts ((gss Z k 1 0, 1 + 1)).1 = [55296 + (gss Z k 1 0 - 65536) / 1024, 56320 + (gss Z k 1 0 - 65536) % 1024] := by show uts (gss Z k 1 0) = _; rw [uts, if_neg (by omega)]
                      exact cn_iret hx hb hr hlk hw  (⟨by rw [hr9, if_neg (show ¬ ((gss Z k 1 0, 1 + 1)).1 = -1 by show ¬ (gss Z k 1 0) = -1; omega)], _, by rw [hr9, if_neg (show ¬ ((gss Z k 1 0, 1 + 1)).1 = -1 by show ¬ (gss Z k 1 0) = -1; omega), hu9]; exact hL_f15⟩) (Nat.le_refl _) (Nat.le_refl _) d_MD_readAt_299
                · refine lv_iload hx hb d_MD_readAt_230 (lv_at hl 0 rfl) ?_
                  refine di_neg hx hb d_MD_readAt_232 ?_
                  have hr9 : rdr Z en k = (-1, bgn Z k 1 false 64 0 1) := hall.1 (by omega)
                  exact cn_iret hx hb hr hlk hw  (⟨by rw [hr9, if_pos (show (((-1 : Int), (bgn Z k 1 false 64 0 1 : Int)) : Int × Int).1 = -1 from rfl)], _, by rw [hr9, if_pos (show (((-1 : Int), (bgn Z k 1 false 64 0 1 : Int)) : Int × Int).1 = -1 from rfl), List.append_nil]; exact hL_f12⟩) (Nat.le_refl _) (Nat.le_refl _) d_MD_readAt_233
            · refine lv_iconst (v := iI (0)) hx hb d_MD_readAt_160 rfl ?_
              refine lv_goto (tgt := 203) hx hb d_MD_readAt_161 (by decide) ?_
              refine lv_istore (lv' := [(5, .int (iI 0)), (4, .int (iI (b2 false))), (3, .int (iI (gt Z k))), (0, .ref y), (1, .int (iI k)), (2, .int (iI en))]) hx hb d_MD_readAt_203 hl (by decide) rfl (fun ls hl => ?_)
              refine lv_iload hx hb d_MD_readAt_205 (lv_at hl 0 rfl) ?_
              refine di_if_ne (tgt := 212) hx hb d_MD_readAt_207 (by decide) ⟨by decide, by decide⟩ (fun q9 => absurd q9 (by decide)) (fun _ => ?_)
              refine lv_iconst (v := iI (-1)) hx hb d_MD_readAt_210 rfl ?_
              have hr9 : rdr Z en k = (-1, 1) := rd_0 hen01 (by omega)
              exact cn_iret hx hb hr hlk hw  (⟨by rw [hr9, if_pos (show (((-1 : Int), (1 : Int)) : Int × Int).1 = -1 from rfl)], _, by rw [hr9, if_pos (show (((-1 : Int), (1 : Int)) : Int × Int).1 = -1 from rfl), List.append_nil]; exact hL⟩) (Nat.le_refl _) (Nat.le_refl _) d_MD_readAt_211
          · refine lv_iconst (v := iI (1)) hx hb d_MD_readAt_103 rfl ?_
            refine lv_goto (tgt := 108) hx hb d_MD_readAt_104 (by decide) ?_
            have hmd : md2 en = true := decide_eq_true (by omega)
            refine lv_istore (lv' := [(4, .int (iI (b2 true))), (3, .int (iI (gt Z k))), (0, .ref y), (1, .int (iI k)), (2, .int (iI en))]) hx hb d_MD_readAt_108 hl (by decide) rfl (fun ls hl => ?_)
            refine lv_iload hx hb d_MD_readAt_110 (lv_at hl 0 rfl) ?_
            refine di_if_eq (tgt := 153) hx hb d_MD_readAt_112 (by decide) ⟨by decide, by decide⟩ (fun q9 => absurd q9 (by decide)) (fun _ => ?_)
            refine lv_iload_n hx hb d_MD_readAt_115 rfl (lv_at hl 1 rfl) ?_
            refine lv_sipush (v := iI (192)) hx hb d_MD_readAt_116 rfl ?_
            refine di_icmp_ne (tgt := 153) hx hb d_MD_readAt_119 (by decide) ⟨by omega, by omega⟩ ⟨by omega, by omega⟩ (fun bq119 => ?_) (fun bq119 => ?_)
            · have hz9 : ¬ (en = 1 ∧ gt Z k = 192 ∧ gt Z (k + 1) = 128) := fun q => by omega
              refine lv_iload_n hx hb d_MD_readAt_153 rfl (lv_at hl 1 rfl) ?_
              refine lv_sipush (v := iI (192)) hx hb d_MD_readAt_154 rfl ?_
              refine di_icmp_ge (tgt := 164) hx hb d_MD_readAt_157 (by decide) ⟨by omega, by omega⟩ ⟨by omega, by omega⟩ (fun bq157 => ?_) (fun bq157 => ?_)
              · refine lv_iload_n hx hb d_MD_readAt_164 rfl (lv_at hl 1 rfl) ?_
                refine lv_sipush (v := iI (224)) hx hb d_MD_readAt_165 rfl ?_
                refine di_icmp_ge (tgt := 175) hx hb d_MD_readAt_168 (by decide) ⟨by omega, by omega⟩ ⟨by omega, by omega⟩ (fun bq168 => ?_) (fun bq168 => ?_)
                · refine lv_iload_n hx hb d_MD_readAt_175 rfl (lv_at hl 1 rfl) ?_
                  refine lv_sipush (v := iI (240)) hx hb d_MD_readAt_176 rfl ?_
                  refine di_icmp_ge (tgt := 186) hx hb d_MD_readAt_179 (by decide) ⟨by omega, by omega⟩ ⟨by omega, by omega⟩ (fun bq179 => ?_) (fun bq179 => ?_)
                  · refine lv_iload_n hx hb d_MD_readAt_186 rfl (lv_at hl 1 rfl) ?_
                    refine lv_sipush (v := iI (248)) hx hb d_MD_readAt_187 rfl ?_
                    refine di_icmp_ge (tgt := 202) hx hb d_MD_readAt_190 (by decide) ⟨by omega, by omega⟩ ⟨by omega, by omega⟩ (fun bq190 => ?_) (fun bq190 => ?_)
                    · refine lv_iconst (v := iI (0)) hx hb d_MD_readAt_202 rfl ?_
                      refine lv_istore (lv' := [(5, .int (iI 0)), (4, .int (iI (b2 true))), (3, .int (iI (gt Z k))), (0, .ref y), (1, .int (iI k)), (2, .int (iI en))]) hx hb d_MD_readAt_203 hl (by decide) rfl (fun ls hl => ?_)
                      refine lv_iload hx hb d_MD_readAt_205 (lv_at hl 0 rfl) ?_
                      refine di_if_ne (tgt := 212) hx hb d_MD_readAt_207 (by decide) ⟨by decide, by decide⟩ (fun q9 => absurd q9 (by decide)) (fun _ => ?_)
                      refine lv_iconst (v := iI (-1)) hx hb d_MD_readAt_210 rfl ?_
                      have hr9 : rdr Z en k = (-1, 1) := rd_0 hen01 (by omega)
                      exact cn_iret hx hb hr hlk hw  (⟨by rw [hr9, if_pos (show (((-1 : Int), (1 : Int)) : Int × Int).1 = -1 from rfl)], _, by rw [hr9, if_pos (show (((-1 : Int), (1 : Int)) : Int × Int).1 = -1 from rfl), List.append_nil]; exact hL⟩) (Nat.le_refl _) (Nat.le_refl _) d_MD_readAt_211
                    · refine lv_iload hx hb d_MD_readAt_193 (lv_at hl 0 rfl) ?_
                      refine di_if_ne (tgt := 202) hx hb d_MD_readAt_195 (by decide) ⟨by decide, by decide⟩ (fun _ => ?_) (fun q9 => absurd q9 (by decide))
                      refine lv_iconst (v := iI (0)) hx hb d_MD_readAt_202 rfl ?_
                      refine lv_istore (lv' := [(5, .int (iI 0)), (4, .int (iI (b2 true))), (3, .int (iI (gt Z k))), (0, .ref y), (1, .int (iI k)), (2, .int (iI en))]) hx hb d_MD_readAt_203 hl (by decide) rfl (fun ls hl => ?_)
                      refine lv_iload hx hb d_MD_readAt_205 (lv_at hl 0 rfl) ?_
                      refine di_if_ne (tgt := 212) hx hb d_MD_readAt_207 (by decide) ⟨by decide, by decide⟩ (fun q9 => absurd q9 (by decide)) (fun _ => ?_)
                      refine lv_iconst (v := iI (-1)) hx hb d_MD_readAt_210 rfl ?_
                      have hr9 : rdr Z en k = (-1, 1) := rd_0 hen01 (by omega)
                      exact cn_iret hx hb hr hlk hw  (⟨by rw [hr9, if_pos (show (((-1 : Int), (1 : Int)) : Int × Int).1 = -1 from rfl)], _, by rw [hr9, if_pos (show (((-1 : Int), (1 : Int)) : Int × Int).1 = -1 from rfl), List.append_nil]; exact hL⟩) (Nat.le_refl _) (Nat.le_refl _) d_MD_readAt_211
                  · refine lv_iconst (v := iI (2)) hx hb d_MD_readAt_182 rfl ?_
                    refine lv_goto (tgt := 203) hx hb d_MD_readAt_183 (by decide) ?_
                    refine lv_istore (lv' := [(5, .int (iI 2)), (4, .int (iI (b2 true))), (3, .int (iI (gt Z k))), (0, .ref y), (1, .int (iI k)), (2, .int (iI en))]) hx hb d_MD_readAt_203 hl (by decide) rfl (fun ls hl => ?_)
                    refine lv_iload hx hb d_MD_readAt_205 (lv_at hl 0 rfl) ?_
                    refine di_if_ne (tgt := 212) hx hb d_MD_readAt_207 (by decide) ⟨by decide, by decide⟩ (fun _ => ?_) (fun q9 => absurd q9 (by decide))
                    refine lv_aload_n hx hb d_MD_readAt_212 rfl (lv_at hl 3 rfl) ?_
                    refine lv_iload_n hx hb d_MD_readAt_213 rfl (lv_at hl 4 rfl) ?_
                    refine lv_iload hx hb d_MD_readAt_214 (lv_at hl 0 rfl) ?_
                    refine lv_iload hx hb d_MD_readAt_216 (lv_at hl 1 rfl) ?_
                    have hall := rd_all hen01 (n := 2) (Or.inr (Or.inl ⟨rfl, by omega, by omega⟩)) hz9
                    rw [hmd] at hall
                    refine cs_MD_131 X hz hw hl.1 hM.1 (c_MD_begun l G f _ y th T Y B Z M C k 2 true hk ⟨by omega, by omega⟩ ⟨si, un, bu, ma, bt, so, co, _, _, _, _, _, _, _, hM, hT, hB, hZ, hMa, hC, hY⟩) ⟨Nat.le_of_ble_eq_true rfl, Nat.le_of_ble_eq_true rfl⟩ ⟨by show 0 + 0 ≤ 0; omega, by show 0 + 0 ≤ 0; omega⟩ (Nat.le_of_ble_eq_true rfl) d_MD_readAt_218 (fun v f12 H locs hp hw hsz9 hkp9 hdm9 => ?_)
                    obtain ⟨rfl, C2, hL_f12⟩ := hp
                    refine W.eq (g2 := F0 m 221 ls [.int (iI (bgn Z k 2 true 64 0 1))]) rfl ?_
                    obtain ⟨si, un, bu, ma, bt, so, co, gsi, gun, gbu, gma, gbt, gso, gco, hM, hT, hB, hZ, hMa, hC, hY⟩ := id hL_f12
                    refine lv_istore (lv' := [(6, .int (iI (bgn Z k 2 true 64 0 1))), (5, .int (iI 2)), (4, .int (iI (b2 true))), (3, .int (iI (gt Z k))), (0, .ref y), (1, .int (iI k)), (2, .int (iI en))]) hx hb d_MD_readAt_221 hl (by decide) rfl (fun ls hl => ?_)
                    refine lv_iload hx hb d_MD_readAt_223 (lv_at hl 0 rfl) ?_
                    refine lv_iload hx hb d_MD_readAt_225 (lv_at hl 1 rfl) ?_
                    refine di_icmp_gt (tgt := 234) hx hb d_MD_readAt_227 (by decide) ⟨by omega, by omega⟩ ⟨by omega, by omega⟩ (fun bq227 => ?_) (fun bq227 => ?_)
                    · have hr8 := hall.2.1 (by omega)
                      have hrr := rdr_rng hZr hen hk.1 hk.2
                      rw [hr8] at hrr
                      have hgg := gss_rng (Z := Z) (k := k) (n := 2) ⟨by omega, by omega⟩ (fl := 0) ⟨by omega, by omega⟩
                      have hrr1 : gss Z k 2 0 < 1114112 := hrr.2.1
                      refine lv_aload_n hx hb d_MD_readAt_234 rfl (lv_at hl 4 rfl) ?_
                      refine lv_iload_n hx hb d_MD_readAt_235 rfl (lv_at hl 5 rfl) ?_
                      refine lv_iload hx hb d_MD_readAt_236 (lv_at hl 1 rfl) ?_
                      refine lv_iconst (v := iI (0)) hx hb d_MD_readAt_238 rfl ?_
                      refine cs_MD_121 X hz hw hl.1 hM.1 (c_MD_guess l G f12 _ y th T Y B Z M C2 k 2 0 hk ⟨by omega, by omega⟩ ⟨by omega, by omega⟩ ⟨si, un, bu, ma, bt, so, co, _, _, _, _, _, _, _, hM, hT, hB, hZ, hMa, hC, hY⟩) ⟨Nat.le_of_ble_eq_true rfl, Nat.le_of_ble_eq_true rfl⟩ ⟨by show 0 + 0 ≤ 0; omega, by show 0 + 0 ≤ 0; omega⟩ (Nat.le_of_ble_eq_true rfl) d_MD_readAt_239 (fun v f9 H locs hp hw hsz9 hkp9 hdm9 => ?_)
                      obtain ⟨rfl, hfe⟩ := hp
                      rw [hfe] at hw
                      refine W.eq (g2 := F0 m 242 ls [.int (iI (gss Z k 2 0))]) rfl ?_
                      refine lv_istore (lv' := [(7, .int (iI (gss Z k 2 0))), (6, .int (iI (bgn Z k 2 true 64 0 1))), (5, .int (iI 2)), (4, .int (iI (b2 true))), (3, .int (iI (gt Z k))), (0, .ref y), (1, .int (iI k)), (2, .int (iI en))]) hx hb d_MD_readAt_242 hl (by decide) rfl (fun ls hl => ?_)
                      refine lv_iload hx hb d_MD_readAt_244 (lv_at hl 0 rfl) ?_
                      refine lv_ldc (v := iI (65535)) hx hb X.own (X.hts _ mw_859) d_MD_readAt_246 ?_
                      refine di_icmp_le (tgt := 267) hx hb d_MD_readAt_248 (by decide) ⟨by omega, by omega⟩ ⟨by omega, by omega⟩ (fun bq248 => ?_) (fun bq248 => ?_)
                      · refine lv_aload_n hx hb d_MD_readAt_267 rfl (lv_at hl 5 rfl) ?_
                        refine lv_iload hx hb d_MD_readAt_268 (lv_at hl 0 rfl) ?_
                        refine lv_ldc (v := iI (65535)) hx hb X.own (X.hts _ mw_859) d_MD_readAt_270 ?_
                        refine di_icmp_le (tgt := 290) hx hb d_MD_readAt_272 (by decide) ⟨by omega, by omega⟩ ⟨by omega, by omega⟩ (fun bq272 => ?_) (fun bq272 => ?_)
                        · refine lv_iload hx hb d_MD_readAt_290 (lv_at hl 0 rfl) ?_
                          refine cs_MD_64 X hz hw hl.1 hM.1 (c_MD_make l G f12 _ y th T Y B Z M C2 (gss Z k 2 0) (by omega) ⟨si, un, bu, ma, bt, so, co, _, _, _, _, _, _, _, hM, hT, hB, hZ, hMa, hC, hY⟩) ⟨Nat.le_of_ble_eq_true rfl, Nat.le_of_ble_eq_true rfl⟩ ⟨by show 0 + 0 ≤ 0; omega, by show 0 + 0 ≤ 0; omega⟩ (Nat.le_of_ble_eq_true rfl) d_MD_readAt_292 (fun v f14 H locs hp hw hsz9 hkp9 hdm9 => ?_)
                          obtain ⟨rfl, hL_f14⟩ := hp
                          refine W.eq (g2 := F0 m 295 ls []) rfl ?_
                          obtain ⟨si, un, bu, ma, bt, so, co, gsi, gun, gbu, gma, gbt, gso, gco, hM, hT, hB, hZ, hMa, hC, hY⟩ := id hL_f14
                          refine lv_iload hx hb d_MD_readAt_295 (lv_at hl 2 rfl) ?_
                          refine lv_iconst (v := iI (1)) hx hb d_MD_readAt_297 rfl ?_
                          refine di_add hx hb d_MD_readAt_298 ?_
                          have hr9 : rdr Z en k = (gss Z k 2 0, 2 + 1) := hr8
                          have hu9 : uts ((gss Z k 2 0, 2 + 1)).1 = [gss Z k 2 0] := by show uts (gss Z k 2 0) = _; rw [uts, if_pos (by omega)]
                          exact cn_iret hx hb hr hlk hw  (⟨by rw [hr9, if_neg (show ¬ ((gss Z k 2 0, 2 + 1)).1 = -1 by show ¬ (gss Z k 2 0) = -1; omega)], _, by rw [hr9, if_neg (show ¬ ((gss Z k 2 0, 2 + 1)).1 = -1 by show ¬ (gss Z k 2 0) = -1; omega), hu9]; exact hL_f14⟩) (Nat.le_refl _) (Nat.le_refl _) d_MD_readAt_299
                        · exfalso; omega
                      · refine lv_aload_n hx hb d_MD_readAt_251 rfl (lv_at hl 5 rfl) ?_
                        refine lv_ldc (v := iI (55296)) hx hb X.own (X.hts _ mw_732) d_MD_readAt_252 ?_
                        refine lv_iload hx hb d_MD_readAt_254 (lv_at hl 0 rfl) ?_
                        refine lv_ldc (v := iI (65536)) hx hb X.own (X.hts _ mw_697) d_MD_readAt_256 ?_
                        refine di_sub hx hb d_MD_readAt_258 ?_
                        refine lv_sipush (v := iI (1024)) hx hb d_MD_readAt_259 rfl ?_
                        refine di_div hx hb d_MD_readAt_262 (by omega) (by omega) (by omega) (by omega) ?_
                        refine di_add hx hb d_MD_readAt_263 ?_
                        refine cs_MD_64 X hz hw hl.1 hM.1 (c_MD_make l G f12 _ y th T Y B Z M C2 (55296 + (gss Z k 2 0 - 65536) / 1024) (by omega) ⟨si, un, bu, ma, bt, so, co, _, _, _, _, _, _, _, hM, hT, hB, hZ, hMa, hC, hY⟩) ⟨Nat.le_of_ble_eq_true rfl, Nat.le_of_ble_eq_true rfl⟩ ⟨by show 0 + 0 ≤ 0; omega, by show 0 + 0 ≤ 0; omega⟩ (Nat.le_of_ble_eq_true rfl) d_MD_readAt_264 (fun v f14 H locs hp hw hsz9 hkp9 hdm9 => ?_)
                        obtain ⟨rfl, hL_f14⟩ := hp
                        refine W.eq (g2 := F0 m 267 ls []) rfl ?_
                        obtain ⟨si, un, bu, ma, bt, so, co, gsi, gun, gbu, gma, gbt, gso, gco, hM, hT, hB, hZ, hMa, hC, hY⟩ := id hL_f14
                        refine lv_aload_n hx hb d_MD_readAt_267 rfl (lv_at hl 5 rfl) ?_
                        refine lv_iload hx hb d_MD_readAt_268 (lv_at hl 0 rfl) ?_
                        refine lv_ldc (v := iI (65535)) hx hb X.own (X.hts _ mw_859) d_MD_readAt_270 ?_
                        refine di_icmp_le (tgt := 290) hx hb d_MD_readAt_272 (by decide) ⟨by omega, by omega⟩ ⟨by omega, by omega⟩ (fun bq272 => ?_) (fun bq272 => ?_)
                        · exfalso; omega
                        · refine lv_ldc (v := iI (56320)) hx hb X.own (X.hts _ mw_737) d_MD_readAt_275 ?_
                          refine lv_iload hx hb d_MD_readAt_277 (lv_at hl 0 rfl) ?_
                          refine lv_ldc (v := iI (65536)) hx hb X.own (X.hts _ mw_697) d_MD_readAt_279 ?_
                          refine di_sub hx hb d_MD_readAt_281 ?_
                          refine lv_sipush (v := iI (1024)) hx hb d_MD_readAt_282 rfl ?_
                          refine di_rem hx hb d_MD_readAt_285 (by omega) (by omega) (by omega) (by omega) ?_
                          refine di_add hx hb d_MD_readAt_286 ?_
                          refine lv_goto (tgt := 292) hx hb d_MD_readAt_287 (by decide) ?_
                          refine cs_MD_64 X hz hw hl.1 hM.1 (c_MD_make l G f14 _ y th T Y B Z (M ++ [55296 + (gss Z k 2 0 - 65536) / 1024]) C2 (56320 + (gss Z k 2 0 - 65536) % 1024) (by simp; omega) ⟨si, un, bu, ma, bt, so, co, _, _, _, _, _, _, _, hM, hT, hB, hZ, hMa, hC, hY⟩) ⟨Nat.le_of_ble_eq_true rfl, Nat.le_of_ble_eq_true rfl⟩ ⟨by show 0 + 0 ≤ 0; omega, by show 0 + 0 ≤ 0; omega⟩ (Nat.le_of_ble_eq_true rfl) d_MD_readAt_292 (fun v f15 H locs hp hw hsz9 hkp9 hdm9 => ?_)
                          obtain ⟨rfl, hL_f15⟩ := hp
                          refine W.eq (g2 := F0 m 295 ls []) rfl ?_
                          obtain ⟨si, un, bu, ma, bt, so, co, gsi, gun, gbu, gma, gbt, gso, gco, hM, hT, hB, hZ, hMa, hC, hY⟩ := id hL_f15
                          rw [List.append_assoc] at hL_f15
                          refine lv_iload hx hb d_MD_readAt_295 (lv_at hl 2 rfl) ?_
                          refine lv_iconst (v := iI (1)) hx hb d_MD_readAt_297 rfl ?_
                          refine di_add hx hb d_MD_readAt_298 ?_
                          have hr9 : rdr Z en k = (gss Z k 2 0, 2 + 1) := hr8
                          have hu9 : uts ((gss Z k 2 0, 2 + 1)).1 = [55296 + (gss Z k 2 0 - 65536) / 1024, 56320 + (gss Z k 2 0 - 65536) % 1024] := by show uts (gss Z k 2 0) = _; rw [uts, if_neg (by omega)]
                          exact cn_iret hx hb hr hlk hw  (⟨by rw [hr9, if_neg (show ¬ ((gss Z k 2 0, 2 + 1)).1 = -1 by show ¬ (gss Z k 2 0) = -1; omega)], _, by rw [hr9, if_neg (show ¬ ((gss Z k 2 0, 2 + 1)).1 = -1 by show ¬ (gss Z k 2 0) = -1; omega), hu9]; exact hL_f15⟩) (Nat.le_refl _) (Nat.le_refl _) d_MD_readAt_299
                    · refine lv_iload hx hb d_MD_readAt_230 (lv_at hl 0 rfl) ?_
                      refine di_neg hx hb d_MD_readAt_232 ?_
                      have hr9 : rdr Z en k = (-1, bgn Z k 2 true 64 0 1) := hall.1 (by omega)
                      exact cn_iret hx hb hr hlk hw  (⟨by rw [hr9, if_pos (show (((-1 : Int), (bgn Z k 2 true 64 0 1 : Int)) : Int × Int).1 = -1 from rfl)], _, by rw [hr9, if_pos (show (((-1 : Int), (bgn Z k 2 true 64 0 1 : Int)) : Int × Int).1 = -1 from rfl), List.append_nil]; exact hL_f12⟩) (Nat.le_refl _) (Nat.le_refl _) d_MD_readAt_233
                · refine lv_iconst (v := iI (1)) hx hb d_MD_readAt_171 rfl ?_
                  refine lv_goto (tgt := 203) hx hb d_MD_readAt_172 (by decide) ?_
                  refine lv_istore (lv' := [(5, .int (iI 1)), (4, .int (iI (b2 true))), (3, .int (iI (gt Z k))), (0, .ref y), (1, .int (iI k)), (2, .int (iI en))]) hx hb d_MD_readAt_203 hl (by decide) rfl (fun ls hl => ?_)
                  refine lv_iload hx hb d_MD_readAt_205 (lv_at hl 0 rfl) ?_
                  refine di_if_ne (tgt := 212) hx hb d_MD_readAt_207 (by decide) ⟨by decide, by decide⟩ (fun _ => ?_) (fun q9 => absurd q9 (by decide))
                  refine lv_aload_n hx hb d_MD_readAt_212 rfl (lv_at hl 3 rfl) ?_
                  refine lv_iload_n hx hb d_MD_readAt_213 rfl (lv_at hl 4 rfl) ?_
                  refine lv_iload hx hb d_MD_readAt_214 (lv_at hl 0 rfl) ?_
                  refine lv_iload hx hb d_MD_readAt_216 (lv_at hl 1 rfl) ?_
                  have hall := rd_all hen01 (n := 1) (Or.inl ⟨rfl, by omega, by omega⟩) hz9
                  rw [hmd] at hall
                  refine cs_MD_131 X hz hw hl.1 hM.1 (c_MD_begun l G f _ y th T Y B Z M C k 1 true hk ⟨by omega, by omega⟩ ⟨si, un, bu, ma, bt, so, co, _, _, _, _, _, _, _, hM, hT, hB, hZ, hMa, hC, hY⟩) ⟨Nat.le_of_ble_eq_true rfl, Nat.le_of_ble_eq_true rfl⟩ ⟨by show 0 + 0 ≤ 0; omega, by show 0 + 0 ≤ 0; omega⟩ (Nat.le_of_ble_eq_true rfl) d_MD_readAt_218 (fun v f12 H locs hp hw hsz9 hkp9 hdm9 => ?_)
                  obtain ⟨rfl, C2, hL_f12⟩ := hp
                  refine W.eq (g2 := F0 m 221 ls [.int (iI (bgn Z k 1 true 64 0 1))]) rfl ?_
                  obtain ⟨si, un, bu, ma, bt, so, co, gsi, gun, gbu, gma, gbt, gso, gco, hM, hT, hB, hZ, hMa, hC, hY⟩ := id hL_f12
                  refine lv_istore (lv' := [(6, .int (iI (bgn Z k 1 true 64 0 1))), (5, .int (iI 1)), (4, .int (iI (b2 true))), (3, .int (iI (gt Z k))), (0, .ref y), (1, .int (iI k)), (2, .int (iI en))]) hx hb d_MD_readAt_221 hl (by decide) rfl (fun ls hl => ?_)
                  refine lv_iload hx hb d_MD_readAt_223 (lv_at hl 0 rfl) ?_
                  refine lv_iload hx hb d_MD_readAt_225 (lv_at hl 1 rfl) ?_
                  refine di_icmp_gt (tgt := 234) hx hb d_MD_readAt_227 (by decide) ⟨by omega, by omega⟩ ⟨by omega, by omega⟩ (fun bq227 => ?_) (fun bq227 => ?_)
                  · have hr8 := hall.2.1 (by omega)
                    have hrr := rdr_rng hZr hen hk.1 hk.2
                    rw [hr8] at hrr
                    have hgg := gss_rng (Z := Z) (k := k) (n := 1) ⟨by omega, by omega⟩ (fl := 0) ⟨by omega, by omega⟩
                    have hrr1 : gss Z k 1 0 < 1114112 := hrr.2.1
                    refine lv_aload_n hx hb d_MD_readAt_234 rfl (lv_at hl 4 rfl) ?_
                    refine lv_iload_n hx hb d_MD_readAt_235 rfl (lv_at hl 5 rfl) ?_
                    refine lv_iload hx hb d_MD_readAt_236 (lv_at hl 1 rfl) ?_
                    refine lv_iconst (v := iI (0)) hx hb d_MD_readAt_238 rfl ?_
                    refine cs_MD_121 X hz hw hl.1 hM.1 (c_MD_guess l G f12 _ y th T Y B Z M C2 k 1 0 hk ⟨by omega, by omega⟩ ⟨by omega, by omega⟩ ⟨si, un, bu, ma, bt, so, co, _, _, _, _, _, _, _, hM, hT, hB, hZ, hMa, hC, hY⟩) ⟨Nat.le_of_ble_eq_true rfl, Nat.le_of_ble_eq_true rfl⟩ ⟨by show 0 + 0 ≤ 0; omega, by show 0 + 0 ≤ 0; omega⟩ (Nat.le_of_ble_eq_true rfl) d_MD_readAt_239 (fun v f9 H locs hp hw hsz9 hkp9 hdm9 => ?_)
                    obtain ⟨rfl, hfe⟩ := hp
                    rw [hfe] at hw
                    refine W.eq (g2 := F0 m 242 ls [.int (iI (gss Z k 1 0))]) rfl ?_
                    refine lv_istore (lv' := [(7, .int (iI (gss Z k 1 0))), (6, .int (iI (bgn Z k 1 true 64 0 1))), (5, .int (iI 1)), (4, .int (iI (b2 true))), (3, .int (iI (gt Z k))), (0, .ref y), (1, .int (iI k)), (2, .int (iI en))]) hx hb d_MD_readAt_242 hl (by decide) rfl (fun ls hl => ?_)
                    refine lv_iload hx hb d_MD_readAt_244 (lv_at hl 0 rfl) ?_
                    refine lv_ldc (v := iI (65535)) hx hb X.own (X.hts _ mw_859) d_MD_readAt_246 ?_
                    refine di_icmp_le (tgt := 267) hx hb d_MD_readAt_248 (by decide) ⟨by omega, by omega⟩ ⟨by omega, by omega⟩ (fun bq248 => ?_) (fun bq248 => ?_)
                    · refine lv_aload_n hx hb d_MD_readAt_267 rfl (lv_at hl 5 rfl) ?_
                      refine lv_iload hx hb d_MD_readAt_268 (lv_at hl 0 rfl) ?_
                      refine lv_ldc (v := iI (65535)) hx hb X.own (X.hts _ mw_859) d_MD_readAt_270 ?_
                      refine di_icmp_le (tgt := 290) hx hb d_MD_readAt_272 (by decide) ⟨by omega, by omega⟩ ⟨by omega, by omega⟩ (fun bq272 => ?_) (fun bq272 => ?_)
                      · refine lv_iload hx hb d_MD_readAt_290 (lv_at hl 0 rfl) ?_
                        refine cs_MD_64 X hz hw hl.1 hM.1 (c_MD_make l G f12 _ y th T Y B Z M C2 (gss Z k 1 0) (by omega) ⟨si, un, bu, ma, bt, so, co, _, _, _, _, _, _, _, hM, hT, hB, hZ, hMa, hC, hY⟩) ⟨Nat.le_of_ble_eq_true rfl, Nat.le_of_ble_eq_true rfl⟩ ⟨by show 0 + 0 ≤ 0; omega, by show 0 + 0 ≤ 0; omega⟩ (Nat.le_of_ble_eq_true rfl) d_MD_readAt_292 (fun v f14 H locs hp hw hsz9 hkp9 hdm9 => ?_)
                        obtain ⟨rfl, hL_f14⟩ := hp
                        refine W.eq (g2 := F0 m 295 ls []) rfl ?_
                        obtain ⟨si, un, bu, ma, bt, so, co, gsi, gun, gbu, gma, gbt, gso, gco, hM, hT, hB, hZ, hMa, hC, hY⟩ := id hL_f14
                        refine lv_iload hx hb d_MD_readAt_295 (lv_at hl 2 rfl) ?_
                        refine lv_iconst (v := iI (1)) hx hb d_MD_readAt_297 rfl ?_
                        refine di_add hx hb d_MD_readAt_298 ?_
                        have hr9 : rdr Z en k = (gss Z k 1 0, 1 + 1) := hr8
                        have hu9 : uts ((gss Z k 1 0, 1 + 1)).1 = [gss Z k 1 0] := by show uts (gss Z k 1 0) = _; rw [uts, if_pos (by omega)]
                        exact cn_iret hx hb hr hlk hw  (⟨by rw [hr9, if_neg (show ¬ ((gss Z k 1 0, 1 + 1)).1 = -1 by show ¬ (gss Z k 1 0) = -1; omega)], _, by rw [hr9, if_neg (show ¬ ((gss Z k 1 0, 1 + 1)).1 = -1 by show ¬ (gss Z k 1 0) = -1; omega), hu9]; exact hL_f14⟩) (Nat.le_refl _) (Nat.le_refl _) d_MD_readAt_299
                      · exfalso; omega
                    · refine lv_aload_n hx hb d_MD_readAt_251 rfl (lv_at hl 5 rfl) ?_
                      refine lv_ldc (v := iI (55296)) hx hb X.own (X.hts _ mw_732) d_MD_readAt_252 ?_
                      refine lv_iload hx hb d_MD_readAt_254 (lv_at hl 0 rfl) ?_
                      refine lv_ldc (v := iI (65536)) hx hb X.own (X.hts _ mw_697) d_MD_readAt_256 ?_
                      refine di_sub hx hb d_MD_readAt_258 ?_
                      refine lv_sipush (v := iI (1024)) hx hb d_MD_readAt_259 rfl ?_
                      refine di_div hx hb d_MD_readAt_262 (by omega) (by omega) (by omega) (by omega) ?_
                      refine di_add hx hb d_MD_readAt_263 ?_
                      refine cs_MD_64 X hz hw hl.1 hM.1 (c_MD_make l G f12 _ y th T Y B Z M C2 (55296 + (gss Z k 1 0 - 65536) / 1024) (by omega) ⟨si, un, bu, ma, bt, so, co, _, _, _, _, _, _, _, hM, hT, hB, hZ, hMa, hC, hY⟩) ⟨Nat.le_of_ble_eq_true rfl, Nat.le_of_ble_eq_true rfl⟩ ⟨by show 0 + 0 ≤ 0; omega, by show 0 + 0 ≤ 0; omega⟩ (Nat.le_of_ble_eq_true rfl) d_MD_readAt_264 (fun v f14 H locs hp hw hsz9 hkp9 hdm9 => ?_)
                      obtain ⟨rfl, hL_f14⟩ := hp
                      refine W.eq (g2 := F0 m 267 ls []) rfl ?_
                      obtain ⟨si, un, bu, ma, bt, so, co, gsi, gun, gbu, gma, gbt, gso, gco, hM, hT, hB, hZ, hMa, hC, hY⟩ := id hL_f14
                      refine lv_aload_n hx hb d_MD_readAt_267 rfl (lv_at hl 5 rfl) ?_
                      refine lv_iload hx hb d_MD_readAt_268 (lv_at hl 0 rfl) ?_
                      refine lv_ldc (v := iI (65535)) hx hb X.own (X.hts _ mw_859) d_MD_readAt_270 ?_
                      refine di_icmp_le (tgt := 290) hx hb d_MD_readAt_272 (by decide) ⟨by omega, by omega⟩ ⟨by omega, by omega⟩ (fun bq272 => ?_) (fun bq272 => ?_)
                      · exfalso; omega
                      · refine lv_ldc (v := iI (56320)) hx hb X.own (X.hts _ mw_737) d_MD_readAt_275 ?_
                        refine lv_iload hx hb d_MD_readAt_277 (lv_at hl 0 rfl) ?_
                        refine lv_ldc (v := iI (65536)) hx hb X.own (X.hts _ mw_697) d_MD_readAt_279 ?_
                        refine di_sub hx hb d_MD_readAt_281 ?_
                        refine lv_sipush (v := iI (1024)) hx hb d_MD_readAt_282 rfl ?_
                        refine di_rem hx hb d_MD_readAt_285 (by omega) (by omega) (by omega) (by omega) ?_
                        refine di_add hx hb d_MD_readAt_286 ?_
                        refine lv_goto (tgt := 292) hx hb d_MD_readAt_287 (by decide) ?_
                        refine cs_MD_64 X hz hw hl.1 hM.1 (c_MD_make l G f14 _ y th T Y B Z (M ++ [55296 + (gss Z k 1 0 - 65536) / 1024]) C2 (56320 + (gss Z k 1 0 - 65536) % 1024) (by simp; omega) ⟨si, un, bu, ma, bt, so, co, _, _, _, _, _, _, _, hM, hT, hB, hZ, hMa, hC, hY⟩) ⟨Nat.le_of_ble_eq_true rfl, Nat.le_of_ble_eq_true rfl⟩ ⟨by show 0 + 0 ≤ 0; omega, by show 0 + 0 ≤ 0; omega⟩ (Nat.le_of_ble_eq_true rfl) d_MD_readAt_292 (fun v f15 H locs hp hw hsz9 hkp9 hdm9 => ?_)
                        obtain ⟨rfl, hL_f15⟩ := hp
                        refine W.eq (g2 := F0 m 295 ls []) rfl ?_
                        obtain ⟨si, un, bu, ma, bt, so, co, gsi, gun, gbu, gma, gbt, gso, gco, hM, hT, hB, hZ, hMa, hC, hY⟩ := id hL_f15
                        rw [List.append_assoc] at hL_f15
                        refine lv_iload hx hb d_MD_readAt_295 (lv_at hl 2 rfl) ?_
                        refine lv_iconst (v := iI (1)) hx hb d_MD_readAt_297 rfl ?_
                        refine di_add hx hb d_MD_readAt_298 ?_
                        have hr9 : rdr Z en k = (gss Z k 1 0, 1 + 1) := hr8
                        have hu9 : uts ((gss Z k 1 0, 1 + 1)).1 = [55296 + (gss Z k 1 0 - 65536) / 1024, 56320 + (gss Z k 1 0 - 65536) % 1024] := by show uts (gss Z k 1 0) = _; rw [uts, if_neg (by omega)]
                        exact cn_iret hx hb hr hlk hw  (⟨by rw [hr9, if_neg (show ¬ ((gss Z k 1 0, 1 + 1)).1 = -1 by show ¬ (gss Z k 1 0) = -1; omega)], _, by rw [hr9, if_neg (show ¬ ((gss Z k 1 0, 1 + 1)).1 = -1 by show ¬ (gss Z k 1 0) = -1; omega), hu9]; exact hL_f15⟩) (Nat.le_refl _) (Nat.le_refl _) d_MD_readAt_299
                  · refine lv_iload hx hb d_MD_readAt_230 (lv_at hl 0 rfl) ?_
                    refine di_neg hx hb d_MD_readAt_232 ?_
                    have hr9 : rdr Z en k = (-1, bgn Z k 1 true 64 0 1) := hall.1 (by omega)
                    exact cn_iret hx hb hr hlk hw  (⟨by rw [hr9, if_pos (show (((-1 : Int), (bgn Z k 1 true 64 0 1 : Int)) : Int × Int).1 = -1 from rfl)], _, by rw [hr9, if_pos (show (((-1 : Int), (bgn Z k 1 true 64 0 1 : Int)) : Int × Int).1 = -1 from rfl), List.append_nil]; exact hL_f12⟩) (Nat.le_refl _) (Nat.le_refl _) d_MD_readAt_233
              · refine lv_iconst (v := iI (0)) hx hb d_MD_readAt_160 rfl ?_
                refine lv_goto (tgt := 203) hx hb d_MD_readAt_161 (by decide) ?_
                refine lv_istore (lv' := [(5, .int (iI 0)), (4, .int (iI (b2 true))), (3, .int (iI (gt Z k))), (0, .ref y), (1, .int (iI k)), (2, .int (iI en))]) hx hb d_MD_readAt_203 hl (by decide) rfl (fun ls hl => ?_)
                refine lv_iload hx hb d_MD_readAt_205 (lv_at hl 0 rfl) ?_
                refine di_if_ne (tgt := 212) hx hb d_MD_readAt_207 (by decide) ⟨by decide, by decide⟩ (fun q9 => absurd q9 (by decide)) (fun _ => ?_)
                refine lv_iconst (v := iI (-1)) hx hb d_MD_readAt_210 rfl ?_
                have hr9 : rdr Z en k = (-1, 1) := rd_0 hen01 (by omega)
                exact cn_iret hx hb hr hlk hw  (⟨by rw [hr9, if_pos (show (((-1 : Int), (1 : Int)) : Int × Int).1 = -1 from rfl)], _, by rw [hr9, if_pos (show (((-1 : Int), (1 : Int)) : Int × Int).1 = -1 from rfl), List.append_nil]; exact hL⟩) (Nat.le_refl _) (Nat.le_refl _) d_MD_readAt_211
            · refine lv_iload_n hx hb d_MD_readAt_122 rfl (lv_at hl 3 rfl) ?_
              refine lv_iconst (v := iI (1)) hx hb d_MD_readAt_123 rfl ?_
              refine di_add hx hb d_MD_readAt_124 ?_
              refine lv_aload_n hx hb d_MD_readAt_125 rfl (lv_at hl 2 rfl) ?_
              refine gf_MD_112_MD X hw hM.1 d_MD_readAt_126 ?_
              refine di_icmp_ge (tgt := 153) hx hb d_MD_readAt_129 (by decide) ⟨by omega, by omega⟩ ⟨by omega, by omega⟩ (fun bq129 => ?_) (fun bq129 => ?_)
              · have hz9 : ¬ (en = 1 ∧ gt Z k = 192 ∧ gt Z (k + 1) = 128) := fun q => by have q9 := q.2.2; rw [gt_out (us := Z) (k := k + 1) (by omega)] at q9; omega
                refine lv_iload_n hx hb d_MD_readAt_153 rfl (lv_at hl 1 rfl) ?_
                refine lv_sipush (v := iI (192)) hx hb d_MD_readAt_154 rfl ?_
                refine di_icmp_ge (tgt := 164) hx hb d_MD_readAt_157 (by decide) ⟨by omega, by omega⟩ ⟨by omega, by omega⟩ (fun bq157 => ?_) (fun bq157 => ?_)
                · refine lv_iload_n hx hb d_MD_readAt_164 rfl (lv_at hl 1 rfl) ?_
                  refine lv_sipush (v := iI (224)) hx hb d_MD_readAt_165 rfl ?_
                  refine di_icmp_ge (tgt := 175) hx hb d_MD_readAt_168 (by decide) ⟨by omega, by omega⟩ ⟨by omega, by omega⟩ (fun bq168 => ?_) (fun bq168 => ?_)
                  · refine lv_iload_n hx hb d_MD_readAt_175 rfl (lv_at hl 1 rfl) ?_
                    refine lv_sipush (v := iI (240)) hx hb d_MD_readAt_176 rfl ?_
                    refine di_icmp_ge (tgt := 186) hx hb d_MD_readAt_179 (by decide) ⟨by omega, by omega⟩ ⟨by omega, by omega⟩ (fun bq179 => ?_) (fun bq179 => ?_)
                    · refine lv_iload_n hx hb d_MD_readAt_186 rfl (lv_at hl 1 rfl) ?_
                      refine lv_sipush (v := iI (248)) hx hb d_MD_readAt_187 rfl ?_
                      refine di_icmp_ge (tgt := 202) hx hb d_MD_readAt_190 (by decide) ⟨by omega, by omega⟩ ⟨by omega, by omega⟩ (fun bq190 => ?_) (fun bq190 => ?_)
                      · refine lv_iconst (v := iI (0)) hx hb d_MD_readAt_202 rfl ?_
                        refine lv_istore (lv' := [(5, .int (iI 0)), (4, .int (iI (b2 true))), (3, .int (iI (gt Z k))), (0, .ref y), (1, .int (iI k)), (2, .int (iI en))]) hx hb d_MD_readAt_203 hl (by decide) rfl (fun ls hl => ?_)
                        refine lv_iload hx hb d_MD_readAt_205 (lv_at hl 0 rfl) ?_
                        refine di_if_ne (tgt := 212) hx hb d_MD_readAt_207 (by decide) ⟨by decide, by decide⟩ (fun q9 => absurd q9 (by decide)) (fun _ => ?_)
                        refine lv_iconst (v := iI (-1)) hx hb d_MD_readAt_210 rfl ?_
                        have hr9 : rdr Z en k = (-1, 1) := rd_0 hen01 (by omega)
                        exact cn_iret hx hb hr hlk hw  (⟨by rw [hr9, if_pos (show (((-1 : Int), (1 : Int)) : Int × Int).1 = -1 from rfl)], _, by rw [hr9, if_pos (show (((-1 : Int), (1 : Int)) : Int × Int).1 = -1 from rfl), List.append_nil]; exact hL⟩) (Nat.le_refl _) (Nat.le_refl _) d_MD_readAt_211
                      · refine lv_iload hx hb d_MD_readAt_193 (lv_at hl 0 rfl) ?_
                        refine di_if_ne (tgt := 202) hx hb d_MD_readAt_195 (by decide) ⟨by decide, by decide⟩ (fun _ => ?_) (fun q9 => absurd q9 (by decide))
                        refine lv_iconst (v := iI (0)) hx hb d_MD_readAt_202 rfl ?_
                        refine lv_istore (lv' := [(5, .int (iI 0)), (4, .int (iI (b2 true))), (3, .int (iI (gt Z k))), (0, .ref y), (1, .int (iI k)), (2, .int (iI en))]) hx hb d_MD_readAt_203 hl (by decide) rfl (fun ls hl => ?_)
                        refine lv_iload hx hb d_MD_readAt_205 (lv_at hl 0 rfl) ?_
                        refine di_if_ne (tgt := 212) hx hb d_MD_readAt_207 (by decide) ⟨by decide, by decide⟩ (fun q9 => absurd q9 (by decide)) (fun _ => ?_)
                        refine lv_iconst (v := iI (-1)) hx hb d_MD_readAt_210 rfl ?_
                        have hr9 : rdr Z en k = (-1, 1) := rd_0 hen01 (by omega)
                        exact cn_iret hx hb hr hlk hw  (⟨by rw [hr9, if_pos (show (((-1 : Int), (1 : Int)) : Int × Int).1 = -1 from rfl)], _, by rw [hr9, if_pos (show (((-1 : Int), (1 : Int)) : Int × Int).1 = -1 from rfl), List.append_nil]; exact hL⟩) (Nat.le_refl _) (Nat.le_refl _) d_MD_readAt_211
                    · refine lv_iconst (v := iI (2)) hx hb d_MD_readAt_182 rfl ?_
                      refine lv_goto (tgt := 203) hx hb d_MD_readAt_183 (by decide) ?_
                      refine lv_istore (lv' := [(5, .int (iI 2)), (4, .int (iI (b2 true))), (3, .int (iI (gt Z k))), (0, .ref y), (1, .int (iI k)), (2, .int (iI en))]) hx hb d_MD_readAt_203 hl (by decide) rfl (fun ls hl => ?_)
                      refine lv_iload hx hb d_MD_readAt_205 (lv_at hl 0 rfl) ?_
                      refine di_if_ne (tgt := 212) hx hb d_MD_readAt_207 (by decide) ⟨by decide, by decide⟩ (fun _ => ?_) (fun q9 => absurd q9 (by decide))
                      refine lv_aload_n hx hb d_MD_readAt_212 rfl (lv_at hl 3 rfl) ?_
                      refine lv_iload_n hx hb d_MD_readAt_213 rfl (lv_at hl 4 rfl) ?_
                      refine lv_iload hx hb d_MD_readAt_214 (lv_at hl 0 rfl) ?_
                      refine lv_iload hx hb d_MD_readAt_216 (lv_at hl 1 rfl) ?_
                      have hall := rd_all hen01 (n := 2) (Or.inr (Or.inl ⟨rfl, by omega, by omega⟩)) hz9
                      rw [hmd] at hall
                      refine cs_MD_131 X hz hw hl.1 hM.1 (c_MD_begun l G f _ y th T Y B Z M C k 2 true hk ⟨by omega, by omega⟩ ⟨si, un, bu, ma, bt, so, co, _, _, _, _, _, _, _, hM, hT, hB, hZ, hMa, hC, hY⟩) ⟨Nat.le_of_ble_eq_true rfl, Nat.le_of_ble_eq_true rfl⟩ ⟨by show 0 + 0 ≤ 0; omega, by show 0 + 0 ≤ 0; omega⟩ (Nat.le_of_ble_eq_true rfl) d_MD_readAt_218 (fun v f12 H locs hp hw hsz9 hkp9 hdm9 => ?_)
                      obtain ⟨rfl, C2, hL_f12⟩ := hp
                      refine W.eq (g2 := F0 m 221 ls [.int (iI (bgn Z k 2 true 64 0 1))]) rfl ?_
                      obtain ⟨si, un, bu, ma, bt, so, co, gsi, gun, gbu, gma, gbt, gso, gco, hM, hT, hB, hZ, hMa, hC, hY⟩ := id hL_f12
                      refine lv_istore (lv' := [(6, .int (iI (bgn Z k 2 true 64 0 1))), (5, .int (iI 2)), (4, .int (iI (b2 true))), (3, .int (iI (gt Z k))), (0, .ref y), (1, .int (iI k)), (2, .int (iI en))]) hx hb d_MD_readAt_221 hl (by decide) rfl (fun ls hl => ?_)
                      refine lv_iload hx hb d_MD_readAt_223 (lv_at hl 0 rfl) ?_
                      refine lv_iload hx hb d_MD_readAt_225 (lv_at hl 1 rfl) ?_
                      refine di_icmp_gt (tgt := 234) hx hb d_MD_readAt_227 (by decide) ⟨by omega, by omega⟩ ⟨by omega, by omega⟩ (fun bq227 => ?_) (fun bq227 => ?_)
                      · have hr8 := hall.2.1 (by omega)
                        have hrr := rdr_rng hZr hen hk.1 hk.2
                        rw [hr8] at hrr
                        have hgg := gss_rng (Z := Z) (k := k) (n := 2) ⟨by omega, by omega⟩ (fl := 0) ⟨by omega, by omega⟩
                        have hrr1 : gss Z k 2 0 < 1114112 := hrr.2.1
                        refine lv_aload_n hx hb d_MD_readAt_234 rfl (lv_at hl 4 rfl) ?_
                        refine lv_iload_n hx hb d_MD_readAt_235 rfl (lv_at hl 5 rfl) ?_
                        refine lv_iload hx hb d_MD_readAt_236 (lv_at hl 1 rfl) ?_
                        refine lv_iconst (v := iI (0)) hx hb d_MD_readAt_238 rfl ?_
                        refine cs_MD_121 X hz hw hl.1 hM.1 (c_MD_guess l G f12 _ y th T Y B Z M C2 k 2 0 hk ⟨by omega, by omega⟩ ⟨by omega, by omega⟩ ⟨si, un, bu, ma, bt, so, co, _, _, _, _, _, _, _, hM, hT, hB, hZ, hMa, hC, hY⟩) ⟨Nat.le_of_ble_eq_true rfl, Nat.le_of_ble_eq_true rfl⟩ ⟨by show 0 + 0 ≤ 0; omega, by show 0 + 0 ≤ 0; omega⟩ (Nat.le_of_ble_eq_true rfl) d_MD_readAt_239 (fun v f9 H locs hp hw hsz9 hkp9 hdm9 => ?_)
                        obtain ⟨rfl, hfe⟩ := hp
                        rw [hfe] at hw
                        refine W.eq (g2 := F0 m 242 ls [.int (iI (gss Z k 2 0))]) rfl ?_
                        refine lv_istore (lv' := [(7, .int (iI (gss Z k 2 0))), (6, .int (iI (bgn Z k 2 true 64 0 1))), (5, .int (iI 2)), (4, .int (iI (b2 true))), (3, .int (iI (gt Z k))), (0, .ref y), (1, .int (iI k)), (2, .int (iI en))]) hx hb d_MD_readAt_242 hl (by decide) rfl (fun ls hl => ?_)
                        refine lv_iload hx hb d_MD_readAt_244 (lv_at hl 0 rfl) ?_
                        refine lv_ldc (v := iI (65535)) hx hb X.own (X.hts _ mw_859) d_MD_readAt_246 ?_
                        refine di_icmp_le (tgt := 267) hx hb d_MD_readAt_248 (by decide) ⟨by omega, by omega⟩ ⟨by omega, by omega⟩ (fun bq248 => ?_) (fun bq248 => ?_)
                        · refine lv_aload_n hx hb d_MD_readAt_267 rfl (lv_at hl 5 rfl) ?_
                          refine lv_iload hx hb d_MD_readAt_268 (lv_at hl 0 rfl) ?_
                          refine lv_ldc (v := iI (65535)) hx hb X.own (X.hts _ mw_859) d_MD_readAt_270 ?_
                          refine di_icmp_le (tgt := 290) hx hb d_MD_readAt_272 (by decide) ⟨by omega, by omega⟩ ⟨by omega, by omega⟩ (fun bq272 => ?_) (fun bq272 => ?_)
                          · refine lv_iload hx hb d_MD_readAt_290 (lv_at hl 0 rfl) ?_
                            refine cs_MD_64 X hz hw hl.1 hM.1 (c_MD_make l G f12 _ y th T Y B Z M C2 (gss Z k 2 0) (by omega) ⟨si, un, bu, ma, bt, so, co, _, _, _, _, _, _, _, hM, hT, hB, hZ, hMa, hC, hY⟩) ⟨Nat.le_of_ble_eq_true rfl, Nat.le_of_ble_eq_true rfl⟩ ⟨by show 0 + 0 ≤ 0; omega, by show 0 + 0 ≤ 0; omega⟩ (Nat.le_of_ble_eq_true rfl) d_MD_readAt_292 (fun v f14 H locs hp hw hsz9 hkp9 hdm9 => ?_)
                            obtain ⟨rfl, hL_f14⟩ := hp
                            refine W.eq (g2 := F0 m 295 ls []) rfl ?_
                            obtain ⟨si, un, bu, ma, bt, so, co, gsi, gun, gbu, gma, gbt, gso, gco, hM, hT, hB, hZ, hMa, hC, hY⟩ := id hL_f14
                            refine lv_iload hx hb d_MD_readAt_295 (lv_at hl 2 rfl) ?_
                            refine lv_iconst (v := iI (1)) hx hb d_MD_readAt_297 rfl ?_
                            refine di_add hx hb d_MD_readAt_298 ?_
                            have hr9 : rdr Z en k = (gss Z k 2 0, 2 + 1) := hr8
                            have hu9 : uts ((gss Z k 2 0, 2 + 1)).1 = [gss Z k 2 0] := by show uts (gss Z k 2 0) = _; rw [uts, if_pos (by omega)]
                            exact cn_iret hx hb hr hlk hw  (⟨by rw [hr9, if_neg (show ¬ ((gss Z k 2 0, 2 + 1)).1 = -1 by show ¬ (gss Z k 2 0) = -1; omega)], _, by rw [hr9, if_neg (show ¬ ((gss Z k 2 0, 2 + 1)).1 = -1 by show ¬ (gss Z k 2 0) = -1; omega), hu9]; exact hL_f14⟩) (Nat.le_refl _) (Nat.le_refl _) d_MD_readAt_299
                          · exfalso; omega
                        · refine lv_aload_n hx hb d_MD_readAt_251 rfl (lv_at hl 5 rfl) ?_
                          refine lv_ldc (v := iI (55296)) hx hb X.own (X.hts _ mw_732) d_MD_readAt_252 ?_
                          refine lv_iload hx hb d_MD_readAt_254 (lv_at hl 0 rfl) ?_
                          refine lv_ldc (v := iI (65536)) hx hb X.own (X.hts _ mw_697) d_MD_readAt_256 ?_
                          refine di_sub hx hb d_MD_readAt_258 ?_
                          refine lv_sipush (v := iI (1024)) hx hb d_MD_readAt_259 rfl ?_
                          refine di_div hx hb d_MD_readAt_262 (by omega) (by omega) (by omega) (by omega) ?_
                          refine di_add hx hb d_MD_readAt_263 ?_
                          refine cs_MD_64 X hz hw hl.1 hM.1 (c_MD_make l G f12 _ y th T Y B Z M C2 (55296 + (gss Z k 2 0 - 65536) / 1024) (by omega) ⟨si, un, bu, ma, bt, so, co, _, _, _, _, _, _, _, hM, hT, hB, hZ, hMa, hC, hY⟩) ⟨Nat.le_of_ble_eq_true rfl, Nat.le_of_ble_eq_true rfl⟩ ⟨by show 0 + 0 ≤ 0; omega, by show 0 + 0 ≤ 0; omega⟩ (Nat.le_of_ble_eq_true rfl) d_MD_readAt_264 (fun v f14 H locs hp hw hsz9 hkp9 hdm9 => ?_)
                          obtain ⟨rfl, hL_f14⟩ := hp
                          refine W.eq (g2 := F0 m 267 ls []) rfl ?_
                          obtain ⟨si, un, bu, ma, bt, so, co, gsi, gun, gbu, gma, gbt, gso, gco, hM, hT, hB, hZ, hMa, hC, hY⟩ := id hL_f14
                          refine lv_aload_n hx hb d_MD_readAt_267 rfl (lv_at hl 5 rfl) ?_
                          refine lv_iload hx hb d_MD_readAt_268 (lv_at hl 0 rfl) ?_
                          refine lv_ldc (v := iI (65535)) hx hb X.own (X.hts _ mw_859) d_MD_readAt_270 ?_
                          refine di_icmp_le (tgt := 290) hx hb d_MD_readAt_272 (by decide) ⟨by omega, by omega⟩ ⟨by omega, by omega⟩ (fun bq272 => ?_) (fun bq272 => ?_)
                          · exfalso; omega
                          · refine lv_ldc (v := iI (56320)) hx hb X.own (X.hts _ mw_737) d_MD_readAt_275 ?_
                            refine lv_iload hx hb d_MD_readAt_277 (lv_at hl 0 rfl) ?_
                            refine lv_ldc (v := iI (65536)) hx hb X.own (X.hts _ mw_697) d_MD_readAt_279 ?_
                            refine di_sub hx hb d_MD_readAt_281 ?_
                            refine lv_sipush (v := iI (1024)) hx hb d_MD_readAt_282 rfl ?_
                            refine di_rem hx hb d_MD_readAt_285 (by omega) (by omega) (by omega) (by omega) ?_
                            refine di_add hx hb d_MD_readAt_286 ?_
                            refine lv_goto (tgt := 292) hx hb d_MD_readAt_287 (by decide) ?_
                            refine cs_MD_64 X hz hw hl.1 hM.1 (c_MD_make l G f14 _ y th T Y B Z (M ++ [55296 + (gss Z k 2 0 - 65536) / 1024]) C2 (56320 + (gss Z k 2 0 - 65536) % 1024) (by simp; omega) ⟨si, un, bu, ma, bt, so, co, _, _, _, _, _, _, _, hM, hT, hB, hZ, hMa, hC, hY⟩) ⟨Nat.le_of_ble_eq_true rfl, Nat.le_of_ble_eq_true rfl⟩ ⟨by show 0 + 0 ≤ 0; omega, by show 0 + 0 ≤ 0; omega⟩ (Nat.le_of_ble_eq_true rfl) d_MD_readAt_292 (fun v f15 H locs hp hw hsz9 hkp9 hdm9 => ?_)
                            obtain ⟨rfl, hL_f15⟩ := hp
                            refine W.eq (g2 := F0 m 295 ls []) rfl ?_
                            obtain ⟨si, un, bu, ma, bt, so, co, gsi, gun, gbu, gma, gbt, gso, gco, hM, hT, hB, hZ, hMa, hC, hY⟩ := id hL_f15
                            rw [List.append_assoc] at hL_f15
                            refine lv_iload hx hb d_MD_readAt_295 (lv_at hl 2 rfl) ?_
                            refine lv_iconst (v := iI (1)) hx hb d_MD_readAt_297 rfl ?_
                            refine di_add hx hb d_MD_readAt_298 ?_
                            have hr9 : rdr Z en k = (gss Z k 2 0, 2 + 1) := hr8
                            have hu9 : uts ((gss Z k 2 0, 2 + 1)).1 = [55296 + (gss Z k 2 0 - 65536) / 1024, 56320 + (gss Z k 2 0 - 65536) % 1024] := by show uts (gss Z k 2 0) = _; rw [uts, if_neg (by omega)]
                            exact cn_iret hx hb hr hlk hw  (⟨by rw [hr9, if_neg (show ¬ ((gss Z k 2 0, 2 + 1)).1 = -1 by show ¬ (gss Z k 2 0) = -1; omega)], _, by rw [hr9, if_neg (show ¬ ((gss Z k 2 0, 2 + 1)).1 = -1 by show ¬ (gss Z k 2 0) = -1; omega), hu9]; exact hL_f15⟩) (Nat.le_refl _) (Nat.le_refl _) d_MD_readAt_299
                      · refine lv_iload hx hb d_MD_readAt_230 (lv_at hl 0 rfl) ?_
                        refine di_neg hx hb d_MD_readAt_232 ?_
                        have hr9 : rdr Z en k = (-1, bgn Z k 2 true 64 0 1) := hall.1 (by omega)
                        exact cn_iret hx hb hr hlk hw  (⟨by rw [hr9, if_pos (show (((-1 : Int), (bgn Z k 2 true 64 0 1 : Int)) : Int × Int).1 = -1 from rfl)], _, by rw [hr9, if_pos (show (((-1 : Int), (bgn Z k 2 true 64 0 1 : Int)) : Int × Int).1 = -1 from rfl), List.append_nil]; exact hL_f12⟩) (Nat.le_refl _) (Nat.le_refl _) d_MD_readAt_233
                  · refine lv_iconst (v := iI (1)) hx hb d_MD_readAt_171 rfl ?_
                    refine lv_goto (tgt := 203) hx hb d_MD_readAt_172 (by decide) ?_
                    refine lv_istore (lv' := [(5, .int (iI 1)), (4, .int (iI (b2 true))), (3, .int (iI (gt Z k))), (0, .ref y), (1, .int (iI k)), (2, .int (iI en))]) hx hb d_MD_readAt_203 hl (by decide) rfl (fun ls hl => ?_)
                    refine lv_iload hx hb d_MD_readAt_205 (lv_at hl 0 rfl) ?_
                    refine di_if_ne (tgt := 212) hx hb d_MD_readAt_207 (by decide) ⟨by decide, by decide⟩ (fun _ => ?_) (fun q9 => absurd q9 (by decide))
                    refine lv_aload_n hx hb d_MD_readAt_212 rfl (lv_at hl 3 rfl) ?_
                    refine lv_iload_n hx hb d_MD_readAt_213 rfl (lv_at hl 4 rfl) ?_
                    refine lv_iload hx hb d_MD_readAt_214 (lv_at hl 0 rfl) ?_
                    refine lv_iload hx hb d_MD_readAt_216 (lv_at hl 1 rfl) ?_
                    have hall := rd_all hen01 (n := 1) (Or.inl ⟨rfl, by omega, by omega⟩) hz9
                    rw [hmd] at hall
                    refine cs_MD_131 X hz hw hl.1 hM.1 (c_MD_begun l G f _ y th T Y B Z M C k 1 true hk ⟨by omega, by omega⟩ ⟨si, un, bu, ma, bt, so, co, _, _, _, _, _, _, _, hM, hT, hB, hZ, hMa, hC, hY⟩) ⟨Nat.le_of_ble_eq_true rfl, Nat.le_of_ble_eq_true rfl⟩ ⟨by show 0 + 0 ≤ 0; omega, by show 0 + 0 ≤ 0; omega⟩ (Nat.le_of_ble_eq_true rfl) d_MD_readAt_218 (fun v f12 H locs hp hw hsz9 hkp9 hdm9 => ?_)
                    obtain ⟨rfl, C2, hL_f12⟩ := hp
                    refine W.eq (g2 := F0 m 221 ls [.int (iI (bgn Z k 1 true 64 0 1))]) rfl ?_
                    obtain ⟨si, un, bu, ma, bt, so, co, gsi, gun, gbu, gma, gbt, gso, gco, hM, hT, hB, hZ, hMa, hC, hY⟩ := id hL_f12
                    refine lv_istore (lv' := [(6, .int (iI (bgn Z k 1 true 64 0 1))), (5, .int (iI 1)), (4, .int (iI (b2 true))), (3, .int (iI (gt Z k))), (0, .ref y), (1, .int (iI k)), (2, .int (iI en))]) hx hb d_MD_readAt_221 hl (by decide) rfl (fun ls hl => ?_)
                    refine lv_iload hx hb d_MD_readAt_223 (lv_at hl 0 rfl) ?_
                    refine lv_iload hx hb d_MD_readAt_225 (lv_at hl 1 rfl) ?_
                    refine di_icmp_gt (tgt := 234) hx hb d_MD_readAt_227 (by decide) ⟨by omega, by omega⟩ ⟨by omega, by omega⟩ (fun bq227 => ?_) (fun bq227 => ?_)
                    · have hr8 := hall.2.1 (by omega)
                      have hrr := rdr_rng hZr hen hk.1 hk.2
                      rw [hr8] at hrr
                      have hgg := gss_rng (Z := Z) (k := k) (n := 1) ⟨by omega, by omega⟩ (fl := 0) ⟨by omega, by omega⟩
                      have hrr1 : gss Z k 1 0 < 1114112 := hrr.2.1
                      refine lv_aload_n hx hb d_MD_readAt_234 rfl (lv_at hl 4 rfl) ?_
                      refine lv_iload_n hx hb d_MD_readAt_235 rfl (lv_at hl 5 rfl) ?_
                      refine lv_iload hx hb d_MD_readAt_236 (lv_at hl 1 rfl) ?_
                      refine lv_iconst (v := iI (0)) hx hb d_MD_readAt_238 rfl ?_
                      refine cs_MD_121 X hz hw hl.1 hM.1 (c_MD_guess l G f12 _ y th T Y B Z M C2 k 1 0 hk ⟨by omega, by omega⟩ ⟨by omega, by omega⟩ ⟨si, un, bu, ma, bt, so, co, _, _, _, _, _, _, _, hM, hT, hB, hZ, hMa, hC, hY⟩) ⟨Nat.le_of_ble_eq_true rfl, Nat.le_of_ble_eq_true rfl⟩ ⟨by show 0 + 0 ≤ 0; omega, by show 0 + 0 ≤ 0; omega⟩ (Nat.le_of_ble_eq_true rfl) d_MD_readAt_239 (fun v f9 H locs hp hw hsz9 hkp9 hdm9 => ?_)
                      obtain ⟨rfl, hfe⟩ := hp
                      rw [hfe] at hw
                      refine W.eq (g2 := F0 m 242 ls [.int (iI (gss Z k 1 0))]) rfl ?_
                      refine lv_istore (lv' := [(7, .int (iI (gss Z k 1 0))), (6, .int (iI (bgn Z k 1 true 64 0 1))), (5, .int (iI 1)), (4, .int (iI (b2 true))), (3, .int (iI (gt Z k))), (0, .ref y), (1, .int (iI k)), (2, .int (iI en))]) hx hb d_MD_readAt_242 hl (by decide) rfl (fun ls hl => ?_)
                      refine lv_iload hx hb d_MD_readAt_244 (lv_at hl 0 rfl) ?_
                      refine lv_ldc (v := iI (65535)) hx hb X.own (X.hts _ mw_859) d_MD_readAt_246 ?_
                      refine di_icmp_le (tgt := 267) hx hb d_MD_readAt_248 (by decide) ⟨by omega, by omega⟩ ⟨by omega, by omega⟩ (fun bq248 => ?_) (fun bq248 => ?_)
                      · refine lv_aload_n hx hb d_MD_readAt_267 rfl (lv_at hl 5 rfl) ?_
                        refine lv_iload hx hb d_MD_readAt_268 (lv_at hl 0 rfl) ?_
                        refine lv_ldc (v := iI (65535)) hx hb X.own (X.hts _ mw_859) d_MD_readAt_270 ?_
                        refine di_icmp_le (tgt := 290) hx hb d_MD_readAt_272 (by decide) ⟨by omega, by omega⟩ ⟨by omega, by omega⟩ (fun bq272 => ?_) (fun bq272 => ?_)
                        · refine lv_iload hx hb d_MD_readAt_290 (lv_at hl 0 rfl) ?_
                          refine cs_MD_64 X hz hw hl.1 hM.1 (c_MD_make l G f12 _ y th T Y B Z M C2 (gss Z k 1 0) (by omega) ⟨si, un, bu, ma, bt, so, co, _, _, _, _, _, _, _, hM, hT, hB, hZ, hMa, hC, hY⟩) ⟨Nat.le_of_ble_eq_true rfl, Nat.le_of_ble_eq_true rfl⟩ ⟨by show 0 + 0 ≤ 0; omega, by show 0 + 0 ≤ 0; omega⟩ (Nat.le_of_ble_eq_true rfl) d_MD_readAt_292 (fun v f14 H locs hp hw hsz9 hkp9 hdm9 => ?_)
                          obtain ⟨rfl, hL_f14⟩ := hp
                          refine W.eq (g2 := F0 m 295 ls []) rfl ?_
                          obtain ⟨si, un, bu, ma, bt, so, co, gsi, gun, gbu, gma, gbt, gso, gco, hM, hT, hB, hZ, hMa, hC, hY⟩ := id hL_f14
                          refine lv_iload hx hb d_MD_readAt_295 (lv_at hl 2 rfl) ?_
                          refine lv_iconst (v := iI (1)) hx hb d_MD_readAt_297 rfl ?_
                          refine di_add hx hb d_MD_readAt_298 ?_
                          have hr9 : rdr Z en k = (gss Z k 1 0, 1 + 1) := hr8
                          have hu9 : uts ((gss Z k 1 0, 1 + 1)).1 = [gss Z k 1 0] := by show uts (gss Z k 1 0) = _; rw [uts, if_pos (by omega)]
                          exact cn_iret hx hb hr hlk hw  (⟨by rw [hr9, if_neg (show ¬ ((gss Z k 1 0, 1 + 1)).1 = -1 by show ¬ (gss Z k 1 0) = -1; omega)], _, by rw [hr9, if_neg (show ¬ ((gss Z k 1 0, 1 + 1)).1 = -1 by show ¬ (gss Z k 1 0) = -1; omega), hu9]; exact hL_f14⟩) (Nat.le_refl _) (Nat.le_refl _) d_MD_readAt_299
                        · exfalso; omega
                      · refine lv_aload_n hx hb d_MD_readAt_251 rfl (lv_at hl 5 rfl) ?_
                        refine lv_ldc (v := iI (55296)) hx hb X.own (X.hts _ mw_732) d_MD_readAt_252 ?_
                        refine lv_iload hx hb d_MD_readAt_254 (lv_at hl 0 rfl) ?_
                        refine lv_ldc (v := iI (65536)) hx hb X.own (X.hts _ mw_697) d_MD_readAt_256 ?_
                        refine di_sub hx hb d_MD_readAt_258 ?_
                        refine lv_sipush (v := iI (1024)) hx hb d_MD_readAt_259 rfl ?_
                        refine di_div hx hb d_MD_readAt_262 (by omega) (by omega) (by omega) (by omega) ?_
                        refine di_add hx hb d_MD_readAt_263 ?_
                        refine cs_MD_64 X hz hw hl.1 hM.1 (c_MD_make l G f12 _ y th T Y B Z M C2 (55296 + (gss Z k 1 0 - 65536) / 1024) (by omega) ⟨si, un, bu, ma, bt, so, co, _, _, _, _, _, _, _, hM, hT, hB, hZ, hMa, hC, hY⟩) ⟨Nat.le_of_ble_eq_true rfl, Nat.le_of_ble_eq_true rfl⟩ ⟨by show 0 + 0 ≤ 0; omega, by show 0 + 0 ≤ 0; omega⟩ (Nat.le_of_ble_eq_true rfl) d_MD_readAt_264 (fun v f14 H locs hp hw hsz9 hkp9 hdm9 => ?_)
                        obtain ⟨rfl, hL_f14⟩ := hp
                        refine W.eq (g2 := F0 m 267 ls []) rfl ?_
                        obtain ⟨si, un, bu, ma, bt, so, co, gsi, gun, gbu, gma, gbt, gso, gco, hM, hT, hB, hZ, hMa, hC, hY⟩ := id hL_f14
                        refine lv_aload_n hx hb d_MD_readAt_267 rfl (lv_at hl 5 rfl) ?_
                        refine lv_iload hx hb d_MD_readAt_268 (lv_at hl 0 rfl) ?_
                        refine lv_ldc (v := iI (65535)) hx hb X.own (X.hts _ mw_859) d_MD_readAt_270 ?_
                        refine di_icmp_le (tgt := 290) hx hb d_MD_readAt_272 (by decide) ⟨by omega, by omega⟩ ⟨by omega, by omega⟩ (fun bq272 => ?_) (fun bq272 => ?_)
                        · exfalso; omega
                        · refine lv_ldc (v := iI (56320)) hx hb X.own (X.hts _ mw_737) d_MD_readAt_275 ?_
                          refine lv_iload hx hb d_MD_readAt_277 (lv_at hl 0 rfl) ?_
                          refine lv_ldc (v := iI (65536)) hx hb X.own (X.hts _ mw_697) d_MD_readAt_279 ?_
                          refine di_sub hx hb d_MD_readAt_281 ?_
                          refine lv_sipush (v := iI (1024)) hx hb d_MD_readAt_282 rfl ?_
                          refine di_rem hx hb d_MD_readAt_285 (by omega) (by omega) (by omega) (by omega) ?_
                          refine di_add hx hb d_MD_readAt_286 ?_
                          refine lv_goto (tgt := 292) hx hb d_MD_readAt_287 (by decide) ?_
                          refine cs_MD_64 X hz hw hl.1 hM.1 (c_MD_make l G f14 _ y th T Y B Z (M ++ [55296 + (gss Z k 1 0 - 65536) / 1024]) C2 (56320 + (gss Z k 1 0 - 65536) % 1024) (by simp; omega) ⟨si, un, bu, ma, bt, so, co, _, _, _, _, _, _, _, hM, hT, hB, hZ, hMa, hC, hY⟩) ⟨Nat.le_of_ble_eq_true rfl, Nat.le_of_ble_eq_true rfl⟩ ⟨by show 0 + 0 ≤ 0; omega, by show 0 + 0 ≤ 0; omega⟩ (Nat.le_of_ble_eq_true rfl) d_MD_readAt_292 (fun v f15 H locs hp hw hsz9 hkp9 hdm9 => ?_)
                          obtain ⟨rfl, hL_f15⟩ := hp
                          refine W.eq (g2 := F0 m 295 ls []) rfl ?_
                          obtain ⟨si, un, bu, ma, bt, so, co, gsi, gun, gbu, gma, gbt, gso, gco, hM, hT, hB, hZ, hMa, hC, hY⟩ := id hL_f15
                          rw [List.append_assoc] at hL_f15
                          refine lv_iload hx hb d_MD_readAt_295 (lv_at hl 2 rfl) ?_
                          refine lv_iconst (v := iI (1)) hx hb d_MD_readAt_297 rfl ?_
                          refine di_add hx hb d_MD_readAt_298 ?_
                          have hr9 : rdr Z en k = (gss Z k 1 0, 1 + 1) := hr8
                          have hu9 : uts ((gss Z k 1 0, 1 + 1)).1 = [55296 + (gss Z k 1 0 - 65536) / 1024, 56320 + (gss Z k 1 0 - 65536) % 1024] := by show uts (gss Z k 1 0) = _; rw [uts, if_neg (by omega)]
                          exact cn_iret hx hb hr hlk hw  (⟨by rw [hr9, if_neg (show ¬ ((gss Z k 1 0, 1 + 1)).1 = -1 by show ¬ (gss Z k 1 0) = -1; omega)], _, by rw [hr9, if_neg (show ¬ ((gss Z k 1 0, 1 + 1)).1 = -1 by show ¬ (gss Z k 1 0) = -1; omega), hu9]; exact hL_f15⟩) (Nat.le_refl _) (Nat.le_refl _) d_MD_readAt_299
                    · refine lv_iload hx hb d_MD_readAt_230 (lv_at hl 0 rfl) ?_
                      refine di_neg hx hb d_MD_readAt_232 ?_
                      have hr9 : rdr Z en k = (-1, bgn Z k 1 true 64 0 1) := hall.1 (by omega)
                      exact cn_iret hx hb hr hlk hw  (⟨by rw [hr9, if_pos (show (((-1 : Int), (bgn Z k 1 true 64 0 1 : Int)) : Int × Int).1 = -1 from rfl)], _, by rw [hr9, if_pos (show (((-1 : Int), (bgn Z k 1 true 64 0 1 : Int)) : Int × Int).1 = -1 from rfl), List.append_nil]; exact hL_f12⟩) (Nat.le_refl _) (Nat.le_refl _) d_MD_readAt_233
                · refine lv_iconst (v := iI (0)) hx hb d_MD_readAt_160 rfl ?_
                  refine lv_goto (tgt := 203) hx hb d_MD_readAt_161 (by decide) ?_
                  refine lv_istore (lv' := [(5, .int (iI 0)), (4, .int (iI (b2 true))), (3, .int (iI (gt Z k))), (0, .ref y), (1, .int (iI k)), (2, .int (iI en))]) hx hb d_MD_readAt_203 hl (by decide) rfl (fun ls hl => ?_)
                  refine lv_iload hx hb d_MD_readAt_205 (lv_at hl 0 rfl) ?_
                  refine di_if_ne (tgt := 212) hx hb d_MD_readAt_207 (by decide) ⟨by decide, by decide⟩ (fun q9 => absurd q9 (by decide)) (fun _ => ?_)
                  refine lv_iconst (v := iI (-1)) hx hb d_MD_readAt_210 rfl ?_
                  have hr9 : rdr Z en k = (-1, 1) := rd_0 hen01 (by omega)
                  exact cn_iret hx hb hr hlk hw  (⟨by rw [hr9, if_pos (show (((-1 : Int), (1 : Int)) : Int × Int).1 = -1 from rfl)], _, by rw [hr9, if_pos (show (((-1 : Int), (1 : Int)) : Int × Int).1 = -1 from rfl), List.append_nil]; exact hL⟩) (Nat.le_refl _) (Nat.le_refl _) d_MD_readAt_211
              · refine lv_aload_n hx hb d_MD_readAt_132 rfl (lv_at hl 2 rfl) ?_
                refine gf_MD_22_MD X hw hM.1 d_MD_readAt_133 ?_
                refine lv_iload_n hx hb d_MD_readAt_136 rfl (lv_at hl 3 rfl) ?_
                refine lv_iconst (v := iI (1)) hx hb d_MD_readAt_137 rfl ?_
                refine di_add hx hb d_MD_readAt_138 ?_
                refine dw_iald hx hb X.K hw 0 hM.2.2.2.2.2.1 rfl (i := k + 1) (by omega) (by omega) (by omega) (hZ.1.at (by omega) (by omega)) d_MD_readAt_139 ?_
                refine lv_sipush (v := iI (128)) hx hb d_MD_readAt_140 rfl ?_
                refine di_icmp_ne (tgt := 153) hx hb d_MD_readAt_143 (by decide) ⟨by omega, by omega⟩ ⟨by omega, by omega⟩ (fun bq143 => ?_) (fun bq143 => ?_)
                · have hz9 : ¬ (en = 1 ∧ gt Z k = 192 ∧ gt Z (k + 1) = 128) := fun q => by omega
                  refine lv_iload_n hx hb d_MD_readAt_153 rfl (lv_at hl 1 rfl) ?_
                  refine lv_sipush (v := iI (192)) hx hb d_MD_readAt_154 rfl ?_
                  refine di_icmp_ge (tgt := 164) hx hb d_MD_readAt_157 (by decide) ⟨by omega, by omega⟩ ⟨by omega, by omega⟩ (fun bq157 => ?_) (fun bq157 => ?_)
                  · refine lv_iload_n hx hb d_MD_readAt_164 rfl (lv_at hl 1 rfl) ?_
                    refine lv_sipush (v := iI (224)) hx hb d_MD_readAt_165 rfl ?_
                    refine di_icmp_ge (tgt := 175) hx hb d_MD_readAt_168 (by decide) ⟨by omega, by omega⟩ ⟨by omega, by omega⟩ (fun bq168 => ?_) (fun bq168 => ?_)
                    · refine lv_iload_n hx hb d_MD_readAt_175 rfl (lv_at hl 1 rfl) ?_
                      refine lv_sipush (v := iI (240)) hx hb d_MD_readAt_176 rfl ?_
                      refine di_icmp_ge (tgt := 186) hx hb d_MD_readAt_179 (by decide) ⟨by omega, by omega⟩ ⟨by omega, by omega⟩ (fun bq179 => ?_) (fun bq179 => ?_)
                      · refine lv_iload_n hx hb d_MD_readAt_186 rfl (lv_at hl 1 rfl) ?_
                        refine lv_sipush (v := iI (248)) hx hb d_MD_readAt_187 rfl ?_
                        refine di_icmp_ge (tgt := 202) hx hb d_MD_readAt_190 (by decide) ⟨by omega, by omega⟩ ⟨by omega, by omega⟩ (fun bq190 => ?_) (fun bq190 => ?_)
                        · refine lv_iconst (v := iI (0)) hx hb d_MD_readAt_202 rfl ?_
                          refine lv_istore (lv' := [(5, .int (iI 0)), (4, .int (iI (b2 true))), (3, .int (iI (gt Z k))), (0, .ref y), (1, .int (iI k)), (2, .int (iI en))]) hx hb d_MD_readAt_203 hl (by decide) rfl (fun ls hl => ?_)
                          refine lv_iload hx hb d_MD_readAt_205 (lv_at hl 0 rfl) ?_
                          refine di_if_ne (tgt := 212) hx hb d_MD_readAt_207 (by decide) ⟨by decide, by decide⟩ (fun q9 => absurd q9 (by decide)) (fun _ => ?_)
                          refine lv_iconst (v := iI (-1)) hx hb d_MD_readAt_210 rfl ?_
                          have hr9 : rdr Z en k = (-1, 1) := rd_0 hen01 (by omega)
                          exact cn_iret hx hb hr hlk hw  (⟨by rw [hr9, if_pos (show (((-1 : Int), (1 : Int)) : Int × Int).1 = -1 from rfl)], _, by rw [hr9, if_pos (show (((-1 : Int), (1 : Int)) : Int × Int).1 = -1 from rfl), List.append_nil]; exact hL⟩) (Nat.le_refl _) (Nat.le_refl _) d_MD_readAt_211
                        · refine lv_iload hx hb d_MD_readAt_193 (lv_at hl 0 rfl) ?_
                          refine di_if_ne (tgt := 202) hx hb d_MD_readAt_195 (by decide) ⟨by decide, by decide⟩ (fun _ => ?_) (fun q9 => absurd q9 (by decide))
                          refine lv_iconst (v := iI (0)) hx hb d_MD_readAt_202 rfl ?_
                          refine lv_istore (lv' := [(5, .int (iI 0)), (4, .int (iI (b2 true))), (3, .int (iI (gt Z k))), (0, .ref y), (1, .int (iI k)), (2, .int (iI en))]) hx hb d_MD_readAt_203 hl (by decide) rfl (fun ls hl => ?_)
                          refine lv_iload hx hb d_MD_readAt_205 (lv_at hl 0 rfl) ?_
                          refine di_if_ne (tgt := 212) hx hb d_MD_readAt_207 (by decide) ⟨by decide, by decide⟩ (fun q9 => absurd q9 (by decide)) (fun _ => ?_)
                          refine lv_iconst (v := iI (-1)) hx hb d_MD_readAt_210 rfl ?_
                          have hr9 : rdr Z en k = (-1, 1) := rd_0 hen01 (by omega)
                          exact cn_iret hx hb hr hlk hw  (⟨by rw [hr9, if_pos (show (((-1 : Int), (1 : Int)) : Int × Int).1 = -1 from rfl)], _, by rw [hr9, if_pos (show (((-1 : Int), (1 : Int)) : Int × Int).1 = -1 from rfl), List.append_nil]; exact hL⟩) (Nat.le_refl _) (Nat.le_refl _) d_MD_readAt_211
                      · refine lv_iconst (v := iI (2)) hx hb d_MD_readAt_182 rfl ?_
                        refine lv_goto (tgt := 203) hx hb d_MD_readAt_183 (by decide) ?_
                        refine lv_istore (lv' := [(5, .int (iI 2)), (4, .int (iI (b2 true))), (3, .int (iI (gt Z k))), (0, .ref y), (1, .int (iI k)), (2, .int (iI en))]) hx hb d_MD_readAt_203 hl (by decide) rfl (fun ls hl => ?_)
                        refine lv_iload hx hb d_MD_readAt_205 (lv_at hl 0 rfl) ?_
                        refine di_if_ne (tgt := 212) hx hb d_MD_readAt_207 (by decide) ⟨by decide, by decide⟩ (fun _ => ?_) (fun q9 => absurd q9 (by decide))
                        refine lv_aload_n hx hb d_MD_readAt_212 rfl (lv_at hl 3 rfl) ?_
                        refine lv_iload_n hx hb d_MD_readAt_213 rfl (lv_at hl 4 rfl) ?_
                        refine lv_iload hx hb d_MD_readAt_214 (lv_at hl 0 rfl) ?_
                        refine lv_iload hx hb d_MD_readAt_216 (lv_at hl 1 rfl) ?_
                        have hall := rd_all hen01 (n := 2) (Or.inr (Or.inl ⟨rfl, by omega, by omega⟩)) hz9
                        rw [hmd] at hall
                        refine cs_MD_131 X hz hw hl.1 hM.1 (c_MD_begun l G f _ y th T Y B Z M C k 2 true hk ⟨by omega, by omega⟩ ⟨si, un, bu, ma, bt, so, co, _, _, _, _, _, _, _, hM, hT, hB, hZ, hMa, hC, hY⟩) ⟨Nat.le_of_ble_eq_true rfl, Nat.le_of_ble_eq_true rfl⟩ ⟨by show 0 + 0 ≤ 0; omega, by show 0 + 0 ≤ 0; omega⟩ (Nat.le_of_ble_eq_true rfl) d_MD_readAt_218 (fun v f12 H locs hp hw hsz9 hkp9 hdm9 => ?_)
                        obtain ⟨rfl, C2, hL_f12⟩ := hp
                        refine W.eq (g2 := F0 m 221 ls [.int (iI (bgn Z k 2 true 64 0 1))]) rfl ?_
                        obtain ⟨si, un, bu, ma, bt, so, co, gsi, gun, gbu, gma, gbt, gso, gco, hM, hT, hB, hZ, hMa, hC, hY⟩ := id hL_f12
                        refine lv_istore (lv' := [(6, .int (iI (bgn Z k 2 true 64 0 1))), (5, .int (iI 2)), (4, .int (iI (b2 true))), (3, .int (iI (gt Z k))), (0, .ref y), (1, .int (iI k)), (2, .int (iI en))]) hx hb d_MD_readAt_221 hl (by decide) rfl (fun ls hl => ?_)
                        refine lv_iload hx hb d_MD_readAt_223 (lv_at hl 0 rfl) ?_
                        refine lv_iload hx hb d_MD_readAt_225 (lv_at hl 1 rfl) ?_
                        refine di_icmp_gt (tgt := 234) hx hb d_MD_readAt_227 (by decide) ⟨by omega, by omega⟩ ⟨by omega, by omega⟩ (fun bq227 => ?_) (fun bq227 => ?_)
                        · have hr8 := hall.2.1 (by omega)
                          have hrr := rdr_rng hZr hen hk.1 hk.2
                          rw [hr8] at hrr
                          have hgg := gss_rng (Z := Z) (k := k) (n := 2) ⟨by omega, by omega⟩ (fl := 0) ⟨by omega, by omega⟩
                          have hrr1 : gss Z k 2 0 < 1114112 := hrr.2.1
                          refine lv_aload_n hx hb d_MD_readAt_234 rfl (lv_at hl 4 rfl) ?_
                          refine lv_iload_n hx hb d_MD_readAt_235 rfl (lv_at hl 5 rfl) ?_
                          refine lv_iload hx hb d_MD_readAt_236 (lv_at hl 1 rfl) ?_
                          refine lv_iconst (v := iI (0)) hx hb d_MD_readAt_238 rfl ?_
                          refine cs_MD_121 X hz hw hl.1 hM.1 (c_MD_guess l G f12 _ y th T Y B Z M C2 k 2 0 hk ⟨by omega, by omega⟩ ⟨by omega, by omega⟩ ⟨si, un, bu, ma, bt, so, co, _, _, _, _, _, _, _, hM, hT, hB, hZ, hMa, hC, hY⟩) ⟨Nat.le_of_ble_eq_true rfl, Nat.le_of_ble_eq_true rfl⟩ ⟨by show 0 + 0 ≤ 0; omega, by show 0 + 0 ≤ 0; omega⟩ (Nat.le_of_ble_eq_true rfl) d_MD_readAt_239 (fun v f9 H locs hp hw hsz9 hkp9 hdm9 => ?_)
                          obtain ⟨rfl, hfe⟩ := hp
                          rw [hfe] at hw
                          refine W.eq (g2 := F0 m 242 ls [.int (iI (gss Z k 2 0))]) rfl ?_
                          refine lv_istore (lv' := [(7, .int (iI (gss Z k 2 0))), (6, .int (iI (bgn Z k 2 true 64 0 1))), (5, .int (iI 2)), (4, .int (iI (b2 true))), (3, .int (iI (gt Z k))), (0, .ref y), (1, .int (iI k)), (2, .int (iI en))]) hx hb d_MD_readAt_242 hl (by decide) rfl (fun ls hl => ?_)
                          refine lv_iload hx hb d_MD_readAt_244 (lv_at hl 0 rfl) ?_
                          refine lv_ldc (v := iI (65535)) hx hb X.own (X.hts _ mw_859) d_MD_readAt_246 ?_
                          refine di_icmp_le (tgt := 267) hx hb d_MD_readAt_248 (by decide) ⟨by omega, by omega⟩ ⟨by omega, by omega⟩ (fun bq248 => ?_) (fun bq248 => ?_)
                          · refine lv_aload_n hx hb d_MD_readAt_267 rfl (lv_at hl 5 rfl) ?_
                            refine lv_iload hx hb d_MD_readAt_268 (lv_at hl 0 rfl) ?_
                            refine lv_ldc (v := iI (65535)) hx hb X.own (X.hts _ mw_859) d_MD_readAt_270 ?_
                            refine di_icmp_le (tgt := 290) hx hb d_MD_readAt_272 (by decide) ⟨by omega, by omega⟩ ⟨by omega, by omega⟩ (fun bq272 => ?_) (fun bq272 => ?_)
                            · refine lv_iload hx hb d_MD_readAt_290 (lv_at hl 0 rfl) ?_
                              refine cs_MD_64 X hz hw hl.1 hM.1 (c_MD_make l G f12 _ y th T Y B Z M C2 (gss Z k 2 0) (by omega) ⟨si, un, bu, ma, bt, so, co, _, _, _, _, _, _, _, hM, hT, hB, hZ, hMa, hC, hY⟩) ⟨Nat.le_of_ble_eq_true rfl, Nat.le_of_ble_eq_true rfl⟩ ⟨by show 0 + 0 ≤ 0; omega, by show 0 + 0 ≤ 0; omega⟩ (Nat.le_of_ble_eq_true rfl) d_MD_readAt_292 (fun v f14 H locs hp hw hsz9 hkp9 hdm9 => ?_)
                              obtain ⟨rfl, hL_f14⟩ := hp
                              refine W.eq (g2 := F0 m 295 ls []) rfl ?_
                              obtain ⟨si, un, bu, ma, bt, so, co, gsi, gun, gbu, gma, gbt, gso, gco, hM, hT, hB, hZ, hMa, hC, hY⟩ := id hL_f14
                              refine lv_iload hx hb d_MD_readAt_295 (lv_at hl 2 rfl) ?_
                              refine lv_iconst (v := iI (1)) hx hb d_MD_readAt_297 rfl ?_
                              refine di_add hx hb d_MD_readAt_298 ?_
                              have hr9 : rdr Z en k = (gss Z k 2 0, 2 + 1) := hr8
                              have hu9 : uts ((gss Z k 2 0, 2 + 1)).1 = [gss Z k 2 0] := by show uts (gss Z k 2 0) = _; rw [uts, if_pos (by omega)]
                              exact cn_iret hx hb hr hlk hw  (⟨by rw [hr9, if_neg (show ¬ ((gss Z k 2 0, 2 + 1)).1 = -1 by show ¬ (gss Z k 2 0) = -1; omega)], _, by rw [hr9, if_neg (show ¬ ((gss Z k 2 0, 2 + 1)).1 = -1 by show ¬ (gss Z k 2 0) = -1; omega), hu9]; exact hL_f14⟩) (Nat.le_refl _) (Nat.le_refl _) d_MD_readAt_299
                            · exfalso; omega
                          · refine lv_aload_n hx hb d_MD_readAt_251 rfl (lv_at hl 5 rfl) ?_
                            refine lv_ldc (v := iI (55296)) hx hb X.own (X.hts _ mw_732) d_MD_readAt_252 ?_
                            refine lv_iload hx hb d_MD_readAt_254 (lv_at hl 0 rfl) ?_
                            refine lv_ldc (v := iI (65536)) hx hb X.own (X.hts _ mw_697) d_MD_readAt_256 ?_
                            refine di_sub hx hb d_MD_readAt_258 ?_
                            refine lv_sipush (v := iI (1024)) hx hb d_MD_readAt_259 rfl ?_
                            refine di_div hx hb d_MD_readAt_262 (by omega) (by omega) (by omega) (by omega) ?_
                            refine di_add hx hb d_MD_readAt_263 ?_
                            refine cs_MD_64 X hz hw hl.1 hM.1 (c_MD_make l G f12 _ y th T Y B Z M C2 (55296 + (gss Z k 2 0 - 65536) / 1024) (by omega) ⟨si, un, bu, ma, bt, so, co, _, _, _, _, _, _, _, hM, hT, hB, hZ, hMa, hC, hY⟩) ⟨Nat.le_of_ble_eq_true rfl, Nat.le_of_ble_eq_true rfl⟩ ⟨by show 0 + 0 ≤ 0; omega, by show 0 + 0 ≤ 0; omega⟩ (Nat.le_of_ble_eq_true rfl) d_MD_readAt_264 (fun v f14 H locs hp hw hsz9 hkp9 hdm9 => ?_)
                            obtain ⟨rfl, hL_f14⟩ := hp
                            refine W.eq (g2 := F0 m 267 ls []) rfl ?_
                            obtain ⟨si, un, bu, ma, bt, so, co, gsi, gun, gbu, gma, gbt, gso, gco, hM, hT, hB, hZ, hMa, hC, hY⟩ := id hL_f14
                            refine lv_aload_n hx hb d_MD_readAt_267 rfl (lv_at hl 5 rfl) ?_
                            refine lv_iload hx hb d_MD_readAt_268 (lv_at hl 0 rfl) ?_
                            refine lv_ldc (v := iI (65535)) hx hb X.own (X.hts _ mw_859) d_MD_readAt_270 ?_
                            refine di_icmp_le (tgt := 290) hx hb d_MD_readAt_272 (by decide) ⟨by omega, by omega⟩ ⟨by omega, by omega⟩ (fun bq272 => ?_) (fun bq272 => ?_)
                            · exfalso; omega
                            · refine lv_ldc (v := iI (56320)) hx hb X.own (X.hts _ mw_737) d_MD_readAt_275 ?_
                              refine lv_iload hx hb d_MD_readAt_277 (lv_at hl 0 rfl) ?_
                              refine lv_ldc (v := iI (65536)) hx hb X.own (X.hts _ mw_697) d_MD_readAt_279 ?_
                              refine di_sub hx hb d_MD_readAt_281 ?_
                              refine lv_sipush (v := iI (1024)) hx hb d_MD_readAt_282 rfl ?_
                              refine di_rem hx hb d_MD_readAt_285 (by omega) (by omega) (by omega) (by omega) ?_
                              refine di_add hx hb d_MD_readAt_286 ?_
                              refine lv_goto (tgt := 292) hx hb d_MD_readAt_287 (by decide) ?_
                              refine cs_MD_64 X hz hw hl.1 hM.1 (c_MD_make l G f14 _ y th T Y B Z (M ++ [55296 + (gss Z k 2 0 - 65536) / 1024]) C2 (56320 + (gss Z k 2 0 - 65536) % 1024) (by simp; omega) ⟨si, un, bu, ma, bt, so, co, _, _, _, _, _, _, _, hM, hT, hB, hZ, hMa, hC, hY⟩) ⟨Nat.le_of_ble_eq_true rfl, Nat.le_of_ble_eq_true rfl⟩ ⟨by show 0 + 0 ≤ 0; omega, by show 0 + 0 ≤ 0; omega⟩ (Nat.le_of_ble_eq_true rfl) d_MD_readAt_292 (fun v f15 H locs hp hw hsz9 hkp9 hdm9 => ?_)
                              obtain ⟨rfl, hL_f15⟩ := hp
                              refine W.eq (g2 := F0 m 295 ls []) rfl ?_
                              obtain ⟨si, un, bu, ma, bt, so, co, gsi, gun, gbu, gma, gbt, gso, gco, hM, hT, hB, hZ, hMa, hC, hY⟩ := id hL_f15
                              rw [List.append_assoc] at hL_f15
                              refine lv_iload hx hb d_MD_readAt_295 (lv_at hl 2 rfl) ?_
                              refine lv_iconst (v := iI (1)) hx hb d_MD_readAt_297 rfl ?_
                              refine di_add hx hb d_MD_readAt_298 ?_
                              have hr9 : rdr Z en k = (gss Z k 2 0, 2 + 1) := hr8
                              have hu9 : uts ((gss Z k 2 0, 2 + 1)).1 = [55296 + (gss Z k 2 0 - 65536) / 1024, 56320 + (gss Z k 2 0 - 65536) % 1024] := by show uts (gss Z k 2 0) = _; rw [uts, if_neg (by omega)]
                              exact cn_iret hx hb hr hlk hw  (⟨by rw [hr9, if_neg (show ¬ ((gss Z k 2 0, 2 + 1)).1 = -1 by show ¬ (gss Z k 2 0) = -1; omega)], _, by rw [hr9, if_neg (show ¬ ((gss Z k 2 0, 2 + 1)).1 = -1 by show ¬ (gss Z k 2 0) = -1; omega), hu9]; exact hL_f15⟩) (Nat.le_refl _) (Nat.le_refl _) d_MD_readAt_299
                        · refine lv_iload hx hb d_MD_readAt_230 (lv_at hl 0 rfl) ?_
                          refine di_neg hx hb d_MD_readAt_232 ?_
                          have hr9 : rdr Z en k = (-1, bgn Z k 2 true 64 0 1) := hall.1 (by omega)
                          exact cn_iret hx hb hr hlk hw  (⟨by rw [hr9, if_pos (show (((-1 : Int), (bgn Z k 2 true 64 0 1 : Int)) : Int × Int).1 = -1 from rfl)], _, by rw [hr9, if_pos (show (((-1 : Int), (bgn Z k 2 true 64 0 1 : Int)) : Int × Int).1 = -1 from rfl), List.append_nil]; exact hL_f12⟩) (Nat.le_refl _) (Nat.le_refl _) d_MD_readAt_233
                    · refine lv_iconst (v := iI (1)) hx hb d_MD_readAt_171 rfl ?_
                      refine lv_goto (tgt := 203) hx hb d_MD_readAt_172 (by decide) ?_
                      refine lv_istore (lv' := [(5, .int (iI 1)), (4, .int (iI (b2 true))), (3, .int (iI (gt Z k))), (0, .ref y), (1, .int (iI k)), (2, .int (iI en))]) hx hb d_MD_readAt_203 hl (by decide) rfl (fun ls hl => ?_)
                      refine lv_iload hx hb d_MD_readAt_205 (lv_at hl 0 rfl) ?_
                      refine di_if_ne (tgt := 212) hx hb d_MD_readAt_207 (by decide) ⟨by decide, by decide⟩ (fun _ => ?_) (fun q9 => absurd q9 (by decide))
                      refine lv_aload_n hx hb d_MD_readAt_212 rfl (lv_at hl 3 rfl) ?_
                      refine lv_iload_n hx hb d_MD_readAt_213 rfl (lv_at hl 4 rfl) ?_
                      refine lv_iload hx hb d_MD_readAt_214 (lv_at hl 0 rfl) ?_
                      refine lv_iload hx hb d_MD_readAt_216 (lv_at hl 1 rfl) ?_
                      have hall := rd_all hen01 (n := 1) (Or.inl ⟨rfl, by omega, by omega⟩) hz9
                      rw [hmd] at hall
                      refine cs_MD_131 X hz hw hl.1 hM.1 (c_MD_begun l G f _ y th T Y B Z M C k 1 true hk ⟨by omega, by omega⟩ ⟨si, un, bu, ma, bt, so, co, _, _, _, _, _, _, _, hM, hT, hB, hZ, hMa, hC, hY⟩) ⟨Nat.le_of_ble_eq_true rfl, Nat.le_of_ble_eq_true rfl⟩ ⟨by show 0 + 0 ≤ 0; omega, by show 0 + 0 ≤ 0; omega⟩ (Nat.le_of_ble_eq_true rfl) d_MD_readAt_218 (fun v f12 H locs hp hw hsz9 hkp9 hdm9 => ?_)
                      obtain ⟨rfl, C2, hL_f12⟩ := hp
                      refine W.eq (g2 := F0 m 221 ls [.int (iI (bgn Z k 1 true 64 0 1))]) rfl ?_
                      obtain ⟨si, un, bu, ma, bt, so, co, gsi, gun, gbu, gma, gbt, gso, gco, hM, hT, hB, hZ, hMa, hC, hY⟩ := id hL_f12
                      refine lv_istore (lv' := [(6, .int (iI (bgn Z k 1 true 64 0 1))), (5, .int (iI 1)), (4, .int (iI (b2 true))), (3, .int (iI (gt Z k))), (0, .ref y), (1, .int (iI k)), (2, .int (iI en))]) hx hb d_MD_readAt_221 hl (by decide) rfl (fun ls hl => ?_)
                      refine lv_iload hx hb d_MD_readAt_223 (lv_at hl 0 rfl) ?_
                      refine lv_iload hx hb d_MD_readAt_225 (lv_at hl 1 rfl) ?_
                      refine di_icmp_gt (tgt := 234) hx hb d_MD_readAt_227 (by decide) ⟨by omega, by omega⟩ ⟨by omega, by omega⟩ (fun bq227 => ?_) (fun bq227 => ?_)
                      · have hr8 := hall.2.1 (by omega)
                        have hrr := rdr_rng hZr hen hk.1 hk.2
                        rw [hr8] at hrr
                        have hgg := gss_rng (Z := Z) (k := k) (n := 1) ⟨by omega, by omega⟩ (fl := 0) ⟨by omega, by omega⟩
                        have hrr1 : gss Z k 1 0 < 1114112 := hrr.2.1
                        refine lv_aload_n hx hb d_MD_readAt_234 rfl (lv_at hl 4 rfl) ?_
                        refine lv_iload_n hx hb d_MD_readAt_235 rfl (lv_at hl 5 rfl) ?_
                        refine lv_iload hx hb d_MD_readAt_236 (lv_at hl 1 rfl) ?_
                        refine lv_iconst (v := iI (0)) hx hb d_MD_readAt_238 rfl ?_
                        refine cs_MD_121 X hz hw hl.1 hM.1 (c_MD_guess l G f12 _ y th T Y B Z M C2 k 1 0 hk ⟨by omega, by omega⟩ ⟨by omega, by omega⟩ ⟨si, un, bu, ma, bt, so, co, _, _, _, _, _, _, _, hM, hT, hB, hZ, hMa, hC, hY⟩) ⟨Nat.le_of_ble_eq_true rfl, Nat.le_of_ble_eq_true rfl⟩ ⟨by show 0 + 0 ≤ 0; omega, by show 0 + 0 ≤ 0; omega⟩ (Nat.le_of_ble_eq_true rfl) d_MD_readAt_239 (fun v f9 H locs hp hw hsz9 hkp9 hdm9 => ?_)
                        obtain ⟨rfl, hfe⟩ := hp
                        rw [hfe] at hw
                        refine W.eq (g2 := F0 m 242 ls [.int (iI (gss Z k 1 0))]) rfl ?_
                        refine lv_istore (lv' := [(7, .int (iI (gss Z k 1 0))), (6, .int (iI (bgn Z k 1 true 64 0 1))), (5, .int (iI 1)), (4, .int (iI (b2 true))), (3, .int (iI (gt Z k))), (0, .ref y), (1, .int (iI k)), (2, .int (iI en))]) hx hb d_MD_readAt_242 hl (by decide) rfl (fun ls hl => ?_)
                        refine lv_iload hx hb d_MD_readAt_244 (lv_at hl 0 rfl) ?_
                        refine lv_ldc (v := iI (65535)) hx hb X.own (X.hts _ mw_859) d_MD_readAt_246 ?_
                        refine di_icmp_le (tgt := 267) hx hb d_MD_readAt_248 (by decide) ⟨by omega, by omega⟩ ⟨by omega, by omega⟩ (fun bq248 => ?_) (fun bq248 => ?_)
                        · refine lv_aload_n hx hb d_MD_readAt_267 rfl (lv_at hl 5 rfl) ?_
                          refine lv_iload hx hb d_MD_readAt_268 (lv_at hl 0 rfl) ?_
                          refine lv_ldc (v := iI (65535)) hx hb X.own (X.hts _ mw_859) d_MD_readAt_270 ?_
                          refine di_icmp_le (tgt := 290) hx hb d_MD_readAt_272 (by decide) ⟨by omega, by omega⟩ ⟨by omega, by omega⟩ (fun bq272 => ?_) (fun bq272 => ?_)
                          · refine lv_iload hx hb d_MD_readAt_290 (lv_at hl 0 rfl) ?_
                            refine cs_MD_64 X hz hw hl.1 hM.1 (c_MD_make l G f12 _ y th T Y B Z M C2 (gss Z k 1 0) (by omega) ⟨si, un, bu, ma, bt, so, co, _, _, _, _, _, _, _, hM, hT, hB, hZ, hMa, hC, hY⟩) ⟨Nat.le_of_ble_eq_true rfl, Nat.le_of_ble_eq_true rfl⟩ ⟨by show 0 + 0 ≤ 0; omega, by show 0 + 0 ≤ 0; omega⟩ (Nat.le_of_ble_eq_true rfl) d_MD_readAt_292 (fun v f14 H locs hp hw hsz9 hkp9 hdm9 => ?_)
                            obtain ⟨rfl, hL_f14⟩ := hp
                            refine W.eq (g2 := F0 m 295 ls []) rfl ?_
                            obtain ⟨si, un, bu, ma, bt, so, co, gsi, gun, gbu, gma, gbt, gso, gco, hM, hT, hB, hZ, hMa, hC, hY⟩ := id hL_f14
                            refine lv_iload hx hb d_MD_readAt_295 (lv_at hl 2 rfl) ?_
                            refine lv_iconst (v := iI (1)) hx hb d_MD_readAt_297 rfl ?_
                            refine di_add hx hb d_MD_readAt_298 ?_
                            have hr9 : rdr Z en k = (gss Z k 1 0, 1 + 1) := hr8
                            have hu9 : uts ((gss Z k 1 0, 1 + 1)).1 = [gss Z k 1 0] := by show uts (gss Z k 1 0) = _; rw [uts, if_pos (by omega)]
                            exact cn_iret hx hb hr hlk hw  (⟨by rw [hr9, if_neg (show ¬ ((gss Z k 1 0, 1 + 1)).1 = -1 by show ¬ (gss Z k 1 0) = -1; omega)], _, by rw [hr9, if_neg (show ¬ ((gss Z k 1 0, 1 + 1)).1 = -1 by show ¬ (gss Z k 1 0) = -1; omega), hu9]; exact hL_f14⟩) (Nat.le_refl _) (Nat.le_refl _) d_MD_readAt_299
                          · exfalso; omega
                        · refine lv_aload_n hx hb d_MD_readAt_251 rfl (lv_at hl 5 rfl) ?_
                          refine lv_ldc (v := iI (55296)) hx hb X.own (X.hts _ mw_732) d_MD_readAt_252 ?_
                          refine lv_iload hx hb d_MD_readAt_254 (lv_at hl 0 rfl) ?_
                          refine lv_ldc (v := iI (65536)) hx hb X.own (X.hts _ mw_697) d_MD_readAt_256 ?_
                          refine di_sub hx hb d_MD_readAt_258 ?_
                          refine lv_sipush (v := iI (1024)) hx hb d_MD_readAt_259 rfl ?_
                          refine di_div hx hb d_MD_readAt_262 (by omega) (by omega) (by omega) (by omega) ?_
                          refine di_add hx hb d_MD_readAt_263 ?_
                          refine cs_MD_64 X hz hw hl.1 hM.1 (c_MD_make l G f12 _ y th T Y B Z M C2 (55296 + (gss Z k 1 0 - 65536) / 1024) (by omega) ⟨si, un, bu, ma, bt, so, co, _, _, _, _, _, _, _, hM, hT, hB, hZ, hMa, hC, hY⟩) ⟨Nat.le_of_ble_eq_true rfl, Nat.le_of_ble_eq_true rfl⟩ ⟨by show 0 + 0 ≤ 0; omega, by show 0 + 0 ≤ 0; omega⟩ (Nat.le_of_ble_eq_true rfl) d_MD_readAt_264 (fun v f14 H locs hp hw hsz9 hkp9 hdm9 => ?_)
                          obtain ⟨rfl, hL_f14⟩ := hp
                          refine W.eq (g2 := F0 m 267 ls []) rfl ?_
                          obtain ⟨si, un, bu, ma, bt, so, co, gsi, gun, gbu, gma, gbt, gso, gco, hM, hT, hB, hZ, hMa, hC, hY⟩ := id hL_f14
                          refine lv_aload_n hx hb d_MD_readAt_267 rfl (lv_at hl 5 rfl) ?_
                          refine lv_iload hx hb d_MD_readAt_268 (lv_at hl 0 rfl) ?_
                          refine lv_ldc (v := iI (65535)) hx hb X.own (X.hts _ mw_859) d_MD_readAt_270 ?_
                          refine di_icmp_le (tgt := 290) hx hb d_MD_readAt_272 (by decide) ⟨by omega, by omega⟩ ⟨by omega, by omega⟩ (fun bq272 => ?_) (fun bq272 => ?_)
                          · exfalso; omega
                          · refine lv_ldc (v := iI (56320)) hx hb X.own (X.hts _ mw_737) d_MD_readAt_275 ?_
                            refine lv_iload hx hb d_MD_readAt_277 (lv_at hl 0 rfl) ?_
                            refine lv_ldc (v := iI (65536)) hx hb X.own (X.hts _ mw_697) d_MD_readAt_279 ?_
                            refine di_sub hx hb d_MD_readAt_281 ?_
                            refine lv_sipush (v := iI (1024)) hx hb d_MD_readAt_282 rfl ?_
                            refine di_rem hx hb d_MD_readAt_285 (by omega) (by omega) (by omega) (by omega) ?_
                            refine di_add hx hb d_MD_readAt_286 ?_
                            refine lv_goto (tgt := 292) hx hb d_MD_readAt_287 (by decide) ?_
                            refine cs_MD_64 X hz hw hl.1 hM.1 (c_MD_make l G f14 _ y th T Y B Z (M ++ [55296 + (gss Z k 1 0 - 65536) / 1024]) C2 (56320 + (gss Z k 1 0 - 65536) % 1024) (by simp; omega) ⟨si, un, bu, ma, bt, so, co, _, _, _, _, _, _, _, hM, hT, hB, hZ, hMa, hC, hY⟩) ⟨Nat.le_of_ble_eq_true rfl, Nat.le_of_ble_eq_true rfl⟩ ⟨by show 0 + 0 ≤ 0; omega, by show 0 + 0 ≤ 0; omega⟩ (Nat.le_of_ble_eq_true rfl) d_MD_readAt_292 (fun v f15 H locs hp hw hsz9 hkp9 hdm9 => ?_)
                            obtain ⟨rfl, hL_f15⟩ := hp
                            refine W.eq (g2 := F0 m 295 ls []) rfl ?_
                            obtain ⟨si, un, bu, ma, bt, so, co, gsi, gun, gbu, gma, gbt, gso, gco, hM, hT, hB, hZ, hMa, hC, hY⟩ := id hL_f15
                            rw [List.append_assoc] at hL_f15
                            refine lv_iload hx hb d_MD_readAt_295 (lv_at hl 2 rfl) ?_
                            refine lv_iconst (v := iI (1)) hx hb d_MD_readAt_297 rfl ?_
                            refine di_add hx hb d_MD_readAt_298 ?_
                            have hr9 : rdr Z en k = (gss Z k 1 0, 1 + 1) := hr8
                            have hu9 : uts ((gss Z k 1 0, 1 + 1)).1 = [55296 + (gss Z k 1 0 - 65536) / 1024, 56320 + (gss Z k 1 0 - 65536) % 1024] := by show uts (gss Z k 1 0) = _; rw [uts, if_neg (by omega)]
                            exact cn_iret hx hb hr hlk hw  (⟨by rw [hr9, if_neg (show ¬ ((gss Z k 1 0, 1 + 1)).1 = -1 by show ¬ (gss Z k 1 0) = -1; omega)], _, by rw [hr9, if_neg (show ¬ ((gss Z k 1 0, 1 + 1)).1 = -1 by show ¬ (gss Z k 1 0) = -1; omega), hu9]; exact hL_f15⟩) (Nat.le_refl _) (Nat.le_refl _) d_MD_readAt_299
                      · refine lv_iload hx hb d_MD_readAt_230 (lv_at hl 0 rfl) ?_
                        refine di_neg hx hb d_MD_readAt_232 ?_
                        have hr9 : rdr Z en k = (-1, bgn Z k 1 true 64 0 1) := hall.1 (by omega)
                        exact cn_iret hx hb hr hlk hw  (⟨by rw [hr9, if_pos (show (((-1 : Int), (bgn Z k 1 true 64 0 1 : Int)) : Int × Int).1 = -1 from rfl)], _, by rw [hr9, if_pos (show (((-1 : Int), (bgn Z k 1 true 64 0 1 : Int)) : Int × Int).1 = -1 from rfl), List.append_nil]; exact hL_f12⟩) (Nat.le_refl _) (Nat.le_refl _) d_MD_readAt_233
                  · refine lv_iconst (v := iI (0)) hx hb d_MD_readAt_160 rfl ?_
                    refine lv_goto (tgt := 203) hx hb d_MD_readAt_161 (by decide) ?_
                    refine lv_istore (lv' := [(5, .int (iI 0)), (4, .int (iI (b2 true))), (3, .int (iI (gt Z k))), (0, .ref y), (1, .int (iI k)), (2, .int (iI en))]) hx hb d_MD_readAt_203 hl (by decide) rfl (fun ls hl => ?_)
                    refine lv_iload hx hb d_MD_readAt_205 (lv_at hl 0 rfl) ?_
                    refine di_if_ne (tgt := 212) hx hb d_MD_readAt_207 (by decide) ⟨by decide, by decide⟩ (fun q9 => absurd q9 (by decide)) (fun _ => ?_)
                    refine lv_iconst (v := iI (-1)) hx hb d_MD_readAt_210 rfl ?_
                    have hr9 : rdr Z en k = (-1, 1) := rd_0 hen01 (by omega)
                    exact cn_iret hx hb hr hlk hw  (⟨by rw [hr9, if_pos (show (((-1 : Int), (1 : Int)) : Int × Int).1 = -1 from rfl)], _, by rw [hr9, if_pos (show (((-1 : Int), (1 : Int)) : Int × Int).1 = -1 from rfl), List.append_nil]; exact hL⟩) (Nat.le_refl _) (Nat.le_refl _) d_MD_readAt_211
                · have hen1 : en = 1 := by omega
                  refine lv_aload_n hx hb d_MD_readAt_146 rfl (lv_at hl 2 rfl) ?_
                  refine lv_iconst (v := iI (0)) hx hb d_MD_readAt_147 rfl ?_
                  refine cs_MD_64 X hz hw hl.1 hM.1 (c_MD_make l G f _ y th T Y B Z M C 0 (by omega) ⟨si, un, bu, ma, bt, so, co, _, _, _, _, _, _, _, hM, hT, hB, hZ, hMa, hC, hY⟩) ⟨Nat.le_of_ble_eq_true rfl, Nat.le_of_ble_eq_true rfl⟩ ⟨by show 0 + 0 ≤ 0; omega, by show 0 + 0 ≤ 0; omega⟩ (Nat.le_of_ble_eq_true rfl) d_MD_readAt_148 (fun v f11 H locs hp hw hsz9 hkp9 hdm9 => ?_)
                  obtain ⟨rfl, hL_f11⟩ := hp
                  refine W.eq (g2 := F0 m 151 ls []) rfl ?_
                  obtain ⟨si, un, bu, ma, bt, so, co, gsi, gun, gbu, gma, gbt, gso, gco, hM, hT, hB, hZ, hMa, hC, hY⟩ := id hL_f11
                  refine lv_iconst (v := iI (2)) hx hb d_MD_readAt_151 rfl ?_
                  have hr9 : rdr Z en k = ((0 : Int), 2) := by rw [hen1]; exact rd_z (by omega) (by omega)
                  have hu9 : uts (((0 : Int), 2)).1 = [0] := rfl
                  exact cn_iret hx hb hr hlk hw  (⟨by rw [hr9, if_neg (show ¬ (((0 : Int), 2)).1 = -1 by show ¬ ((0 : Int)) = -1; omega)], _, by rw [hr9, if_neg (show ¬ (((0 : Int), 2)).1 = -1 by show ¬ ((0 : Int)) = -1; omega), hu9]; exact hL_f11⟩) (Nat.le_refl _) (Nat.le_refl _) d_MD_readAt_152
        · exfalso; omega
      · refine lv_iload_n hx hb d_MD_readAt_24 rfl (lv_at hl 0 rfl) ?_
        refine di_if_gt (tgt := 32) hx hb d_MD_readAt_25 (by decide) ⟨by omega, by omega⟩ (fun bq25 => ?_) (fun bq25 => ?_)
        · refine lv_aload_n hx hb d_MD_readAt_32 rfl (lv_at hl 1 rfl) ?_
          refine lv_iload_n hx hb d_MD_readAt_33 rfl (lv_at hl 0 rfl) ?_
          refine cs_MD_64 X hz hw hl.1 hM.1 (c_MD_make l G f _ y th T Y B Z M C (gt Z k) (by omega) ⟨si, un, bu, ma, bt, so, co, _, _, _, _, _, _, _, hM, hT, hB, hZ, hMa, hC, hY⟩) ⟨Nat.le_of_ble_eq_true rfl, Nat.le_of_ble_eq_true rfl⟩ ⟨by show 0 + 0 ≤ 0; omega, by show 0 + 0 ≤ 0; omega⟩ (Nat.le_of_ble_eq_true rfl) d_MD_readAt_34 (fun v f11 H locs hp hw hsz9 hkp9 hdm9 => ?_)
          obtain ⟨rfl, hL_f11⟩ := hp
          refine W.eq (g2 := F0 m 37 ls []) rfl ?_
          obtain ⟨si, un, bu, ma, bt, so, co, gsi, gun, gbu, gma, gbt, gso, gco, hM, hT, hB, hZ, hMa, hC, hY⟩ := id hL_f11
          refine lv_iconst (v := iI (1)) hx hb d_MD_readAt_37 rfl ?_
          have hr9 : rdr Z en k = (gt Z k, 1) := rd_a hen01 (by omega)
          have hu9 : uts ((gt Z k, 1)).1 = [gt Z k] := by show uts (gt Z k) = _; rw [uts, if_pos (by omega)]
          exact cn_iret hx hb hr hlk hw  (⟨by rw [hr9, if_neg (show ¬ ((gt Z k, 1)).1 = -1 by show ¬ (gt Z k) = -1; omega)], _, by rw [hr9, if_neg (show ¬ ((gt Z k, 1)).1 = -1 by show ¬ (gt Z k) = -1; omega), hu9]; exact hL_f11⟩) (Nat.le_refl _) (Nat.le_refl _) d_MD_readAt_38
        · refine lv_iload_n hx hb d_MD_readAt_28 rfl (lv_at hl 3 rfl) ?_
          refine di_if_ne (tgt := 39) hx hb d_MD_readAt_29 (by decide) ⟨by omega, by omega⟩ (fun bq29 => ?_) (fun bq29 => ?_)
          · refine lv_iload_n hx hb d_MD_readAt_39 rfl (lv_at hl 3 rfl) ?_
            refine lv_iconst (v := iI (1)) hx hb d_MD_readAt_40 rfl ?_
            refine di_icmp_le (tgt := 98) hx hb d_MD_readAt_41 (by decide) ⟨by omega, by omega⟩ ⟨by omega, by omega⟩ (fun bq41 => ?_) (fun bq41 => ?_)
            · refine lv_iload_n hx hb d_MD_readAt_98 rfl (lv_at hl 3 rfl) ?_
              refine lv_iconst (v := iI (1)) hx hb d_MD_readAt_99 rfl ?_
              refine di_icmp_ne (tgt := 107) hx hb d_MD_readAt_100 (by decide) ⟨by omega, by omega⟩ ⟨by omega, by omega⟩ (fun bq100 => ?_) (fun bq100 => ?_)
              · refine lv_iconst (v := iI (0)) hx hb d_MD_readAt_107 rfl ?_
                have hmd : md2 en = false := decide_eq_false (by omega)
                refine lv_istore (lv' := [(4, .int (iI (b2 false))), (3, .int (iI (gt Z k))), (0, .ref y), (1, .int (iI k)), (2, .int (iI en))]) hx hb d_MD_readAt_108 hl (by decide) rfl (fun ls hl => ?_)
                refine lv_iload hx hb d_MD_readAt_110 (lv_at hl 0 rfl) ?_
                refine di_if_eq (tgt := 153) hx hb d_MD_readAt_112 (by decide) ⟨by decide, by decide⟩ (fun _ => ?_) (fun q9 => absurd q9 (by decide))
                have hz9 : ¬ (en = 1 ∧ gt Z k = 192 ∧ gt Z (k + 1) = 128) := fun q => by omega
                refine lv_iload_n hx hb d_MD_readAt_153 rfl (lv_at hl 1 rfl) ?_
                refine lv_sipush (v := iI (192)) hx hb d_MD_readAt_154 rfl ?_
                refine di_icmp_ge (tgt := 164) hx hb d_MD_readAt_157 (by decide) ⟨by omega, by omega⟩ ⟨by omega, by omega⟩ (fun bq157 => ?_) (fun bq157 => ?_)
                · refine lv_iload_n hx hb d_MD_readAt_164 rfl (lv_at hl 1 rfl) ?_
                  refine lv_sipush (v := iI (224)) hx hb d_MD_readAt_165 rfl ?_
                  refine di_icmp_ge (tgt := 175) hx hb d_MD_readAt_168 (by decide) ⟨by omega, by omega⟩ ⟨by omega, by omega⟩ (fun bq168 => ?_) (fun bq168 => ?_)
                  · refine lv_iload_n hx hb d_MD_readAt_175 rfl (lv_at hl 1 rfl) ?_
                    refine lv_sipush (v := iI (240)) hx hb d_MD_readAt_176 rfl ?_
                    refine di_icmp_ge (tgt := 186) hx hb d_MD_readAt_179 (by decide) ⟨by omega, by omega⟩ ⟨by omega, by omega⟩ (fun bq179 => ?_) (fun bq179 => ?_)
                    · refine lv_iload_n hx hb d_MD_readAt_186 rfl (lv_at hl 1 rfl) ?_
                      refine lv_sipush (v := iI (248)) hx hb d_MD_readAt_187 rfl ?_
                      refine di_icmp_ge (tgt := 202) hx hb d_MD_readAt_190 (by decide) ⟨by omega, by omega⟩ ⟨by omega, by omega⟩ (fun bq190 => ?_) (fun bq190 => ?_)
                      · refine lv_iconst (v := iI (0)) hx hb d_MD_readAt_202 rfl ?_
                        refine lv_istore (lv' := [(5, .int (iI 0)), (4, .int (iI (b2 false))), (3, .int (iI (gt Z k))), (0, .ref y), (1, .int (iI k)), (2, .int (iI en))]) hx hb d_MD_readAt_203 hl (by decide) rfl (fun ls hl => ?_)
                        refine lv_iload hx hb d_MD_readAt_205 (lv_at hl 0 rfl) ?_
                        refine di_if_ne (tgt := 212) hx hb d_MD_readAt_207 (by decide) ⟨by decide, by decide⟩ (fun q9 => absurd q9 (by decide)) (fun _ => ?_)
                        refine lv_iconst (v := iI (-1)) hx hb d_MD_readAt_210 rfl ?_
                        have hr9 : rdr Z en k = (-1, 1) := rd_0 hen01 (by omega)
                        exact cn_iret hx hb hr hlk hw  (⟨by rw [hr9, if_pos (show (((-1 : Int), (1 : Int)) : Int × Int).1 = -1 from rfl)], _, by rw [hr9, if_pos (show (((-1 : Int), (1 : Int)) : Int × Int).1 = -1 from rfl), List.append_nil]; exact hL⟩) (Nat.le_refl _) (Nat.le_refl _) d_MD_readAt_211
                      · refine lv_iload hx hb d_MD_readAt_193 (lv_at hl 0 rfl) ?_
                        refine di_if_ne (tgt := 202) hx hb d_MD_readAt_195 (by decide) ⟨by decide, by decide⟩ (fun q9 => absurd q9 (by decide)) (fun _ => ?_)
                        refine lv_iconst (v := iI (3)) hx hb d_MD_readAt_198 rfl ?_
                        refine lv_goto (tgt := 203) hx hb d_MD_readAt_199 (by decide) ?_
                        refine lv_istore (lv' := [(5, .int (iI 3)), (4, .int (iI (b2 false))), (3, .int (iI (gt Z k))), (0, .ref y), (1, .int (iI k)), (2, .int (iI en))]) hx hb d_MD_readAt_203 hl (by decide) rfl (fun ls hl => ?_)
                        refine lv_iload hx hb d_MD_readAt_205 (lv_at hl 0 rfl) ?_
                        refine di_if_ne (tgt := 212) hx hb d_MD_readAt_207 (by decide) ⟨by decide, by decide⟩ (fun _ => ?_) (fun q9 => absurd q9 (by decide))
                        refine lv_aload_n hx hb d_MD_readAt_212 rfl (lv_at hl 3 rfl) ?_
                        refine lv_iload_n hx hb d_MD_readAt_213 rfl (lv_at hl 4 rfl) ?_
                        refine lv_iload hx hb d_MD_readAt_214 (lv_at hl 0 rfl) ?_
                        refine lv_iload hx hb d_MD_readAt_216 (lv_at hl 1 rfl) ?_
                        have hall := rd_all hen01 (n := 3) (Or.inr (Or.inr ⟨rfl, by omega, by omega, by omega⟩)) hz9
                        rw [hmd] at hall
                        refine cs_MD_131 X hz hw hl.1 hM.1 (c_MD_begun l G f _ y th T Y B Z M C k 3 false hk ⟨by omega, by omega⟩ ⟨si, un, bu, ma, bt, so, co, _, _, _, _, _, _, _, hM, hT, hB, hZ, hMa, hC, hY⟩) ⟨Nat.le_of_ble_eq_true rfl, Nat.le_of_ble_eq_true rfl⟩ ⟨by show 0 + 0 ≤ 0; omega, by show 0 + 0 ≤ 0; omega⟩ (Nat.le_of_ble_eq_true rfl) d_MD_readAt_218 (fun v f12 H locs hp hw hsz9 hkp9 hdm9 => ?_)
                        obtain ⟨rfl, C2, hL_f12⟩ := hp
                        refine W.eq (g2 := F0 m 221 ls [.int (iI (bgn Z k 3 false 64 0 1))]) rfl ?_
                        obtain ⟨si, un, bu, ma, bt, so, co, gsi, gun, gbu, gma, gbt, gso, gco, hM, hT, hB, hZ, hMa, hC, hY⟩ := id hL_f12
                        refine lv_istore (lv' := [(6, .int (iI (bgn Z k 3 false 64 0 1))), (5, .int (iI 3)), (4, .int (iI (b2 false))), (3, .int (iI (gt Z k))), (0, .ref y), (1, .int (iI k)), (2, .int (iI en))]) hx hb d_MD_readAt_221 hl (by decide) rfl (fun ls hl => ?_)
                        refine lv_iload hx hb d_MD_readAt_223 (lv_at hl 0 rfl) ?_
                        refine lv_iload hx hb d_MD_readAt_225 (lv_at hl 1 rfl) ?_
                        refine di_icmp_gt (tgt := 234) hx hb d_MD_readAt_227 (by decide) ⟨by omega, by omega⟩ ⟨by omega, by omega⟩ (fun bq227 => ?_) (fun bq227 => ?_)
                        · have hr8 := hall.2.1 (by omega)
                          have hrr := rdr_rng hZr hen hk.1 hk.2
                          rw [hr8] at hrr
                          have hgg := gss_rng (Z := Z) (k := k) (n := 3) ⟨by omega, by omega⟩ (fl := 0) ⟨by omega, by omega⟩
                          have hrr1 : gss Z k 3 0 < 1114112 := hrr.2.1
                          refine lv_aload_n hx hb d_MD_readAt_234 rfl (lv_at hl 4 rfl) ?_
                          refine lv_iload_n hx hb d_MD_readAt_235 rfl (lv_at hl 5 rfl) ?_
                          refine lv_iload hx hb d_MD_readAt_236 (lv_at hl 1 rfl) ?_
                          refine lv_iconst (v := iI (0)) hx hb d_MD_readAt_238 rfl ?_
                          refine cs_MD_121 X hz hw hl.1 hM.1 (c_MD_guess l G f12 _ y th T Y B Z M C2 k 3 0 hk ⟨by omega, by omega⟩ ⟨by omega, by omega⟩ ⟨si, un, bu, ma, bt, so, co, _, _, _, _, _, _, _, hM, hT, hB, hZ, hMa, hC, hY⟩) ⟨Nat.le_of_ble_eq_true rfl, Nat.le_of_ble_eq_true rfl⟩ ⟨by show 0 + 0 ≤ 0; omega, by show 0 + 0 ≤ 0; omega⟩ (Nat.le_of_ble_eq_true rfl) d_MD_readAt_239 (fun v f9 H locs hp hw hsz9 hkp9 hdm9 => ?_)
                          obtain ⟨rfl, hfe⟩ := hp
                          rw [hfe] at hw
                          refine W.eq (g2 := F0 m 242 ls [.int (iI (gss Z k 3 0))]) rfl ?_
                          refine lv_istore (lv' := [(7, .int (iI (gss Z k 3 0))), (6, .int (iI (bgn Z k 3 false 64 0 1))), (5, .int (iI 3)), (4, .int (iI (b2 false))), (3, .int (iI (gt Z k))), (0, .ref y), (1, .int (iI k)), (2, .int (iI en))]) hx hb d_MD_readAt_242 hl (by decide) rfl (fun ls hl => ?_)
                          refine lv_iload hx hb d_MD_readAt_244 (lv_at hl 0 rfl) ?_
                          refine lv_ldc (v := iI (65535)) hx hb X.own (X.hts _ mw_859) d_MD_readAt_246 ?_
                          refine di_icmp_le (tgt := 267) hx hb d_MD_readAt_248 (by decide) ⟨by omega, by omega⟩ ⟨by omega, by omega⟩ (fun bq248 => ?_) (fun bq248 => ?_)
                          · refine lv_aload_n hx hb d_MD_readAt_267 rfl (lv_at hl 5 rfl) ?_
                            refine lv_iload hx hb d_MD_readAt_268 (lv_at hl 0 rfl) ?_
                            refine lv_ldc (v := iI (65535)) hx hb X.own (X.hts _ mw_859) d_MD_readAt_270 ?_
                            refine di_icmp_le (tgt := 290) hx hb d_MD_readAt_272 (by decide) ⟨by omega, by omega⟩ ⟨by omega, by omega⟩ (fun bq272 => ?_) (fun bq272 => ?_)
                            · refine lv_iload hx hb d_MD_readAt_290 (lv_at hl 0 rfl) ?_
                              refine cs_MD_64 X hz hw hl.1 hM.1 (c_MD_make l G f12 _ y th T Y B Z M C2 (gss Z k 3 0) (by omega) ⟨si, un, bu, ma, bt, so, co, _, _, _, _, _, _, _, hM, hT, hB, hZ, hMa, hC, hY⟩) ⟨Nat.le_of_ble_eq_true rfl, Nat.le_of_ble_eq_true rfl⟩ ⟨by show 0 + 0 ≤ 0; omega, by show 0 + 0 ≤ 0; omega⟩ (Nat.le_of_ble_eq_true rfl) d_MD_readAt_292 (fun v f14 H locs hp hw hsz9 hkp9 hdm9 => ?_)
                              obtain ⟨rfl, hL_f14⟩ := hp
                              refine W.eq (g2 := F0 m 295 ls []) rfl ?_
                              obtain ⟨si, un, bu, ma, bt, so, co, gsi, gun, gbu, gma, gbt, gso, gco, hM, hT, hB, hZ, hMa, hC, hY⟩ := id hL_f14
                              refine lv_iload hx hb d_MD_readAt_295 (lv_at hl 2 rfl) ?_
                              refine lv_iconst (v := iI (1)) hx hb d_MD_readAt_297 rfl ?_
                              refine di_add hx hb d_MD_readAt_298 ?_
                              have hr9 : rdr Z en k = (gss Z k 3 0, 3 + 1) := hr8
                              have hu9 : uts ((gss Z k 3 0, 3 + 1)).1 = [gss Z k 3 0] := by show uts (gss Z k 3 0) = _; rw [uts, if_pos (by omega)]
                              exact cn_iret hx hb hr hlk hw  (⟨by rw [hr9, if_neg (show ¬ ((gss Z k 3 0, 3 + 1)).1 = -1 by show ¬ (gss Z k 3 0) = -1; omega)], _, by rw [hr9, if_neg (show ¬ ((gss Z k 3 0, 3 + 1)).1 = -1 by show ¬ (gss Z k 3 0) = -1; omega), hu9]; exact hL_f14⟩) (Nat.le_refl _) (Nat.le_refl _) d_MD_readAt_299
                            · exfalso; omega
                          · refine lv_aload_n hx hb d_MD_readAt_251 rfl (lv_at hl 5 rfl) ?_
                            refine lv_ldc (v := iI (55296)) hx hb X.own (X.hts _ mw_732) d_MD_readAt_252 ?_
                            refine lv_iload hx hb d_MD_readAt_254 (lv_at hl 0 rfl) ?_
                            refine lv_ldc (v := iI (65536)) hx hb X.own (X.hts _ mw_697) d_MD_readAt_256 ?_
                            refine di_sub hx hb d_MD_readAt_258 ?_
                            refine lv_sipush (v := iI (1024)) hx hb d_MD_readAt_259 rfl ?_
                            refine di_div hx hb d_MD_readAt_262 (by omega) (by omega) (by omega) (by omega) ?_
                            refine di_add hx hb d_MD_readAt_263 ?_
                            refine cs_MD_64 X hz hw hl.1 hM.1 (c_MD_make l G f12 _ y th T Y B Z M C2 (55296 + (gss Z k 3 0 - 65536) / 1024) (by omega) ⟨si, un, bu, ma, bt, so, co, _, _, _, _, _, _, _, hM, hT, hB, hZ, hMa, hC, hY⟩) ⟨Nat.le_of_ble_eq_true rfl, Nat.le_of_ble_eq_true rfl⟩ ⟨by show 0 + 0 ≤ 0; omega, by show 0 + 0 ≤ 0; omega⟩ (Nat.le_of_ble_eq_true rfl) d_MD_readAt_264 (fun v f14 H locs hp hw hsz9 hkp9 hdm9 => ?_)
                            obtain ⟨rfl, hL_f14⟩ := hp
                            refine W.eq (g2 := F0 m 267 ls []) rfl ?_
                            obtain ⟨si, un, bu, ma, bt, so, co, gsi, gun, gbu, gma, gbt, gso, gco, hM, hT, hB, hZ, hMa, hC, hY⟩ := id hL_f14
                            refine lv_aload_n hx hb d_MD_readAt_267 rfl (lv_at hl 5 rfl) ?_
                            refine lv_iload hx hb d_MD_readAt_268 (lv_at hl 0 rfl) ?_
                            refine lv_ldc (v := iI (65535)) hx hb X.own (X.hts _ mw_859) d_MD_readAt_270 ?_
                            refine di_icmp_le (tgt := 290) hx hb d_MD_readAt_272 (by decide) ⟨by omega, by omega⟩ ⟨by omega, by omega⟩ (fun bq272 => ?_) (fun bq272 => ?_)
                            · exfalso; omega
                            · refine lv_ldc (v := iI (56320)) hx hb X.own (X.hts _ mw_737) d_MD_readAt_275 ?_
                              refine lv_iload hx hb d_MD_readAt_277 (lv_at hl 0 rfl) ?_
                              refine lv_ldc (v := iI (65536)) hx hb X.own (X.hts _ mw_697) d_MD_readAt_279 ?_
                              refine di_sub hx hb d_MD_readAt_281 ?_
                              refine lv_sipush (v := iI (1024)) hx hb d_MD_readAt_282 rfl ?_
                              refine di_rem hx hb d_MD_readAt_285 (by omega) (by omega) (by omega) (by omega) ?_
                              refine di_add hx hb d_MD_readAt_286 ?_
                              refine lv_goto (tgt := 292) hx hb d_MD_readAt_287 (by decide) ?_
                              refine cs_MD_64 X hz hw hl.1 hM.1 (c_MD_make l G f14 _ y th T Y B Z (M ++ [55296 + (gss Z k 3 0 - 65536) / 1024]) C2 (56320 + (gss Z k 3 0 - 65536) % 1024) (by simp; omega) ⟨si, un, bu, ma, bt, so, co, _, _, _, _, _, _, _, hM, hT, hB, hZ, hMa, hC, hY⟩) ⟨Nat.le_of_ble_eq_true rfl, Nat.le_of_ble_eq_true rfl⟩ ⟨by show 0 + 0 ≤ 0; omega, by show 0 + 0 ≤ 0; omega⟩ (Nat.le_of_ble_eq_true rfl) d_MD_readAt_292 (fun v f15 H locs hp hw hsz9 hkp9 hdm9 => ?_)
                              obtain ⟨rfl, hL_f15⟩ := hp
                              refine W.eq (g2 := F0 m 295 ls []) rfl ?_
                              obtain ⟨si, un, bu, ma, bt, so, co, gsi, gun, gbu, gma, gbt, gso, gco, hM, hT, hB, hZ, hMa, hC, hY⟩ := id hL_f15
                              rw [List.append_assoc] at hL_f15
                              refine lv_iload hx hb d_MD_readAt_295 (lv_at hl 2 rfl) ?_
                              refine lv_iconst (v := iI (1)) hx hb d_MD_readAt_297 rfl ?_
                              refine di_add hx hb d_MD_readAt_298 ?_
                              have hr9 : rdr Z en k = (gss Z k 3 0, 3 + 1) := hr8
                              have hu9 : uts ((gss Z k 3 0, 3 + 1)).1 = [55296 + (gss Z k 3 0 - 65536) / 1024, 56320 + (gss Z k 3 0 - 65536) % 1024] := by show uts (gss Z k 3 0) = _; rw [uts, if_neg (by omega)]
                              exact cn_iret hx hb hr hlk hw  (⟨by rw [hr9, if_neg (show ¬ ((gss Z k 3 0, 3 + 1)).1 = -1 by show ¬ (gss Z k 3 0) = -1; omega)], _, by rw [hr9, if_neg (show ¬ ((gss Z k 3 0, 3 + 1)).1 = -1 by show ¬ (gss Z k 3 0) = -1; omega), hu9]; exact hL_f15⟩) (Nat.le_refl _) (Nat.le_refl _) d_MD_readAt_299
                        · refine lv_iload hx hb d_MD_readAt_230 (lv_at hl 0 rfl) ?_
                          refine di_neg hx hb d_MD_readAt_232 ?_
                          have hr9 : rdr Z en k = (-1, bgn Z k 3 false 64 0 1) := hall.1 (by omega)
                          exact cn_iret hx hb hr hlk hw  (⟨by rw [hr9, if_pos (show (((-1 : Int), (bgn Z k 3 false 64 0 1 : Int)) : Int × Int).1 = -1 from rfl)], _, by rw [hr9, if_pos (show (((-1 : Int), (bgn Z k 3 false 64 0 1 : Int)) : Int × Int).1 = -1 from rfl), List.append_nil]; exact hL_f12⟩) (Nat.le_refl _) (Nat.le_refl _) d_MD_readAt_233
                    · refine lv_iconst (v := iI (2)) hx hb d_MD_readAt_182 rfl ?_
                      refine lv_goto (tgt := 203) hx hb d_MD_readAt_183 (by decide) ?_
                      refine lv_istore (lv' := [(5, .int (iI 2)), (4, .int (iI (b2 false))), (3, .int (iI (gt Z k))), (0, .ref y), (1, .int (iI k)), (2, .int (iI en))]) hx hb d_MD_readAt_203 hl (by decide) rfl (fun ls hl => ?_)
                      refine lv_iload hx hb d_MD_readAt_205 (lv_at hl 0 rfl) ?_
                      refine di_if_ne (tgt := 212) hx hb d_MD_readAt_207 (by decide) ⟨by decide, by decide⟩ (fun _ => ?_) (fun q9 => absurd q9 (by decide))
                      refine lv_aload_n hx hb d_MD_readAt_212 rfl (lv_at hl 3 rfl) ?_
                      refine lv_iload_n hx hb d_MD_readAt_213 rfl (lv_at hl 4 rfl) ?_
                      refine lv_iload hx hb d_MD_readAt_214 (lv_at hl 0 rfl) ?_
                      refine lv_iload hx hb d_MD_readAt_216 (lv_at hl 1 rfl) ?_
                      have hall := rd_all hen01 (n := 2) (Or.inr (Or.inl ⟨rfl, by omega, by omega⟩)) hz9
                      rw [hmd] at hall
                      refine cs_MD_131 X hz hw hl.1 hM.1 (c_MD_begun l G f _ y th T Y B Z M C k 2 false hk ⟨by omega, by omega⟩ ⟨si, un, bu, ma, bt, so, co, _, _, _, _, _, _, _, hM, hT, hB, hZ, hMa, hC, hY⟩) ⟨Nat.le_of_ble_eq_true rfl, Nat.le_of_ble_eq_true rfl⟩ ⟨by show 0 + 0 ≤ 0; omega, by show 0 + 0 ≤ 0; omega⟩ (Nat.le_of_ble_eq_true rfl) d_MD_readAt_218 (fun v f12 H locs hp hw hsz9 hkp9 hdm9 => ?_)
                      obtain ⟨rfl, C2, hL_f12⟩ := hp
                      refine W.eq (g2 := F0 m 221 ls [.int (iI (bgn Z k 2 false 64 0 1))]) rfl ?_
                      obtain ⟨si, un, bu, ma, bt, so, co, gsi, gun, gbu, gma, gbt, gso, gco, hM, hT, hB, hZ, hMa, hC, hY⟩ := id hL_f12
                      refine lv_istore (lv' := [(6, .int (iI (bgn Z k 2 false 64 0 1))), (5, .int (iI 2)), (4, .int (iI (b2 false))), (3, .int (iI (gt Z k))), (0, .ref y), (1, .int (iI k)), (2, .int (iI en))]) hx hb d_MD_readAt_221 hl (by decide) rfl (fun ls hl => ?_)
                      refine lv_iload hx hb d_MD_readAt_223 (lv_at hl 0 rfl) ?_
                      refine lv_iload hx hb d_MD_readAt_225 (lv_at hl 1 rfl) ?_
                      refine di_icmp_gt (tgt := 234) hx hb d_MD_readAt_227 (by decide) ⟨by omega, by omega⟩ ⟨by omega, by omega⟩ (fun bq227 => ?_) (fun bq227 => ?_)
                      · have hr8 := hall.2.1 (by omega)
                        have hrr := rdr_rng hZr hen hk.1 hk.2
                        rw [hr8] at hrr
                        have hgg := gss_rng (Z := Z) (k := k) (n := 2) ⟨by omega, by omega⟩ (fl := 0) ⟨by omega, by omega⟩
                        have hrr1 : gss Z k 2 0 < 1114112 := hrr.2.1
                        refine lv_aload_n hx hb d_MD_readAt_234 rfl (lv_at hl 4 rfl) ?_
                        refine lv_iload_n hx hb d_MD_readAt_235 rfl (lv_at hl 5 rfl) ?_
                        refine lv_iload hx hb d_MD_readAt_236 (lv_at hl 1 rfl) ?_
                        refine lv_iconst (v := iI (0)) hx hb d_MD_readAt_238 rfl ?_
                        refine cs_MD_121 X hz hw hl.1 hM.1 (c_MD_guess l G f12 _ y th T Y B Z M C2 k 2 0 hk ⟨by omega, by omega⟩ ⟨by omega, by omega⟩ ⟨si, un, bu, ma, bt, so, co, _, _, _, _, _, _, _, hM, hT, hB, hZ, hMa, hC, hY⟩) ⟨Nat.le_of_ble_eq_true rfl, Nat.le_of_ble_eq_true rfl⟩ ⟨by show 0 + 0 ≤ 0; omega, by show 0 + 0 ≤ 0; omega⟩ (Nat.le_of_ble_eq_true rfl) d_MD_readAt_239 (fun v f9 H locs hp hw hsz9 hkp9 hdm9 => ?_)
                        obtain ⟨rfl, hfe⟩ := hp
                        rw [hfe] at hw
                        refine W.eq (g2 := F0 m 242 ls [.int (iI (gss Z k 2 0))]) rfl ?_
                        refine lv_istore (lv' := [(7, .int (iI (gss Z k 2 0))), (6, .int (iI (bgn Z k 2 false 64 0 1))), (5, .int (iI 2)), (4, .int (iI (b2 false))), (3, .int (iI (gt Z k))), (0, .ref y), (1, .int (iI k)), (2, .int (iI en))]) hx hb d_MD_readAt_242 hl (by decide) rfl (fun ls hl => ?_)
                        refine lv_iload hx hb d_MD_readAt_244 (lv_at hl 0 rfl) ?_
                        refine lv_ldc (v := iI (65535)) hx hb X.own (X.hts _ mw_859) d_MD_readAt_246 ?_
                        refine di_icmp_le (tgt := 267) hx hb d_MD_readAt_248 (by decide) ⟨by omega, by omega⟩ ⟨by omega, by omega⟩ (fun bq248 => ?_) (fun bq248 => ?_)
                        · refine lv_aload_n hx hb d_MD_readAt_267 rfl (lv_at hl 5 rfl) ?_
                          refine lv_iload hx hb d_MD_readAt_268 (lv_at hl 0 rfl) ?_
                          refine lv_ldc (v := iI (65535)) hx hb X.own (X.hts _ mw_859) d_MD_readAt_270 ?_
                          refine di_icmp_le (tgt := 290) hx hb d_MD_readAt_272 (by decide) ⟨by omega, by omega⟩ ⟨by omega, by omega⟩ (fun bq272 => ?_) (fun bq272 => ?_)
                          · refine lv_iload hx hb d_MD_readAt_290 (lv_at hl 0 rfl) ?_
                            refine cs_MD_64 X hz hw hl.1 hM.1 (c_MD_make l G f12 _ y th T Y B Z M C2 (gss Z k 2 0) (by omega) ⟨si, un, bu, ma, bt, so, co, _, _, _, _, _, _, _, hM, hT, hB, hZ, hMa, hC, hY⟩) ⟨Nat.le_of_ble_eq_true rfl, Nat.le_of_ble_eq_true rfl⟩ ⟨by show 0 + 0 ≤ 0; omega, by show 0 + 0 ≤ 0; omega⟩ (Nat.le_of_ble_eq_true rfl) d_MD_readAt_292 (fun v f14 H locs hp hw hsz9 hkp9 hdm9 => ?_)
                            obtain ⟨rfl, hL_f14⟩ := hp
                            refine W.eq (g2 := F0 m 295 ls []) rfl ?_
                            obtain ⟨si, un, bu, ma, bt, so, co, gsi, gun, gbu, gma, gbt, gso, gco, hM, hT, hB, hZ, hMa, hC, hY⟩ := id hL_f14
                            refine lv_iload hx hb d_MD_readAt_295 (lv_at hl 2 rfl) ?_
                            refine lv_iconst (v := iI (1)) hx hb d_MD_readAt_297 rfl ?_
                            refine di_add hx hb d_MD_readAt_298 ?_
                            have hr9 : rdr Z en k = (gss Z k 2 0, 2 + 1) := hr8
                            have hu9 : uts ((gss Z k 2 0, 2 + 1)).1 = [gss Z k 2 0] := by show uts (gss Z k 2 0) = _; rw [uts, if_pos (by omega)]
                            exact cn_iret hx hb hr hlk hw  (⟨by rw [hr9, if_neg (show ¬ ((gss Z k 2 0, 2 + 1)).1 = -1 by show ¬ (gss Z k 2 0) = -1; omega)], _, by rw [hr9, if_neg (show ¬ ((gss Z k 2 0, 2 + 1)).1 = -1 by show ¬ (gss Z k 2 0) = -1; omega), hu9]; exact hL_f14⟩) (Nat.le_refl _) (Nat.le_refl _) d_MD_readAt_299
                          · exfalso; omega
                        · refine lv_aload_n hx hb d_MD_readAt_251 rfl (lv_at hl 5 rfl) ?_
                          refine lv_ldc (v := iI (55296)) hx hb X.own (X.hts _ mw_732) d_MD_readAt_252 ?_
                          refine lv_iload hx hb d_MD_readAt_254 (lv_at hl 0 rfl) ?_
                          refine lv_ldc (v := iI (65536)) hx hb X.own (X.hts _ mw_697) d_MD_readAt_256 ?_
                          refine di_sub hx hb d_MD_readAt_258 ?_
                          refine lv_sipush (v := iI (1024)) hx hb d_MD_readAt_259 rfl ?_
                          refine di_div hx hb d_MD_readAt_262 (by omega) (by omega) (by omega) (by omega) ?_
                          refine di_add hx hb d_MD_readAt_263 ?_
                          refine cs_MD_64 X hz hw hl.1 hM.1 (c_MD_make l G f12 _ y th T Y B Z M C2 (55296 + (gss Z k 2 0 - 65536) / 1024) (by omega) ⟨si, un, bu, ma, bt, so, co, _, _, _, _, _, _, _, hM, hT, hB, hZ, hMa, hC, hY⟩) ⟨Nat.le_of_ble_eq_true rfl, Nat.le_of_ble_eq_true rfl⟩ ⟨by show 0 + 0 ≤ 0; omega, by show 0 + 0 ≤ 0; omega⟩ (Nat.le_of_ble_eq_true rfl) d_MD_readAt_264 (fun v f14 H locs hp hw hsz9 hkp9 hdm9 => ?_)
                          obtain ⟨rfl, hL_f14⟩ := hp
                          refine W.eq (g2 := F0 m 267 ls []) rfl ?_
                          obtain ⟨si, un, bu, ma, bt, so, co, gsi, gun, gbu, gma, gbt, gso, gco, hM, hT, hB, hZ, hMa, hC, hY⟩ := id hL_f14
                          refine lv_aload_n hx hb d_MD_readAt_267 rfl (lv_at hl 5 rfl) ?_
                          refine lv_iload hx hb d_MD_readAt_268 (lv_at hl 0 rfl) ?_
                          refine lv_ldc (v := iI (65535)) hx hb X.own (X.hts _ mw_859) d_MD_readAt_270 ?_
                          refine di_icmp_le (tgt := 290) hx hb d_MD_readAt_272 (by decide) ⟨by omega, by omega⟩ ⟨by omega, by omega⟩ (fun bq272 => ?_) (fun bq272 => ?_)
                          · exfalso; omega
                          · refine lv_ldc (v := iI (56320)) hx hb X.own (X.hts _ mw_737) d_MD_readAt_275 ?_
                            refine lv_iload hx hb d_MD_readAt_277 (lv_at hl 0 rfl) ?_
                            refine lv_ldc (v := iI (65536)) hx hb X.own (X.hts _ mw_697) d_MD_readAt_279 ?_
                            refine di_sub hx hb d_MD_readAt_281 ?_
                            refine lv_sipush (v := iI (1024)) hx hb d_MD_readAt_282 rfl ?_
                            refine di_rem hx hb d_MD_readAt_285 (by omega) (by omega) (by omega) (by omega) ?_
                            refine di_add hx hb d_MD_readAt_286 ?_
                            refine lv_goto (tgt := 292) hx hb d_MD_readAt_287 (by decide) ?_
                            refine cs_MD_64 X hz hw hl.1 hM.1 (c_MD_make l G f14 _ y th T Y B Z (M ++ [55296 + (gss Z k 2 0 - 65536) / 1024]) C2 (56320 + (gss Z k 2 0 - 65536) % 1024) (by simp; omega) ⟨si, un, bu, ma, bt, so, co, _, _, _, _, _, _, _, hM, hT, hB, hZ, hMa, hC, hY⟩) ⟨Nat.le_of_ble_eq_true rfl, Nat.le_of_ble_eq_true rfl⟩ ⟨by show 0 + 0 ≤ 0; omega, by show 0 + 0 ≤ 0; omega⟩ (Nat.le_of_ble_eq_true rfl) d_MD_readAt_292 (fun v f15 H locs hp hw hsz9 hkp9 hdm9 => ?_)
                            obtain ⟨rfl, hL_f15⟩ := hp
                            refine W.eq (g2 := F0 m 295 ls []) rfl ?_
                            obtain ⟨si, un, bu, ma, bt, so, co, gsi, gun, gbu, gma, gbt, gso, gco, hM, hT, hB, hZ, hMa, hC, hY⟩ := id hL_f15
                            rw [List.append_assoc] at hL_f15
                            refine lv_iload hx hb d_MD_readAt_295 (lv_at hl 2 rfl) ?_
                            refine lv_iconst (v := iI (1)) hx hb d_MD_readAt_297 rfl ?_
                            refine di_add hx hb d_MD_readAt_298 ?_
                            have hr9 : rdr Z en k = (gss Z k 2 0, 2 + 1) := hr8
                            have hu9 : uts ((gss Z k 2 0, 2 + 1)).1 = [55296 + (gss Z k 2 0 - 65536) / 1024, 56320 + (gss Z k 2 0 - 65536) % 1024] := by show uts (gss Z k 2 0) = _; rw [uts, if_neg (by omega)]
                            exact cn_iret hx hb hr hlk hw  (⟨by rw [hr9, if_neg (show ¬ ((gss Z k 2 0, 2 + 1)).1 = -1 by show ¬ (gss Z k 2 0) = -1; omega)], _, by rw [hr9, if_neg (show ¬ ((gss Z k 2 0, 2 + 1)).1 = -1 by show ¬ (gss Z k 2 0) = -1; omega), hu9]; exact hL_f15⟩) (Nat.le_refl _) (Nat.le_refl _) d_MD_readAt_299
                      · refine lv_iload hx hb d_MD_readAt_230 (lv_at hl 0 rfl) ?_
                        refine di_neg hx hb d_MD_readAt_232 ?_
                        have hr9 : rdr Z en k = (-1, bgn Z k 2 false 64 0 1) := hall.1 (by omega)
                        exact cn_iret hx hb hr hlk hw  (⟨by rw [hr9, if_pos (show (((-1 : Int), (bgn Z k 2 false 64 0 1 : Int)) : Int × Int).1 = -1 from rfl)], _, by rw [hr9, if_pos (show (((-1 : Int), (bgn Z k 2 false 64 0 1 : Int)) : Int × Int).1 = -1 from rfl), List.append_nil]; exact hL_f12⟩) (Nat.le_refl _) (Nat.le_refl _) d_MD_readAt_233
                  · refine lv_iconst (v := iI (1)) hx hb d_MD_readAt_171 rfl ?_
                    refine lv_goto (tgt := 203) hx hb d_MD_readAt_172 (by decide) ?_
                    refine lv_istore (lv' := [(5, .int (iI 1)), (4, .int (iI (b2 false))), (3, .int (iI (gt Z k))), (0, .ref y), (1, .int (iI k)), (2, .int (iI en))]) hx hb d_MD_readAt_203 hl (by decide) rfl (fun ls hl => ?_)
                    refine lv_iload hx hb d_MD_readAt_205 (lv_at hl 0 rfl) ?_
                    refine di_if_ne (tgt := 212) hx hb d_MD_readAt_207 (by decide) ⟨by decide, by decide⟩ (fun _ => ?_) (fun q9 => absurd q9 (by decide))
                    refine lv_aload_n hx hb d_MD_readAt_212 rfl (lv_at hl 3 rfl) ?_
                    refine lv_iload_n hx hb d_MD_readAt_213 rfl (lv_at hl 4 rfl) ?_
                    refine lv_iload hx hb d_MD_readAt_214 (lv_at hl 0 rfl) ?_
                    refine lv_iload hx hb d_MD_readAt_216 (lv_at hl 1 rfl) ?_
                    have hall := rd_all hen01 (n := 1) (Or.inl ⟨rfl, by omega, by omega⟩) hz9
                    rw [hmd] at hall
                    refine cs_MD_131 X hz hw hl.1 hM.1 (c_MD_begun l G f _ y th T Y B Z M C k 1 false hk ⟨by omega, by omega⟩ ⟨si, un, bu, ma, bt, so, co, _, _, _, _, _, _, _, hM, hT, hB, hZ, hMa, hC, hY⟩) ⟨Nat.le_of_ble_eq_true rfl, Nat.le_of_ble_eq_true rfl⟩ ⟨by show 0 + 0 ≤ 0; omega, by show 0 + 0 ≤ 0; omega⟩ (Nat.le_of_ble_eq_true rfl) d_MD_readAt_218 (fun v f12 H locs hp hw hsz9 hkp9 hdm9 => ?_)
                    obtain ⟨rfl, C2, hL_f12⟩ := hp
                    refine W.eq (g2 := F0 m 221 ls [.int (iI (bgn Z k 1 false 64 0 1))]) rfl ?_
                    obtain ⟨si, un, bu, ma, bt, so, co, gsi, gun, gbu, gma, gbt, gso, gco, hM, hT, hB, hZ, hMa, hC, hY⟩ := id hL_f12
                    refine lv_istore (lv' := [(6, .int (iI (bgn Z k 1 false 64 0 1))), (5, .int (iI 1)), (4, .int (iI (b2 false))), (3, .int (iI (gt Z k))), (0, .ref y), (1, .int (iI k)), (2, .int (iI en))]) hx hb d_MD_readAt_221 hl (by decide) rfl (fun ls hl => ?_)
                    refine lv_iload hx hb d_MD_readAt_223 (lv_at hl 0 rfl) ?_
                    refine lv_iload hx hb d_MD_readAt_225 (lv_at hl 1 rfl) ?_
                    refine di_icmp_gt (tgt := 234) hx hb d_MD_readAt_227 (by decide) ⟨by omega, by omega⟩ ⟨by omega, by omega⟩ (fun bq227 => ?_) (fun bq227 => ?_)
                    · have hr8 := hall.2.1 (by omega)
                      have hrr := rdr_rng hZr hen hk.1 hk.2
                      rw [hr8] at hrr
                      have hgg := gss_rng (Z := Z) (k := k) (n := 1) ⟨by omega, by omega⟩ (fl := 0) ⟨by omega, by omega⟩
                      have hrr1 : gss Z k 1 0 < 1114112 := hrr.2.1
                      refine lv_aload_n hx hb d_MD_readAt_234 rfl (lv_at hl 4 rfl) ?_
                      refine lv_iload_n hx hb d_MD_readAt_235 rfl (lv_at hl 5 rfl) ?_
                      refine lv_iload hx hb d_MD_readAt_236 (lv_at hl 1 rfl) ?_
                      refine lv_iconst (v := iI (0)) hx hb d_MD_readAt_238 rfl ?_
                      refine cs_MD_121 X hz hw hl.1 hM.1 (c_MD_guess l G f12 _ y th T Y B Z M C2 k 1 0 hk ⟨by omega, by omega⟩ ⟨by omega, by omega⟩ ⟨si, un, bu, ma, bt, so, co, _, _, _, _, _, _, _, hM, hT, hB, hZ, hMa, hC, hY⟩) ⟨Nat.le_of_ble_eq_true rfl, Nat.le_of_ble_eq_true rfl⟩ ⟨by show 0 + 0 ≤ 0; omega, by show 0 + 0 ≤ 0; omega⟩ (Nat.le_of_ble_eq_true rfl) d_MD_readAt_239 (fun v f9 H locs hp hw hsz9 hkp9 hdm9 => ?_)
                      obtain ⟨rfl, hfe⟩ := hp
                      rw [hfe] at hw
                      refine W.eq (g2 := F0 m 242 ls [.int (iI (gss Z k 1 0))]) rfl ?_
                      refine lv_istore (lv' := [(7, .int (iI (gss Z k 1 0))), (6, .int (iI (bgn Z k 1 false 64 0 1))), (5, .int (iI 1)), (4, .int (iI (b2 false))), (3, .int (iI (gt Z k))), (0, .ref y), (1, .int (iI k)), (2, .int (iI en))]) hx hb d_MD_readAt_242 hl (by decide) rfl (fun ls hl => ?_)
                      refine lv_iload hx hb d_MD_readAt_244 (lv_at hl 0 rfl) ?_
                      refine lv_ldc (v := iI (65535)) hx hb X.own (X.hts _ mw_859) d_MD_readAt_246 ?_
                      refine di_icmp_le (tgt := 267) hx hb d_MD_readAt_248 (by decide) ⟨by omega, by omega⟩ ⟨by omega, by omega⟩ (fun bq248 => ?_) (fun bq248 => ?_)
                      · refine lv_aload_n hx hb d_MD_readAt_267 rfl (lv_at hl 5 rfl) ?_
                        refine lv_iload hx hb d_MD_readAt_268 (lv_at hl 0 rfl) ?_
                        refine lv_ldc (v := iI (65535)) hx hb X.own (X.hts _ mw_859) d_MD_readAt_270 ?_
                        refine di_icmp_le (tgt := 290) hx hb d_MD_readAt_272 (by decide) ⟨by omega, by omega⟩ ⟨by omega, by omega⟩ (fun bq272 => ?_) (fun bq272 => ?_)
                        · refine lv_iload hx hb d_MD_readAt_290 (lv_at hl 0 rfl) ?_
                          refine cs_MD_64 X hz hw hl.1 hM.1 (c_MD_make l G f12 _ y th T Y B Z M C2 (gss Z k 1 0) (by omega) ⟨si, un, bu, ma, bt, so, co, _, _, _, _, _, _, _, hM, hT, hB, hZ, hMa, hC, hY⟩) ⟨Nat.le_of_ble_eq_true rfl, Nat.le_of_ble_eq_true rfl⟩ ⟨by show 0 + 0 ≤ 0; omega, by show 0 + 0 ≤ 0; omega⟩ (Nat.le_of_ble_eq_true rfl) d_MD_readAt_292 (fun v f14 H locs hp hw hsz9 hkp9 hdm9 => ?_)
                          obtain ⟨rfl, hL_f14⟩ := hp
                          refine W.eq (g2 := F0 m 295 ls []) rfl ?_
                          obtain ⟨si, un, bu, ma, bt, so, co, gsi, gun, gbu, gma, gbt, gso, gco, hM, hT, hB, hZ, hMa, hC, hY⟩ := id hL_f14
                          refine lv_iload hx hb d_MD_readAt_295 (lv_at hl 2 rfl) ?_
                          refine lv_iconst (v := iI (1)) hx hb d_MD_readAt_297 rfl ?_
                          refine di_add hx hb d_MD_readAt_298 ?_
                          have hr9 : rdr Z en k = (gss Z k 1 0, 1 + 1) := hr8
                          have hu9 : uts ((gss Z k 1 0, 1 + 1)).1 = [gss Z k 1 0] := by show uts (gss Z k 1 0) = _; rw [uts, if_pos (by omega)]
                          exact cn_iret hx hb hr hlk hw  (⟨by rw [hr9, if_neg (show ¬ ((gss Z k 1 0, 1 + 1)).1 = -1 by show ¬ (gss Z k 1 0) = -1; omega)], _, by rw [hr9, if_neg (show ¬ ((gss Z k 1 0, 1 + 1)).1 = -1 by show ¬ (gss Z k 1 0) = -1; omega), hu9]; exact hL_f14⟩) (Nat.le_refl _) (Nat.le_refl _) d_MD_readAt_299
                        · exfalso; omega
                      · refine lv_aload_n hx hb d_MD_readAt_251 rfl (lv_at hl 5 rfl) ?_
                        refine lv_ldc (v := iI (55296)) hx hb X.own (X.hts _ mw_732) d_MD_readAt_252 ?_
                        refine lv_iload hx hb d_MD_readAt_254 (lv_at hl 0 rfl) ?_
                        refine lv_ldc (v := iI (65536)) hx hb X.own (X.hts _ mw_697) d_MD_readAt_256 ?_
                        refine di_sub hx hb d_MD_readAt_258 ?_
                        refine lv_sipush (v := iI (1024)) hx hb d_MD_readAt_259 rfl ?_
                        refine di_div hx hb d_MD_readAt_262 (by omega) (by omega) (by omega) (by omega) ?_
                        refine di_add hx hb d_MD_readAt_263 ?_
                        refine cs_MD_64 X hz hw hl.1 hM.1 (c_MD_make l G f12 _ y th T Y B Z M C2 (55296 + (gss Z k 1 0 - 65536) / 1024) (by omega) ⟨si, un, bu, ma, bt, so, co, _, _, _, _, _, _, _, hM, hT, hB, hZ, hMa, hC, hY⟩) ⟨Nat.le_of_ble_eq_true rfl, Nat.le_of_ble_eq_true rfl⟩ ⟨by show 0 + 0 ≤ 0; omega, by show 0 + 0 ≤ 0; omega⟩ (Nat.le_of_ble_eq_true rfl) d_MD_readAt_264 (fun v f14 H locs hp hw hsz9 hkp9 hdm9 => ?_)
                        obtain ⟨rfl, hL_f14⟩ := hp
                        refine W.eq (g2 := F0 m 267 ls []) rfl ?_
                        obtain ⟨si, un, bu, ma, bt, so, co, gsi, gun, gbu, gma, gbt, gso, gco, hM, hT, hB, hZ, hMa, hC, hY⟩ := id hL_f14
                        refine lv_aload_n hx hb d_MD_readAt_267 rfl (lv_at hl 5 rfl) ?_
                        refine lv_iload hx hb d_MD_readAt_268 (lv_at hl 0 rfl) ?_
                        refine lv_ldc (v := iI (65535)) hx hb X.own (X.hts _ mw_859) d_MD_readAt_270 ?_
                        refine di_icmp_le (tgt := 290) hx hb d_MD_readAt_272 (by decide) ⟨by omega, by omega⟩ ⟨by omega, by omega⟩ (fun bq272 => ?_) (fun bq272 => ?_)
                        · exfalso; omega
                        · refine lv_ldc (v := iI (56320)) hx hb X.own (X.hts _ mw_737) d_MD_readAt_275 ?_
                          refine lv_iload hx hb d_MD_readAt_277 (lv_at hl 0 rfl) ?_
                          refine lv_ldc (v := iI (65536)) hx hb X.own (X.hts _ mw_697) d_MD_readAt_279 ?_
                          refine di_sub hx hb d_MD_readAt_281 ?_
                          refine lv_sipush (v := iI (1024)) hx hb d_MD_readAt_282 rfl ?_
                          refine di_rem hx hb d_MD_readAt_285 (by omega) (by omega) (by omega) (by omega) ?_
                          refine di_add hx hb d_MD_readAt_286 ?_
                          refine lv_goto (tgt := 292) hx hb d_MD_readAt_287 (by decide) ?_
                          refine cs_MD_64 X hz hw hl.1 hM.1 (c_MD_make l G f14 _ y th T Y B Z (M ++ [55296 + (gss Z k 1 0 - 65536) / 1024]) C2 (56320 + (gss Z k 1 0 - 65536) % 1024) (by simp; omega) ⟨si, un, bu, ma, bt, so, co, _, _, _, _, _, _, _, hM, hT, hB, hZ, hMa, hC, hY⟩) ⟨Nat.le_of_ble_eq_true rfl, Nat.le_of_ble_eq_true rfl⟩ ⟨by show 0 + 0 ≤ 0; omega, by show 0 + 0 ≤ 0; omega⟩ (Nat.le_of_ble_eq_true rfl) d_MD_readAt_292 (fun v f15 H locs hp hw hsz9 hkp9 hdm9 => ?_)
                          obtain ⟨rfl, hL_f15⟩ := hp
                          refine W.eq (g2 := F0 m 295 ls []) rfl ?_
                          obtain ⟨si, un, bu, ma, bt, so, co, gsi, gun, gbu, gma, gbt, gso, gco, hM, hT, hB, hZ, hMa, hC, hY⟩ := id hL_f15
                          rw [List.append_assoc] at hL_f15
                          refine lv_iload hx hb d_MD_readAt_295 (lv_at hl 2 rfl) ?_
                          refine lv_iconst (v := iI (1)) hx hb d_MD_readAt_297 rfl ?_
                          refine di_add hx hb d_MD_readAt_298 ?_
                          have hr9 : rdr Z en k = (gss Z k 1 0, 1 + 1) := hr8
                          have hu9 : uts ((gss Z k 1 0, 1 + 1)).1 = [55296 + (gss Z k 1 0 - 65536) / 1024, 56320 + (gss Z k 1 0 - 65536) % 1024] := by show uts (gss Z k 1 0) = _; rw [uts, if_neg (by omega)]
                          exact cn_iret hx hb hr hlk hw  (⟨by rw [hr9, if_neg (show ¬ ((gss Z k 1 0, 1 + 1)).1 = -1 by show ¬ (gss Z k 1 0) = -1; omega)], _, by rw [hr9, if_neg (show ¬ ((gss Z k 1 0, 1 + 1)).1 = -1 by show ¬ (gss Z k 1 0) = -1; omega), hu9]; exact hL_f15⟩) (Nat.le_refl _) (Nat.le_refl _) d_MD_readAt_299
                    · refine lv_iload hx hb d_MD_readAt_230 (lv_at hl 0 rfl) ?_
                      refine di_neg hx hb d_MD_readAt_232 ?_
                      have hr9 : rdr Z en k = (-1, bgn Z k 1 false 64 0 1) := hall.1 (by omega)
                      exact cn_iret hx hb hr hlk hw  (⟨by rw [hr9, if_pos (show (((-1 : Int), (bgn Z k 1 false 64 0 1 : Int)) : Int × Int).1 = -1 from rfl)], _, by rw [hr9, if_pos (show (((-1 : Int), (bgn Z k 1 false 64 0 1 : Int)) : Int × Int).1 = -1 from rfl), List.append_nil]; exact hL_f12⟩) (Nat.le_refl _) (Nat.le_refl _) d_MD_readAt_233
                · refine lv_iconst (v := iI (0)) hx hb d_MD_readAt_160 rfl ?_
                  refine lv_goto (tgt := 203) hx hb d_MD_readAt_161 (by decide) ?_
                  refine lv_istore (lv' := [(5, .int (iI 0)), (4, .int (iI (b2 false))), (3, .int (iI (gt Z k))), (0, .ref y), (1, .int (iI k)), (2, .int (iI en))]) hx hb d_MD_readAt_203 hl (by decide) rfl (fun ls hl => ?_)
                  refine lv_iload hx hb d_MD_readAt_205 (lv_at hl 0 rfl) ?_
                  refine di_if_ne (tgt := 212) hx hb d_MD_readAt_207 (by decide) ⟨by decide, by decide⟩ (fun q9 => absurd q9 (by decide)) (fun _ => ?_)
                  refine lv_iconst (v := iI (-1)) hx hb d_MD_readAt_210 rfl ?_
                  have hr9 : rdr Z en k = (-1, 1) := rd_0 hen01 (by omega)
                  exact cn_iret hx hb hr hlk hw  (⟨by rw [hr9, if_pos (show (((-1 : Int), (1 : Int)) : Int × Int).1 = -1 from rfl)], _, by rw [hr9, if_pos (show (((-1 : Int), (1 : Int)) : Int × Int).1 = -1 from rfl), List.append_nil]; exact hL⟩) (Nat.le_refl _) (Nat.le_refl _) d_MD_readAt_211
              · refine lv_iconst (v := iI (1)) hx hb d_MD_readAt_103 rfl ?_
                refine lv_goto (tgt := 108) hx hb d_MD_readAt_104 (by decide) ?_
                have hmd : md2 en = true := decide_eq_true (by omega)
                refine lv_istore (lv' := [(4, .int (iI (b2 true))), (3, .int (iI (gt Z k))), (0, .ref y), (1, .int (iI k)), (2, .int (iI en))]) hx hb d_MD_readAt_108 hl (by decide) rfl (fun ls hl => ?_)
                refine lv_iload hx hb d_MD_readAt_110 (lv_at hl 0 rfl) ?_
                refine di_if_eq (tgt := 153) hx hb d_MD_readAt_112 (by decide) ⟨by decide, by decide⟩ (fun q9 => absurd q9 (by decide)) (fun _ => ?_)
                refine lv_iload_n hx hb d_MD_readAt_115 rfl (lv_at hl 1 rfl) ?_
                refine lv_sipush (v := iI (192)) hx hb d_MD_readAt_116 rfl ?_
                refine di_icmp_ne (tgt := 153) hx hb d_MD_readAt_119 (by decide) ⟨by omega, by omega⟩ ⟨by omega, by omega⟩ (fun bq119 => ?_) (fun bq119 => ?_)
                · have hz9 : ¬ (en = 1 ∧ gt Z k = 192 ∧ gt Z (k + 1) = 128) := fun q => by omega
                  refine lv_iload_n hx hb d_MD_readAt_153 rfl (lv_at hl 1 rfl) ?_
                  refine lv_sipush (v := iI (192)) hx hb d_MD_readAt_154 rfl ?_
                  refine di_icmp_ge (tgt := 164) hx hb d_MD_readAt_157 (by decide) ⟨by omega, by omega⟩ ⟨by omega, by omega⟩ (fun bq157 => ?_) (fun bq157 => ?_)
                  · refine lv_iload_n hx hb d_MD_readAt_164 rfl (lv_at hl 1 rfl) ?_
                    refine lv_sipush (v := iI (224)) hx hb d_MD_readAt_165 rfl ?_
                    refine di_icmp_ge (tgt := 175) hx hb d_MD_readAt_168 (by decide) ⟨by omega, by omega⟩ ⟨by omega, by omega⟩ (fun bq168 => ?_) (fun bq168 => ?_)
                    · refine lv_iload_n hx hb d_MD_readAt_175 rfl (lv_at hl 1 rfl) ?_
                      refine lv_sipush (v := iI (240)) hx hb d_MD_readAt_176 rfl ?_
                      refine di_icmp_ge (tgt := 186) hx hb d_MD_readAt_179 (by decide) ⟨by omega, by omega⟩ ⟨by omega, by omega⟩ (fun bq179 => ?_) (fun bq179 => ?_)
                      · refine lv_iload_n hx hb d_MD_readAt_186 rfl (lv_at hl 1 rfl) ?_
                        refine lv_sipush (v := iI (248)) hx hb d_MD_readAt_187 rfl ?_
                        refine di_icmp_ge (tgt := 202) hx hb d_MD_readAt_190 (by decide) ⟨by omega, by omega⟩ ⟨by omega, by omega⟩ (fun bq190 => ?_) (fun bq190 => ?_)
                        · refine lv_iconst (v := iI (0)) hx hb d_MD_readAt_202 rfl ?_
                          refine lv_istore (lv' := [(5, .int (iI 0)), (4, .int (iI (b2 true))), (3, .int (iI (gt Z k))), (0, .ref y), (1, .int (iI k)), (2, .int (iI en))]) hx hb d_MD_readAt_203 hl (by decide) rfl (fun ls hl => ?_)
                          refine lv_iload hx hb d_MD_readAt_205 (lv_at hl 0 rfl) ?_
                          refine di_if_ne (tgt := 212) hx hb d_MD_readAt_207 (by decide) ⟨by decide, by decide⟩ (fun q9 => absurd q9 (by decide)) (fun _ => ?_)
                          refine lv_iconst (v := iI (-1)) hx hb d_MD_readAt_210 rfl ?_
                          have hr9 : rdr Z en k = (-1, 1) := rd_0 hen01 (by omega)
                          exact cn_iret hx hb hr hlk hw  (⟨by rw [hr9, if_pos (show (((-1 : Int), (1 : Int)) : Int × Int).1 = -1 from rfl)], _, by rw [hr9, if_pos (show (((-1 : Int), (1 : Int)) : Int × Int).1 = -1 from rfl), List.append_nil]; exact hL⟩) (Nat.le_refl _) (Nat.le_refl _) d_MD_readAt_211
                        · refine lv_iload hx hb d_MD_readAt_193 (lv_at hl 0 rfl) ?_
                          refine di_if_ne (tgt := 202) hx hb d_MD_readAt_195 (by decide) ⟨by decide, by decide⟩ (fun _ => ?_) (fun q9 => absurd q9 (by decide))
                          refine lv_iconst (v := iI (0)) hx hb d_MD_readAt_202 rfl ?_
                          refine lv_istore (lv' := [(5, .int (iI 0)), (4, .int (iI (b2 true))), (3, .int (iI (gt Z k))), (0, .ref y), (1, .int (iI k)), (2, .int (iI en))]) hx hb d_MD_readAt_203 hl (by decide) rfl (fun ls hl => ?_)
                          refine lv_iload hx hb d_MD_readAt_205 (lv_at hl 0 rfl) ?_
                          refine di_if_ne (tgt := 212) hx hb d_MD_readAt_207 (by decide) ⟨by decide, by decide⟩ (fun q9 => absurd q9 (by decide)) (fun _ => ?_)
                          refine lv_iconst (v := iI (-1)) hx hb d_MD_readAt_210 rfl ?_
                          have hr9 : rdr Z en k = (-1, 1) := rd_0 hen01 (by omega)
                          exact cn_iret hx hb hr hlk hw  (⟨by rw [hr9, if_pos (show (((-1 : Int), (1 : Int)) : Int × Int).1 = -1 from rfl)], _, by rw [hr9, if_pos (show (((-1 : Int), (1 : Int)) : Int × Int).1 = -1 from rfl), List.append_nil]; exact hL⟩) (Nat.le_refl _) (Nat.le_refl _) d_MD_readAt_211
                      · refine lv_iconst (v := iI (2)) hx hb d_MD_readAt_182 rfl ?_
                        refine lv_goto (tgt := 203) hx hb d_MD_readAt_183 (by decide) ?_
                        refine lv_istore (lv' := [(5, .int (iI 2)), (4, .int (iI (b2 true))), (3, .int (iI (gt Z k))), (0, .ref y), (1, .int (iI k)), (2, .int (iI en))]) hx hb d_MD_readAt_203 hl (by decide) rfl (fun ls hl => ?_)
                        refine lv_iload hx hb d_MD_readAt_205 (lv_at hl 0 rfl) ?_
                        refine di_if_ne (tgt := 212) hx hb d_MD_readAt_207 (by decide) ⟨by decide, by decide⟩ (fun _ => ?_) (fun q9 => absurd q9 (by decide))
                        refine lv_aload_n hx hb d_MD_readAt_212 rfl (lv_at hl 3 rfl) ?_
                        refine lv_iload_n hx hb d_MD_readAt_213 rfl (lv_at hl 4 rfl) ?_
                        refine lv_iload hx hb d_MD_readAt_214 (lv_at hl 0 rfl) ?_
                        refine lv_iload hx hb d_MD_readAt_216 (lv_at hl 1 rfl) ?_
                        have hall := rd_all hen01 (n := 2) (Or.inr (Or.inl ⟨rfl, by omega, by omega⟩)) hz9
                        rw [hmd] at hall
                        refine cs_MD_131 X hz hw hl.1 hM.1 (c_MD_begun l G f _ y th T Y B Z M C k 2 true hk ⟨by omega, by omega⟩ ⟨si, un, bu, ma, bt, so, co, _, _, _, _, _, _, _, hM, hT, hB, hZ, hMa, hC, hY⟩) ⟨Nat.le_of_ble_eq_true rfl, Nat.le_of_ble_eq_true rfl⟩ ⟨by show 0 + 0 ≤ 0; omega, by show 0 + 0 ≤ 0; omega⟩ (Nat.le_of_ble_eq_true rfl) d_MD_readAt_218 (fun v f12 H locs hp hw hsz9 hkp9 hdm9 => ?_)
                        obtain ⟨rfl, C2, hL_f12⟩ := hp
                        refine W.eq (g2 := F0 m 221 ls [.int (iI (bgn Z k 2 true 64 0 1))]) rfl ?_
                        obtain ⟨si, un, bu, ma, bt, so, co, gsi, gun, gbu, gma, gbt, gso, gco, hM, hT, hB, hZ, hMa, hC, hY⟩ := id hL_f12
                        refine lv_istore (lv' := [(6, .int (iI (bgn Z k 2 true 64 0 1))), (5, .int (iI 2)), (4, .int (iI (b2 true))), (3, .int (iI (gt Z k))), (0, .ref y), (1, .int (iI k)), (2, .int (iI en))]) hx hb d_MD_readAt_221 hl (by decide) rfl (fun ls hl => ?_)
                        refine lv_iload hx hb d_MD_readAt_223 (lv_at hl 0 rfl) ?_
                        refine lv_iload hx hb d_MD_readAt_225 (lv_at hl 1 rfl) ?_
                        refine di_icmp_gt (tgt := 234) hx hb d_MD_readAt_227 (by decide) ⟨by omega, by omega⟩ ⟨by omega, by omega⟩ (fun bq227 => ?_) (fun bq227 => ?_)
                        · have hr8 := hall.2.1 (by omega)
                          have hrr := rdr_rng hZr hen hk.1 hk.2
                          rw [hr8] at hrr
                          have hgg := gss_rng (Z := Z) (k := k) (n := 2) ⟨by omega, by omega⟩ (fl := 0) ⟨by omega, by omega⟩
                          have hrr1 : gss Z k 2 0 < 1114112 := hrr.2.1
                          refine lv_aload_n hx hb d_MD_readAt_234 rfl (lv_at hl 4 rfl) ?_
                          refine lv_iload_n hx hb d_MD_readAt_235 rfl (lv_at hl 5 rfl) ?_
                          refine lv_iload hx hb d_MD_readAt_236 (lv_at hl 1 rfl) ?_
                          refine lv_iconst (v := iI (0)) hx hb d_MD_readAt_238 rfl ?_
                          refine cs_MD_121 X hz hw hl.1 hM.1 (c_MD_guess l G f12 _ y th T Y B Z M C2 k 2 0 hk ⟨by omega, by omega⟩ ⟨by omega, by omega⟩ ⟨si, un, bu, ma, bt, so, co, _, _, _, _, _, _, _, hM, hT, hB, hZ, hMa, hC, hY⟩) ⟨Nat.le_of_ble_eq_true rfl, Nat.le_of_ble_eq_true rfl⟩ ⟨by show 0 + 0 ≤ 0; omega, by show 0 + 0 ≤ 0; omega⟩ (Nat.le_of_ble_eq_true rfl) d_MD_readAt_239 (fun v f9 H locs hp hw hsz9 hkp9 hdm9 => ?_)
                          obtain ⟨rfl, hfe⟩ := hp
                          rw [hfe] at hw
                          refine W.eq (g2 := F0 m 242 ls [.int (iI (gss Z k 2 0))]) rfl ?_
                          refine lv_istore (lv' := [(7, .int (iI (gss Z k 2 0))), (6, .int (iI (bgn Z k 2 true 64 0 1))), (5, .int (iI 2)), (4, .int (iI (b2 true))), (3, .int (iI (gt Z k))), (0, .ref y), (1, .int (iI k)), (2, .int (iI en))]) hx hb d_MD_readAt_242 hl (by decide) rfl (fun ls hl => ?_)
                          refine lv_iload hx hb d_MD_readAt_244 (lv_at hl 0 rfl) ?_
                          refine lv_ldc (v := iI (65535)) hx hb X.own (X.hts _ mw_859) d_MD_readAt_246 ?_
                          refine di_icmp_le (tgt := 267) hx hb d_MD_readAt_248 (by decide) ⟨by omega, by omega⟩ ⟨by omega, by omega⟩ (fun bq248 => ?_) (fun bq248 => ?_)
                          · refine lv_aload_n hx hb d_MD_readAt_267 rfl (lv_at hl 5 rfl) ?_
                            refine lv_iload hx hb d_MD_readAt_268 (lv_at hl 0 rfl) ?_
                            refine lv_ldc (v := iI (65535)) hx hb X.own (X.hts _ mw_859) d_MD_readAt_270 ?_
                            refine di_icmp_le (tgt := 290) hx hb d_MD_readAt_272 (by decide) ⟨by omega, by omega⟩ ⟨by omega, by omega⟩ (fun bq272 => ?_) (fun bq272 => ?_)
                            · refine lv_iload hx hb d_MD_readAt_290 (lv_at hl 0 rfl) ?_
                              refine cs_MD_64 X hz hw hl.1 hM.1 (c_MD_make l G f12 _ y th T Y B Z M C2 (gss Z k 2 0) (by omega) ⟨si, un, bu, ma, bt, so, co, _, _, _, _, _, _, _, hM, hT, hB, hZ, hMa, hC, hY⟩) ⟨Nat.le_of_ble_eq_true rfl, Nat.le_of_ble_eq_true rfl⟩ ⟨by show 0 + 0 ≤ 0; omega, by show 0 + 0 ≤ 0; omega⟩ (Nat.le_of_ble_eq_true rfl) d_MD_readAt_292 (fun v f14 H locs hp hw hsz9 hkp9 hdm9 => ?_)
                              obtain ⟨rfl, hL_f14⟩ := hp
                              refine W.eq (g2 := F0 m 295 ls []) rfl ?_
                              obtain ⟨si, un, bu, ma, bt, so, co, gsi, gun, gbu, gma, gbt, gso, gco, hM, hT, hB, hZ, hMa, hC, hY⟩ := id hL_f14
                              refine lv_iload hx hb d_MD_readAt_295 (lv_at hl 2 rfl) ?_
                              refine lv_iconst (v := iI (1)) hx hb d_MD_readAt_297 rfl ?_
                              refine di_add hx hb d_MD_readAt_298 ?_
                              have hr9 : rdr Z en k = (gss Z k 2 0, 2 + 1) := hr8
                              have hu9 : uts ((gss Z k 2 0, 2 + 1)).1 = [gss Z k 2 0] := by show uts (gss Z k 2 0) = _; rw [uts, if_pos (by omega)]
                              exact cn_iret hx hb hr hlk hw  (⟨by rw [hr9, if_neg (show ¬ ((gss Z k 2 0, 2 + 1)).1 = -1 by show ¬ (gss Z k 2 0) = -1; omega)], _, by rw [hr9, if_neg (show ¬ ((gss Z k 2 0, 2 + 1)).1 = -1 by show ¬ (gss Z k 2 0) = -1; omega), hu9]; exact hL_f14⟩) (Nat.le_refl _) (Nat.le_refl _) d_MD_readAt_299
                            · exfalso; omega
                          · refine lv_aload_n hx hb d_MD_readAt_251 rfl (lv_at hl 5 rfl) ?_
                            refine lv_ldc (v := iI (55296)) hx hb X.own (X.hts _ mw_732) d_MD_readAt_252 ?_
                            refine lv_iload hx hb d_MD_readAt_254 (lv_at hl 0 rfl) ?_
                            refine lv_ldc (v := iI (65536)) hx hb X.own (X.hts _ mw_697) d_MD_readAt_256 ?_
                            refine di_sub hx hb d_MD_readAt_258 ?_
                            refine lv_sipush (v := iI (1024)) hx hb d_MD_readAt_259 rfl ?_
                            refine di_div hx hb d_MD_readAt_262 (by omega) (by omega) (by omega) (by omega) ?_
                            refine di_add hx hb d_MD_readAt_263 ?_
                            refine cs_MD_64 X hz hw hl.1 hM.1 (c_MD_make l G f12 _ y th T Y B Z M C2 (55296 + (gss Z k 2 0 - 65536) / 1024) (by omega) ⟨si, un, bu, ma, bt, so, co, _, _, _, _, _, _, _, hM, hT, hB, hZ, hMa, hC, hY⟩) ⟨Nat.le_of_ble_eq_true rfl, Nat.le_of_ble_eq_true rfl⟩ ⟨by show 0 + 0 ≤ 0; omega, by show 0 + 0 ≤ 0; omega⟩ (Nat.le_of_ble_eq_true rfl) d_MD_readAt_264 (fun v f14 H locs hp hw hsz9 hkp9 hdm9 => ?_)
                            obtain ⟨rfl, hL_f14⟩ := hp
                            refine W.eq (g2 := F0 m 267 ls []) rfl ?_
                            obtain ⟨si, un, bu, ma, bt, so, co, gsi, gun, gbu, gma, gbt, gso, gco, hM, hT, hB, hZ, hMa, hC, hY⟩ := id hL_f14
                            refine lv_aload_n hx hb d_MD_readAt_267 rfl (lv_at hl 5 rfl) ?_
                            refine lv_iload hx hb d_MD_readAt_268 (lv_at hl 0 rfl) ?_
                            refine lv_ldc (v := iI (65535)) hx hb X.own (X.hts _ mw_859) d_MD_readAt_270 ?_
                            refine di_icmp_le (tgt := 290) hx hb d_MD_readAt_272 (by decide) ⟨by omega, by omega⟩ ⟨by omega, by omega⟩ (fun bq272 => ?_) (fun bq272 => ?_)
                            · exfalso; omega
                            · refine lv_ldc (v := iI (56320)) hx hb X.own (X.hts _ mw_737) d_MD_readAt_275 ?_
                              refine lv_iload hx hb d_MD_readAt_277 (lv_at hl 0 rfl) ?_
                              refine lv_ldc (v := iI (65536)) hx hb X.own (X.hts _ mw_697) d_MD_readAt_279 ?_
                              refine di_sub hx hb d_MD_readAt_281 ?_
                              refine lv_sipush (v := iI (1024)) hx hb d_MD_readAt_282 rfl ?_
                              refine di_rem hx hb d_MD_readAt_285 (by omega) (by omega) (by omega) (by omega) ?_
                              refine di_add hx hb d_MD_readAt_286 ?_
                              refine lv_goto (tgt := 292) hx hb d_MD_readAt_287 (by decide) ?_
                              refine cs_MD_64 X hz hw hl.1 hM.1 (c_MD_make l G f14 _ y th T Y B Z (M ++ [55296 + (gss Z k 2 0 - 65536) / 1024]) C2 (56320 + (gss Z k 2 0 - 65536) % 1024) (by simp; omega) ⟨si, un, bu, ma, bt, so, co, _, _, _, _, _, _, _, hM, hT, hB, hZ, hMa, hC, hY⟩) ⟨Nat.le_of_ble_eq_true rfl, Nat.le_of_ble_eq_true rfl⟩ ⟨by show 0 + 0 ≤ 0; omega, by show 0 + 0 ≤ 0; omega⟩ (Nat.le_of_ble_eq_true rfl) d_MD_readAt_292 (fun v f15 H locs hp hw hsz9 hkp9 hdm9 => ?_)
                              obtain ⟨rfl, hL_f15⟩ := hp
                              refine W.eq (g2 := F0 m 295 ls []) rfl ?_
                              obtain ⟨si, un, bu, ma, bt, so, co, gsi, gun, gbu, gma, gbt, gso, gco, hM, hT, hB, hZ, hMa, hC, hY⟩ := id hL_f15
                              rw [List.append_assoc] at hL_f15
                              refine lv_iload hx hb d_MD_readAt_295 (lv_at hl 2 rfl) ?_
                              refine lv_iconst (v := iI (1)) hx hb d_MD_readAt_297 rfl ?_
                              refine di_add hx hb d_MD_readAt_298 ?_
                              have hr9 : rdr Z en k = (gss Z k 2 0, 2 + 1) := hr8
                              have hu9 : uts ((gss Z k 2 0, 2 + 1)).1 = [55296 + (gss Z k 2 0 - 65536) / 1024, 56320 + (gss Z k 2 0 - 65536) % 1024] := by show uts (gss Z k 2 0) = _; rw [uts, if_neg (by omega)]
                              exact cn_iret hx hb hr hlk hw  (⟨by rw [hr9, if_neg (show ¬ ((gss Z k 2 0, 2 + 1)).1 = -1 by show ¬ (gss Z k 2 0) = -1; omega)], _, by rw [hr9, if_neg (show ¬ ((gss Z k 2 0, 2 + 1)).1 = -1 by show ¬ (gss Z k 2 0) = -1; omega), hu9]; exact hL_f15⟩) (Nat.le_refl _) (Nat.le_refl _) d_MD_readAt_299
                        · refine lv_iload hx hb d_MD_readAt_230 (lv_at hl 0 rfl) ?_
                          refine di_neg hx hb d_MD_readAt_232 ?_
                          have hr9 : rdr Z en k = (-1, bgn Z k 2 true 64 0 1) := hall.1 (by omega)
                          exact cn_iret hx hb hr hlk hw  (⟨by rw [hr9, if_pos (show (((-1 : Int), (bgn Z k 2 true 64 0 1 : Int)) : Int × Int).1 = -1 from rfl)], _, by rw [hr9, if_pos (show (((-1 : Int), (bgn Z k 2 true 64 0 1 : Int)) : Int × Int).1 = -1 from rfl), List.append_nil]; exact hL_f12⟩) (Nat.le_refl _) (Nat.le_refl _) d_MD_readAt_233
                    · refine lv_iconst (v := iI (1)) hx hb d_MD_readAt_171 rfl ?_
                      refine lv_goto (tgt := 203) hx hb d_MD_readAt_172 (by decide) ?_
                      refine lv_istore (lv' := [(5, .int (iI 1)), (4, .int (iI (b2 true))), (3, .int (iI (gt Z k))), (0, .ref y), (1, .int (iI k)), (2, .int (iI en))]) hx hb d_MD_readAt_203 hl (by decide) rfl (fun ls hl => ?_)
                      refine lv_iload hx hb d_MD_readAt_205 (lv_at hl 0 rfl) ?_
                      refine di_if_ne (tgt := 212) hx hb d_MD_readAt_207 (by decide) ⟨by decide, by decide⟩ (fun _ => ?_) (fun q9 => absurd q9 (by decide))
                      refine lv_aload_n hx hb d_MD_readAt_212 rfl (lv_at hl 3 rfl) ?_
                      refine lv_iload_n hx hb d_MD_readAt_213 rfl (lv_at hl 4 rfl) ?_
                      refine lv_iload hx hb d_MD_readAt_214 (lv_at hl 0 rfl) ?_
                      refine lv_iload hx hb d_MD_readAt_216 (lv_at hl 1 rfl) ?_
                      have hall := rd_all hen01 (n := 1) (Or.inl ⟨rfl, by omega, by omega⟩) hz9
                      rw [hmd] at hall
                      refine cs_MD_131 X hz hw hl.1 hM.1 (c_MD_begun l G f _ y th T Y B Z M C k 1 true hk ⟨by omega, by omega⟩ ⟨si, un, bu, ma, bt, so, co, _, _, _, _, _, _, _, hM, hT, hB, hZ, hMa, hC, hY⟩) ⟨Nat.le_of_ble_eq_true rfl, Nat.le_of_ble_eq_true rfl⟩ ⟨by show 0 + 0 ≤ 0; omega, by show 0 + 0 ≤ 0; omega⟩ (Nat.le_of_ble_eq_true rfl) d_MD_readAt_218 (fun v f12 H locs hp hw hsz9 hkp9 hdm9 => ?_)
                      obtain ⟨rfl, C2, hL_f12⟩ := hp
                      refine W.eq (g2 := F0 m 221 ls [.int (iI (bgn Z k 1 true 64 0 1))]) rfl ?_
                      obtain ⟨si, un, bu, ma, bt, so, co, gsi, gun, gbu, gma, gbt, gso, gco, hM, hT, hB, hZ, hMa, hC, hY⟩ := id hL_f12
                      refine lv_istore (lv' := [(6, .int (iI (bgn Z k 1 true 64 0 1))), (5, .int (iI 1)), (4, .int (iI (b2 true))), (3, .int (iI (gt Z k))), (0, .ref y), (1, .int (iI k)), (2, .int (iI en))]) hx hb d_MD_readAt_221 hl (by decide) rfl (fun ls hl => ?_)
                      refine lv_iload hx hb d_MD_readAt_223 (lv_at hl 0 rfl) ?_
                      refine lv_iload hx hb d_MD_readAt_225 (lv_at hl 1 rfl) ?_
                      refine di_icmp_gt (tgt := 234) hx hb d_MD_readAt_227 (by decide) ⟨by omega, by omega⟩ ⟨by omega, by omega⟩ (fun bq227 => ?_) (fun bq227 => ?_)
                      · have hr8 := hall.2.1 (by omega)
                        have hrr := rdr_rng hZr hen hk.1 hk.2
                        rw [hr8] at hrr
                        have hgg := gss_rng (Z := Z) (k := k) (n := 1) ⟨by omega, by omega⟩ (fl := 0) ⟨by omega, by omega⟩
                        have hrr1 : gss Z k 1 0 < 1114112 := hrr.2.1
                        refine lv_aload_n hx hb d_MD_readAt_234 rfl (lv_at hl 4 rfl) ?_
                        refine lv_iload_n hx hb d_MD_readAt_235 rfl (lv_at hl 5 rfl) ?_
                        refine lv_iload hx hb d_MD_readAt_236 (lv_at hl 1 rfl) ?_
                        refine lv_iconst (v := iI (0)) hx hb d_MD_readAt_238 rfl ?_
                        refine cs_MD_121 X hz hw hl.1 hM.1 (c_MD_guess l G f12 _ y th T Y B Z M C2 k 1 0 hk ⟨by omega, by omega⟩ ⟨by omega, by omega⟩ ⟨si, un, bu, ma, bt, so, co, _, _, _, _, _, _, _, hM, hT, hB, hZ, hMa, hC, hY⟩) ⟨Nat.le_of_ble_eq_true rfl, Nat.le_of_ble_eq_true rfl⟩ ⟨by show 0 + 0 ≤ 0; omega, by show 0 + 0 ≤ 0; omega⟩ (Nat.le_of_ble_eq_true rfl) d_MD_readAt_239 (fun v f9 H locs hp hw hsz9 hkp9 hdm9 => ?_)
                        obtain ⟨rfl, hfe⟩ := hp
                        rw [hfe] at hw
                        refine W.eq (g2 := F0 m 242 ls [.int (iI (gss Z k 1 0))]) rfl ?_
                        refine lv_istore (lv' := [(7, .int (iI (gss Z k 1 0))), (6, .int (iI (bgn Z k 1 true 64 0 1))), (5, .int (iI 1)), (4, .int (iI (b2 true))), (3, .int (iI (gt Z k))), (0, .ref y), (1, .int (iI k)), (2, .int (iI en))]) hx hb d_MD_readAt_242 hl (by decide) rfl (fun ls hl => ?_)
                        refine lv_iload hx hb d_MD_readAt_244 (lv_at hl 0 rfl) ?_
                        refine lv_ldc (v := iI (65535)) hx hb X.own (X.hts _ mw_859) d_MD_readAt_246 ?_
                        refine di_icmp_le (tgt := 267) hx hb d_MD_readAt_248 (by decide) ⟨by omega, by omega⟩ ⟨by omega, by omega⟩ (fun bq248 => ?_) (fun bq248 => ?_)
                        · refine lv_aload_n hx hb d_MD_readAt_267 rfl (lv_at hl 5 rfl) ?_
                          refine lv_iload hx hb d_MD_readAt_268 (lv_at hl 0 rfl) ?_
                          refine lv_ldc (v := iI (65535)) hx hb X.own (X.hts _ mw_859) d_MD_readAt_270 ?_
                          refine di_icmp_le (tgt := 290) hx hb d_MD_readAt_272 (by decide) ⟨by omega, by omega⟩ ⟨by omega, by omega⟩ (fun bq272 => ?_) (fun bq272 => ?_)
                          · refine lv_iload hx hb d_MD_readAt_290 (lv_at hl 0 rfl) ?_
                            refine cs_MD_64 X hz hw hl.1 hM.1 (c_MD_make l G f12 _ y th T Y B Z M C2 (gss Z k 1 0) (by omega) ⟨si, un, bu, ma, bt, so, co, _, _, _, _, _, _, _, hM, hT, hB, hZ, hMa, hC, hY⟩) ⟨Nat.le_of_ble_eq_true rfl, Nat.le_of_ble_eq_true rfl⟩ ⟨by show 0 + 0 ≤ 0; omega, by show 0 + 0 ≤ 0; omega⟩ (Nat.le_of_ble_eq_true rfl) d_MD_readAt_292 (fun v f14 H locs hp hw hsz9 hkp9 hdm9 => ?_)
                            obtain ⟨rfl, hL_f14⟩ := hp
                            refine W.eq (g2 := F0 m 295 ls []) rfl ?_
                            obtain ⟨si, un, bu, ma, bt, so, co, gsi, gun, gbu, gma, gbt, gso, gco, hM, hT, hB, hZ, hMa, hC, hY⟩ := id hL_f14
                            refine lv_iload hx hb d_MD_readAt_295 (lv_at hl 2 rfl) ?_
                            refine lv_iconst (v := iI (1)) hx hb d_MD_readAt_297 rfl ?_
                            refine di_add hx hb d_MD_readAt_298 ?_
                            have hr9 : rdr Z en k = (gss Z k 1 0, 1 + 1) := hr8
                            have hu9 : uts ((gss Z k 1 0, 1 + 1)).1 = [gss Z k 1 0] := by show uts (gss Z k 1 0) = _; rw [uts, if_pos (by omega)]
                            exact cn_iret hx hb hr hlk hw  (⟨by rw [hr9, if_neg (show ¬ ((gss Z k 1 0, 1 + 1)).1 = -1 by show ¬ (gss Z k 1 0) = -1; omega)], _, by rw [hr9, if_neg (show ¬ ((gss Z k 1 0, 1 + 1)).1 = -1 by show ¬ (gss Z k 1 0) = -1; omega), hu9]; exact hL_f14⟩) (Nat.le_refl _) (Nat.le_refl _) d_MD_readAt_299
                          · exfalso; omega
                        · refine lv_aload_n hx hb d_MD_readAt_251 rfl (lv_at hl 5 rfl) ?_
                          refine lv_ldc (v := iI (55296)) hx hb X.own (X.hts _ mw_732) d_MD_readAt_252 ?_
                          refine lv_iload hx hb d_MD_readAt_254 (lv_at hl 0 rfl) ?_
                          refine lv_ldc (v := iI (65536)) hx hb X.own (X.hts _ mw_697) d_MD_readAt_256 ?_
                          refine di_sub hx hb d_MD_readAt_258 ?_
                          refine lv_sipush (v := iI (1024)) hx hb d_MD_readAt_259 rfl ?_
                          refine di_div hx hb d_MD_readAt_262 (by omega) (by omega) (by omega) (by omega) ?_
                          refine di_add hx hb d_MD_readAt_263 ?_
                          refine cs_MD_64 X hz hw hl.1 hM.1 (c_MD_make l G f12 _ y th T Y B Z M C2 (55296 + (gss Z k 1 0 - 65536) / 1024) (by omega) ⟨si, un, bu, ma, bt, so, co, _, _, _, _, _, _, _, hM, hT, hB, hZ, hMa, hC, hY⟩) ⟨Nat.le_of_ble_eq_true rfl, Nat.le_of_ble_eq_true rfl⟩ ⟨by show 0 + 0 ≤ 0; omega, by show 0 + 0 ≤ 0; omega⟩ (Nat.le_of_ble_eq_true rfl) d_MD_readAt_264 (fun v f14 H locs hp hw hsz9 hkp9 hdm9 => ?_)
                          obtain ⟨rfl, hL_f14⟩ := hp
                          refine W.eq (g2 := F0 m 267 ls []) rfl ?_
                          obtain ⟨si, un, bu, ma, bt, so, co, gsi, gun, gbu, gma, gbt, gso, gco, hM, hT, hB, hZ, hMa, hC, hY⟩ := id hL_f14
                          refine lv_aload_n hx hb d_MD_readAt_267 rfl (lv_at hl 5 rfl) ?_
                          refine lv_iload hx hb d_MD_readAt_268 (lv_at hl 0 rfl) ?_
                          refine lv_ldc (v := iI (65535)) hx hb X.own (X.hts _ mw_859) d_MD_readAt_270 ?_
                          refine di_icmp_le (tgt := 290) hx hb d_MD_readAt_272 (by decide) ⟨by omega, by omega⟩ ⟨by omega, by omega⟩ (fun bq272 => ?_) (fun bq272 => ?_)
                          · exfalso; omega
                          · refine lv_ldc (v := iI (56320)) hx hb X.own (X.hts _ mw_737) d_MD_readAt_275 ?_
                            refine lv_iload hx hb d_MD_readAt_277 (lv_at hl 0 rfl) ?_
                            refine lv_ldc (v := iI (65536)) hx hb X.own (X.hts _ mw_697) d_MD_readAt_279 ?_
                            refine di_sub hx hb d_MD_readAt_281 ?_
                            refine lv_sipush (v := iI (1024)) hx hb d_MD_readAt_282 rfl ?_
                            refine di_rem hx hb d_MD_readAt_285 (by omega) (by omega) (by omega) (by omega) ?_
                            refine di_add hx hb d_MD_readAt_286 ?_
                            refine lv_goto (tgt := 292) hx hb d_MD_readAt_287 (by decide) ?_
                            refine cs_MD_64 X hz hw hl.1 hM.1 (c_MD_make l G f14 _ y th T Y B Z (M ++ [55296 + (gss Z k 1 0 - 65536) / 1024]) C2 (56320 + (gss Z k 1 0 - 65536) % 1024) (by simp; omega) ⟨si, un, bu, ma, bt, so, co, _, _, _, _, _, _, _, hM, hT, hB, hZ, hMa, hC, hY⟩) ⟨Nat.le_of_ble_eq_true rfl, Nat.le_of_ble_eq_true rfl⟩ ⟨by show 0 + 0 ≤ 0; omega, by show 0 + 0 ≤ 0; omega⟩ (Nat.le_of_ble_eq_true rfl) d_MD_readAt_292 (fun v f15 H locs hp hw hsz9 hkp9 hdm9 => ?_)
                            obtain ⟨rfl, hL_f15⟩ := hp
                            refine W.eq (g2 := F0 m 295 ls []) rfl ?_
                            obtain ⟨si, un, bu, ma, bt, so, co, gsi, gun, gbu, gma, gbt, gso, gco, hM, hT, hB, hZ, hMa, hC, hY⟩ := id hL_f15
                            rw [List.append_assoc] at hL_f15
                            refine lv_iload hx hb d_MD_readAt_295 (lv_at hl 2 rfl) ?_
                            refine lv_iconst (v := iI (1)) hx hb d_MD_readAt_297 rfl ?_
                            refine di_add hx hb d_MD_readAt_298 ?_
                            have hr9 : rdr Z en k = (gss Z k 1 0, 1 + 1) := hr8
                            have hu9 : uts ((gss Z k 1 0, 1 + 1)).1 = [55296 + (gss Z k 1 0 - 65536) / 1024, 56320 + (gss Z k 1 0 - 65536) % 1024] := by show uts (gss Z k 1 0) = _; rw [uts, if_neg (by omega)]
                            exact cn_iret hx hb hr hlk hw  (⟨by rw [hr9, if_neg (show ¬ ((gss Z k 1 0, 1 + 1)).1 = -1 by show ¬ (gss Z k 1 0) = -1; omega)], _, by rw [hr9, if_neg (show ¬ ((gss Z k 1 0, 1 + 1)).1 = -1 by show ¬ (gss Z k 1 0) = -1; omega), hu9]; exact hL_f15⟩) (Nat.le_refl _) (Nat.le_refl _) d_MD_readAt_299
                      · refine lv_iload hx hb d_MD_readAt_230 (lv_at hl 0 rfl) ?_
                        refine di_neg hx hb d_MD_readAt_232 ?_
                        have hr9 : rdr Z en k = (-1, bgn Z k 1 true 64 0 1) := hall.1 (by omega)
                        exact cn_iret hx hb hr hlk hw  (⟨by rw [hr9, if_pos (show (((-1 : Int), (bgn Z k 1 true 64 0 1 : Int)) : Int × Int).1 = -1 from rfl)], _, by rw [hr9, if_pos (show (((-1 : Int), (bgn Z k 1 true 64 0 1 : Int)) : Int × Int).1 = -1 from rfl), List.append_nil]; exact hL_f12⟩) (Nat.le_refl _) (Nat.le_refl _) d_MD_readAt_233
                  · refine lv_iconst (v := iI (0)) hx hb d_MD_readAt_160 rfl ?_
                    refine lv_goto (tgt := 203) hx hb d_MD_readAt_161 (by decide) ?_
                    refine lv_istore (lv' := [(5, .int (iI 0)), (4, .int (iI (b2 true))), (3, .int (iI (gt Z k))), (0, .ref y), (1, .int (iI k)), (2, .int (iI en))]) hx hb d_MD_readAt_203 hl (by decide) rfl (fun ls hl => ?_)
                    refine lv_iload hx hb d_MD_readAt_205 (lv_at hl 0 rfl) ?_
                    refine di_if_ne (tgt := 212) hx hb d_MD_readAt_207 (by decide) ⟨by decide, by decide⟩ (fun q9 => absurd q9 (by decide)) (fun _ => ?_)
                    refine lv_iconst (v := iI (-1)) hx hb d_MD_readAt_210 rfl ?_
                    have hr9 : rdr Z en k = (-1, 1) := rd_0 hen01 (by omega)
                    exact cn_iret hx hb hr hlk hw  (⟨by rw [hr9, if_pos (show (((-1 : Int), (1 : Int)) : Int × Int).1 = -1 from rfl)], _, by rw [hr9, if_pos (show (((-1 : Int), (1 : Int)) : Int × Int).1 = -1 from rfl), List.append_nil]; exact hL⟩) (Nat.le_refl _) (Nat.le_refl _) d_MD_readAt_211
                · refine lv_iload_n hx hb d_MD_readAt_122 rfl (lv_at hl 3 rfl) ?_
                  refine lv_iconst (v := iI (1)) hx hb d_MD_readAt_123 rfl ?_
                  refine di_add hx hb d_MD_readAt_124 ?_
                  refine lv_aload_n hx hb d_MD_readAt_125 rfl (lv_at hl 2 rfl) ?_
                  refine gf_MD_112_MD X hw hM.1 d_MD_readAt_126 ?_
                  refine di_icmp_ge (tgt := 153) hx hb d_MD_readAt_129 (by decide) ⟨by omega, by omega⟩ ⟨by omega, by omega⟩ (fun bq129 => ?_) (fun bq129 => ?_)
                  · have hz9 : ¬ (en = 1 ∧ gt Z k = 192 ∧ gt Z (k + 1) = 128) := fun q => by have q9 := q.2.2; rw [gt_out (us := Z) (k := k + 1) (by omega)] at q9; omega
                    refine lv_iload_n hx hb d_MD_readAt_153 rfl (lv_at hl 1 rfl) ?_
                    refine lv_sipush (v := iI (192)) hx hb d_MD_readAt_154 rfl ?_
                    refine di_icmp_ge (tgt := 164) hx hb d_MD_readAt_157 (by decide) ⟨by omega, by omega⟩ ⟨by omega, by omega⟩ (fun bq157 => ?_) (fun bq157 => ?_)
                    · refine lv_iload_n hx hb d_MD_readAt_164 rfl (lv_at hl 1 rfl) ?_
                      refine lv_sipush (v := iI (224)) hx hb d_MD_readAt_165 rfl ?_
                      refine di_icmp_ge (tgt := 175) hx hb d_MD_readAt_168 (by decide) ⟨by omega, by omega⟩ ⟨by omega, by omega⟩ (fun bq168 => ?_) (fun bq168 => ?_)
                      · refine lv_iload_n hx hb d_MD_readAt_175 rfl (lv_at hl 1 rfl) ?_
                        refine lv_sipush (v := iI (240)) hx hb d_MD_readAt_176 rfl ?_
                        refine di_icmp_ge (tgt := 186) hx hb d_MD_readAt_179 (by decide) ⟨by omega, by omega⟩ ⟨by omega, by omega⟩ (fun bq179 => ?_) (fun bq179 => ?_)
                        · refine lv_iload_n hx hb d_MD_readAt_186 rfl (lv_at hl 1 rfl) ?_
                          refine lv_sipush (v := iI (248)) hx hb d_MD_readAt_187 rfl ?_
                          refine di_icmp_ge (tgt := 202) hx hb d_MD_readAt_190 (by decide) ⟨by omega, by omega⟩ ⟨by omega, by omega⟩ (fun bq190 => ?_) (fun bq190 => ?_)
                          · refine lv_iconst (v := iI (0)) hx hb d_MD_readAt_202 rfl ?_
                            refine lv_istore (lv' := [(5, .int (iI 0)), (4, .int (iI (b2 true))), (3, .int (iI (gt Z k))), (0, .ref y), (1, .int (iI k)), (2, .int (iI en))]) hx hb d_MD_readAt_203 hl (by decide) rfl (fun ls hl => ?_)
                            refine lv_iload hx hb d_MD_readAt_205 (lv_at hl 0 rfl) ?_
                            refine di_if_ne (tgt := 212) hx hb d_MD_readAt_207 (by decide) ⟨by decide, by decide⟩ (fun q9 => absurd q9 (by decide)) (fun _ => ?_)
                            refine lv_iconst (v := iI (-1)) hx hb d_MD_readAt_210 rfl ?_
                            have hr9 : rdr Z en k = (-1, 1) := rd_0 hen01 (by omega)
                            exact cn_iret hx hb hr hlk hw  (⟨by rw [hr9, if_pos (show (((-1 : Int), (1 : Int)) : Int × Int).1 = -1 from rfl)], _, by rw [hr9, if_pos (show (((-1 : Int), (1 : Int)) : Int × Int).1 = -1 from rfl), List.append_nil]; exact hL⟩) (Nat.le_refl _) (Nat.le_refl _) d_MD_readAt_211
                          · refine lv_iload hx hb d_MD_readAt_193 (lv_at hl 0 rfl) ?_
                            refine di_if_ne (tgt := 202) hx hb d_MD_readAt_195 (by decide) ⟨by decide, by decide⟩ (fun _ => ?_) (fun q9 => absurd q9 (by decide))
                            refine lv_iconst (v := iI (0)) hx hb d_MD_readAt_202 rfl ?_
                            refine lv_istore (lv' := [(5, .int (iI 0)), (4, .int (iI (b2 true))), (3, .int (iI (gt Z k))), (0, .ref y), (1, .int (iI k)), (2, .int (iI en))]) hx hb d_MD_readAt_203 hl (by decide) rfl (fun ls hl => ?_)
                            refine lv_iload hx hb d_MD_readAt_205 (lv_at hl 0 rfl) ?_
                            refine di_if_ne (tgt := 212) hx hb d_MD_readAt_207 (by decide) ⟨by decide, by decide⟩ (fun q9 => absurd q9 (by decide)) (fun _ => ?_)
                            refine lv_iconst (v := iI (-1)) hx hb d_MD_readAt_210 rfl ?_
                            have hr9 : rdr Z en k = (-1, 1) := rd_0 hen01 (by omega)
                            exact cn_iret hx hb hr hlk hw  (⟨by rw [hr9, if_pos (show (((-1 : Int), (1 : Int)) : Int × Int).1 = -1 from rfl)], _, by rw [hr9, if_pos (show (((-1 : Int), (1 : Int)) : Int × Int).1 = -1 from rfl), List.append_nil]; exact hL⟩) (Nat.le_refl _) (Nat.le_refl _) d_MD_readAt_211
                        · refine lv_iconst (v := iI (2)) hx hb d_MD_readAt_182 rfl ?_
                          refine lv_goto (tgt := 203) hx hb d_MD_readAt_183 (by decide) ?_
                          refine lv_istore (lv' := [(5, .int (iI 2)), (4, .int (iI (b2 true))), (3, .int (iI (gt Z k))), (0, .ref y), (1, .int (iI k)), (2, .int (iI en))]) hx hb d_MD_readAt_203 hl (by decide) rfl (fun ls hl => ?_)
                          refine lv_iload hx hb d_MD_readAt_205 (lv_at hl 0 rfl) ?_
                          refine di_if_ne (tgt := 212) hx hb d_MD_readAt_207 (by decide) ⟨by decide, by decide⟩ (fun _ => ?_) (fun q9 => absurd q9 (by decide))
                          refine lv_aload_n hx hb d_MD_readAt_212 rfl (lv_at hl 3 rfl) ?_
                          refine lv_iload_n hx hb d_MD_readAt_213 rfl (lv_at hl 4 rfl) ?_
                          refine lv_iload hx hb d_MD_readAt_214 (lv_at hl 0 rfl) ?_
                          refine lv_iload hx hb d_MD_readAt_216 (lv_at hl 1 rfl) ?_
                          have hall := rd_all hen01 (n := 2) (Or.inr (Or.inl ⟨rfl, by omega, by omega⟩)) hz9
                          rw [hmd] at hall
                          refine cs_MD_131 X hz hw hl.1 hM.1 (c_MD_begun l G f _ y th T Y B Z M C k 2 true hk ⟨by omega, by omega⟩ ⟨si, un, bu, ma, bt, so, co, _, _, _, _, _, _, _, hM, hT, hB, hZ, hMa, hC, hY⟩) ⟨Nat.le_of_ble_eq_true rfl, Nat.le_of_ble_eq_true rfl⟩ ⟨by show 0 + 0 ≤ 0; omega, by show 0 + 0 ≤ 0; omega⟩ (Nat.le_of_ble_eq_true rfl) d_MD_readAt_218 (fun v f12 H locs hp hw hsz9 hkp9 hdm9 => ?_)
                          obtain ⟨rfl, C2, hL_f12⟩ := hp
                          refine W.eq (g2 := F0 m 221 ls [.int (iI (bgn Z k 2 true 64 0 1))]) rfl ?_
                          obtain ⟨si, un, bu, ma, bt, so, co, gsi, gun, gbu, gma, gbt, gso, gco, hM, hT, hB, hZ, hMa, hC, hY⟩ := id hL_f12
                          refine lv_istore (lv' := [(6, .int (iI (bgn Z k 2 true 64 0 1))), (5, .int (iI 2)), (4, .int (iI (b2 true))), (3, .int (iI (gt Z k))), (0, .ref y), (1, .int (iI k)), (2, .int (iI en))]) hx hb d_MD_readAt_221 hl (by decide) rfl (fun ls hl => ?_)
                          refine lv_iload hx hb d_MD_readAt_223 (lv_at hl 0 rfl) ?_
                          refine lv_iload hx hb d_MD_readAt_225 (lv_at hl 1 rfl) ?_
                          refine di_icmp_gt (tgt := 234) hx hb d_MD_readAt_227 (by decide) ⟨by omega, by omega⟩ ⟨by omega, by omega⟩ (fun bq227 => ?_) (fun bq227 => ?_)
                          · have hr8 := hall.2.1 (by omega)
                            have hrr := rdr_rng hZr hen hk.1 hk.2
                            rw [hr8] at hrr
                            have hgg := gss_rng (Z := Z) (k := k) (n := 2) ⟨by omega, by omega⟩ (fl := 0) ⟨by omega, by omega⟩
                            have hrr1 : gss Z k 2 0 < 1114112 := hrr.2.1
                            refine lv_aload_n hx hb d_MD_readAt_234 rfl (lv_at hl 4 rfl) ?_
                            refine lv_iload_n hx hb d_MD_readAt_235 rfl (lv_at hl 5 rfl) ?_
                            refine lv_iload hx hb d_MD_readAt_236 (lv_at hl 1 rfl) ?_
                            refine lv_iconst (v := iI (0)) hx hb d_MD_readAt_238 rfl ?_
                            refine cs_MD_121 X hz hw hl.1 hM.1 (c_MD_guess l G f12 _ y th T Y B Z M C2 k 2 0 hk ⟨by omega, by omega⟩ ⟨by omega, by omega⟩ ⟨si, un, bu, ma, bt, so, co, _, _, _, _, _, _, _, hM, hT, hB, hZ, hMa, hC, hY⟩) ⟨Nat.le_of_ble_eq_true rfl, Nat.le_of_ble_eq_true rfl⟩ ⟨by show 0 + 0 ≤ 0; omega, by show 0 + 0 ≤ 0; omega⟩ (Nat.le_of_ble_eq_true rfl) d_MD_readAt_239 (fun v f9 H locs hp hw hsz9 hkp9 hdm9 => ?_)
                            obtain ⟨rfl, hfe⟩ := hp
                            rw [hfe] at hw
                            refine W.eq (g2 := F0 m 242 ls [.int (iI (gss Z k 2 0))]) rfl ?_
                            refine lv_istore (lv' := [(7, .int (iI (gss Z k 2 0))), (6, .int (iI (bgn Z k 2 true 64 0 1))), (5, .int (iI 2)), (4, .int (iI (b2 true))), (3, .int (iI (gt Z k))), (0, .ref y), (1, .int (iI k)), (2, .int (iI en))]) hx hb d_MD_readAt_242 hl (by decide) rfl (fun ls hl => ?_)
                            refine lv_iload hx hb d_MD_readAt_244 (lv_at hl 0 rfl) ?_
                            refine lv_ldc (v := iI (65535)) hx hb X.own (X.hts _ mw_859) d_MD_readAt_246 ?_
                            refine di_icmp_le (tgt := 267) hx hb d_MD_readAt_248 (by decide) ⟨by omega, by omega⟩ ⟨by omega, by omega⟩ (fun bq248 => ?_) (fun bq248 => ?_)
                            · refine lv_aload_n hx hb d_MD_readAt_267 rfl (lv_at hl 5 rfl) ?_
                              refine lv_iload hx hb d_MD_readAt_268 (lv_at hl 0 rfl) ?_
                              refine lv_ldc (v := iI (65535)) hx hb X.own (X.hts _ mw_859) d_MD_readAt_270 ?_
                              refine di_icmp_le (tgt := 290) hx hb d_MD_readAt_272 (by decide) ⟨by omega, by omega⟩ ⟨by omega, by omega⟩ (fun bq272 => ?_) (fun bq272 => ?_)
                              · refine lv_iload hx hb d_MD_readAt_290 (lv_at hl 0 rfl) ?_
                                refine cs_MD_64 X hz hw hl.1 hM.1 (c_MD_make l G f12 _ y th T Y B Z M C2 (gss Z k 2 0) (by omega) ⟨si, un, bu, ma, bt, so, co, _, _, _, _, _, _, _, hM, hT, hB, hZ, hMa, hC, hY⟩) ⟨Nat.le_of_ble_eq_true rfl, Nat.le_of_ble_eq_true rfl⟩ ⟨by show 0 + 0 ≤ 0; omega, by show 0 + 0 ≤ 0; omega⟩ (Nat.le_of_ble_eq_true rfl) d_MD_readAt_292 (fun v f14 H locs hp hw hsz9 hkp9 hdm9 => ?_)
                                obtain ⟨rfl, hL_f14⟩ := hp
                                refine W.eq (g2 := F0 m 295 ls []) rfl ?_
                                obtain ⟨si, un, bu, ma, bt, so, co, gsi, gun, gbu, gma, gbt, gso, gco, hM, hT, hB, hZ, hMa, hC, hY⟩ := id hL_f14
                                refine lv_iload hx hb d_MD_readAt_295 (lv_at hl 2 rfl) ?_
                                refine lv_iconst (v := iI (1)) hx hb d_MD_readAt_297 rfl ?_
                                refine di_add hx hb d_MD_readAt_298 ?_
                                have hr9 : rdr Z en k = (gss Z k 2 0, 2 + 1) := hr8
                                have hu9 : uts ((gss Z k 2 0, 2 + 1)).1 = [gss Z k 2 0] := by show uts (gss Z k 2 0) = _; rw [uts, if_pos (by omega)]
                                exact cn_iret hx hb hr hlk hw  (⟨by rw [hr9, if_neg (show ¬ ((gss Z k 2 0, 2 + 1)).1 = -1 by show ¬ (gss Z k 2 0) = -1; omega)], _, by rw [hr9, if_neg (show ¬ ((gss Z k 2 0, 2 + 1)).1 = -1 by show ¬ (gss Z k 2 0) = -1; omega), hu9]; exact hL_f14⟩) (Nat.le_refl _) (Nat.le_refl _) d_MD_readAt_299
                              · exfalso; omega
                            · refine lv_aload_n hx hb d_MD_readAt_251 rfl (lv_at hl 5 rfl) ?_
                              refine lv_ldc (v := iI (55296)) hx hb X.own (X.hts _ mw_732) d_MD_readAt_252 ?_
                              refine lv_iload hx hb d_MD_readAt_254 (lv_at hl 0 rfl) ?_
                              refine lv_ldc (v := iI (65536)) hx hb X.own (X.hts _ mw_697) d_MD_readAt_256 ?_
                              refine di_sub hx hb d_MD_readAt_258 ?_
                              refine lv_sipush (v := iI (1024)) hx hb d_MD_readAt_259 rfl ?_
                              refine di_div hx hb d_MD_readAt_262 (by omega) (by omega) (by omega) (by omega) ?_
                              refine di_add hx hb d_MD_readAt_263 ?_
                              refine cs_MD_64 X hz hw hl.1 hM.1 (c_MD_make l G f12 _ y th T Y B Z M C2 (55296 + (gss Z k 2 0 - 65536) / 1024) (by omega) ⟨si, un, bu, ma, bt, so, co, _, _, _, _, _, _, _, hM, hT, hB, hZ, hMa, hC, hY⟩) ⟨Nat.le_of_ble_eq_true rfl, Nat.le_of_ble_eq_true rfl⟩ ⟨by show 0 + 0 ≤ 0; omega, by show 0 + 0 ≤ 0; omega⟩ (Nat.le_of_ble_eq_true rfl) d_MD_readAt_264 (fun v f14 H locs hp hw hsz9 hkp9 hdm9 => ?_)
                              obtain ⟨rfl, hL_f14⟩ := hp
                              refine W.eq (g2 := F0 m 267 ls []) rfl ?_
                              obtain ⟨si, un, bu, ma, bt, so, co, gsi, gun, gbu, gma, gbt, gso, gco, hM, hT, hB, hZ, hMa, hC, hY⟩ := id hL_f14
                              refine lv_aload_n hx hb d_MD_readAt_267 rfl (lv_at hl 5 rfl) ?_
                              refine lv_iload hx hb d_MD_readAt_268 (lv_at hl 0 rfl) ?_
                              refine lv_ldc (v := iI (65535)) hx hb X.own (X.hts _ mw_859) d_MD_readAt_270 ?_
                              refine di_icmp_le (tgt := 290) hx hb d_MD_readAt_272 (by decide) ⟨by omega, by omega⟩ ⟨by omega, by omega⟩ (fun bq272 => ?_) (fun bq272 => ?_)
                              · exfalso; omega
                              · refine lv_ldc (v := iI (56320)) hx hb X.own (X.hts _ mw_737) d_MD_readAt_275 ?_
                                refine lv_iload hx hb d_MD_readAt_277 (lv_at hl 0 rfl) ?_
                                refine lv_ldc (v := iI (65536)) hx hb X.own (X.hts _ mw_697) d_MD_readAt_279 ?_
                                refine di_sub hx hb d_MD_readAt_281 ?_
                                refine lv_sipush (v := iI (1024)) hx hb d_MD_readAt_282 rfl ?_
                                refine di_rem hx hb d_MD_readAt_285 (by omega) (by omega) (by omega) (by omega) ?_
                                refine di_add hx hb d_MD_readAt_286 ?_
                                refine lv_goto (tgt := 292) hx hb d_MD_readAt_287 (by decide) ?_
                                refine cs_MD_64 X hz hw hl.1 hM.1 (c_MD_make l G f14 _ y th T Y B Z (M ++ [55296 + (gss Z k 2 0 - 65536) / 1024]) C2 (56320 + (gss Z k 2 0 - 65536) % 1024) (by simp; omega) ⟨si, un, bu, ma, bt, so, co, _, _, _, _, _, _, _, hM, hT, hB, hZ, hMa, hC, hY⟩) ⟨Nat.le_of_ble_eq_true rfl, Nat.le_of_ble_eq_true rfl⟩ ⟨by show 0 + 0 ≤ 0; omega, by show 0 + 0 ≤ 0; omega⟩ (Nat.le_of_ble_eq_true rfl) d_MD_readAt_292 (fun v f15 H locs hp hw hsz9 hkp9 hdm9 => ?_)
                                obtain ⟨rfl, hL_f15⟩ := hp
                                refine W.eq (g2 := F0 m 295 ls []) rfl ?_
                                obtain ⟨si, un, bu, ma, bt, so, co, gsi, gun, gbu, gma, gbt, gso, gco, hM, hT, hB, hZ, hMa, hC, hY⟩ := id hL_f15
                                rw [List.append_assoc] at hL_f15
                                refine lv_iload hx hb d_MD_readAt_295 (lv_at hl 2 rfl) ?_
                                refine lv_iconst (v := iI (1)) hx hb d_MD_readAt_297 rfl ?_
                                refine di_add hx hb d_MD_readAt_298 ?_
                                have hr9 : rdr Z en k = (gss Z k 2 0, 2 + 1) := hr8
                                have hu9 : uts ((gss Z k 2 0, 2 + 1)).1 = [55296 + (gss Z k 2 0 - 65536) / 1024, 56320 + (gss Z k 2 0 - 65536) % 1024] := by show uts (gss Z k 2 0) = _; rw [uts, if_neg (by omega)]
                                exact cn_iret hx hb hr hlk hw  (⟨by rw [hr9, if_neg (show ¬ ((gss Z k 2 0, 2 + 1)).1 = -1 by show ¬ (gss Z k 2 0) = -1; omega)], _, by rw [hr9, if_neg (show ¬ ((gss Z k 2 0, 2 + 1)).1 = -1 by show ¬ (gss Z k 2 0) = -1; omega), hu9]; exact hL_f15⟩) (Nat.le_refl _) (Nat.le_refl _) d_MD_readAt_299
                          · refine lv_iload hx hb d_MD_readAt_230 (lv_at hl 0 rfl) ?_
                            refine di_neg hx hb d_MD_readAt_232 ?_
                            have hr9 : rdr Z en k = (-1, bgn Z k 2 true 64 0 1) := hall.1 (by omega)
                            exact cn_iret hx hb hr hlk hw  (⟨by rw [hr9, if_pos (show (((-1 : Int), (bgn Z k 2 true 64 0 1 : Int)) : Int × Int).1 = -1 from rfl)], _, by rw [hr9, if_pos (show (((-1 : Int), (bgn Z k 2 true 64 0 1 : Int)) : Int × Int).1 = -1 from rfl), List.append_nil]; exact hL_f12⟩) (Nat.le_refl _) (Nat.le_refl _) d_MD_readAt_233
                      · refine lv_iconst (v := iI (1)) hx hb d_MD_readAt_171 rfl ?_
                        refine lv_goto (tgt := 203) hx hb d_MD_readAt_172 (by decide) ?_
                        refine lv_istore (lv' := [(5, .int (iI 1)), (4, .int (iI (b2 true))), (3, .int (iI (gt Z k))), (0, .ref y), (1, .int (iI k)), (2, .int (iI en))]) hx hb d_MD_readAt_203 hl (by decide) rfl (fun ls hl => ?_)
                        refine lv_iload hx hb d_MD_readAt_205 (lv_at hl 0 rfl) ?_
                        refine di_if_ne (tgt := 212) hx hb d_MD_readAt_207 (by decide) ⟨by decide, by decide⟩ (fun _ => ?_) (fun q9 => absurd q9 (by decide))
                        refine lv_aload_n hx hb d_MD_readAt_212 rfl (lv_at hl 3 rfl) ?_
                        refine lv_iload_n hx hb d_MD_readAt_213 rfl (lv_at hl 4 rfl) ?_
                        refine lv_iload hx hb d_MD_readAt_214 (lv_at hl 0 rfl) ?_
                        refine lv_iload hx hb d_MD_readAt_216 (lv_at hl 1 rfl) ?_
                        have hall := rd_all hen01 (n := 1) (Or.inl ⟨rfl, by omega, by omega⟩) hz9
                        rw [hmd] at hall
                        refine cs_MD_131 X hz hw hl.1 hM.1 (c_MD_begun l G f _ y th T Y B Z M C k 1 true hk ⟨by omega, by omega⟩ ⟨si, un, bu, ma, bt, so, co, _, _, _, _, _, _, _, hM, hT, hB, hZ, hMa, hC, hY⟩) ⟨Nat.le_of_ble_eq_true rfl, Nat.le_of_ble_eq_true rfl⟩ ⟨by show 0 + 0 ≤ 0; omega, by show 0 + 0 ≤ 0; omega⟩ (Nat.le_of_ble_eq_true rfl) d_MD_readAt_218 (fun v f12 H locs hp hw hsz9 hkp9 hdm9 => ?_)
                        obtain ⟨rfl, C2, hL_f12⟩ := hp
                        refine W.eq (g2 := F0 m 221 ls [.int (iI (bgn Z k 1 true 64 0 1))]) rfl ?_
                        obtain ⟨si, un, bu, ma, bt, so, co, gsi, gun, gbu, gma, gbt, gso, gco, hM, hT, hB, hZ, hMa, hC, hY⟩ := id hL_f12
                        refine lv_istore (lv' := [(6, .int (iI (bgn Z k 1 true 64 0 1))), (5, .int (iI 1)), (4, .int (iI (b2 true))), (3, .int (iI (gt Z k))), (0, .ref y), (1, .int (iI k)), (2, .int (iI en))]) hx hb d_MD_readAt_221 hl (by decide) rfl (fun ls hl => ?_)
                        refine lv_iload hx hb d_MD_readAt_223 (lv_at hl 0 rfl) ?_
                        refine lv_iload hx hb d_MD_readAt_225 (lv_at hl 1 rfl) ?_
                        refine di_icmp_gt (tgt := 234) hx hb d_MD_readAt_227 (by decide) ⟨by omega, by omega⟩ ⟨by omega, by omega⟩ (fun bq227 => ?_) (fun bq227 => ?_)
                        · have hr8 := hall.2.1 (by omega)
                          have hrr := rdr_rng hZr hen hk.1 hk.2
                          rw [hr8] at hrr
                          have hgg := gss_rng (Z := Z) (k := k) (n := 1) ⟨by omega, by omega⟩ (fl := 0) ⟨by omega, by omega⟩
                          have hrr1 : gss Z k 1 0 < 1114112 := hrr.2.1
                          refine lv_aload_n hx hb d_MD_readAt_234 rfl (lv_at hl 4 rfl) ?_
                          refine lv_iload_n hx hb d_MD_readAt_235 rfl (lv_at hl 5 rfl) ?_
                          refine lv_iload hx hb d_MD_readAt_236 (lv_at hl 1 rfl) ?_
                          refine lv_iconst (v := iI (0)) hx hb d_MD_readAt_238 rfl ?_
                          refine cs_MD_121 X hz hw hl.1 hM.1 (c_MD_guess l G f12 _ y th T Y B Z M C2 k 1 0 hk ⟨by omega, by omega⟩ ⟨by omega, by omega⟩ ⟨si, un, bu, ma, bt, so, co, _, _, _, _, _, _, _, hM, hT, hB, hZ, hMa, hC, hY⟩) ⟨Nat.le_of_ble_eq_true rfl, Nat.le_of_ble_eq_true rfl⟩ ⟨by show 0 + 0 ≤ 0; omega, by show 0 + 0 ≤ 0; omega⟩ (Nat.le_of_ble_eq_true rfl) d_MD_readAt_239 (fun v f9 H locs hp hw hsz9 hkp9 hdm9 => ?_)
                          obtain ⟨rfl, hfe⟩ := hp
                          rw [hfe] at hw
                          refine W.eq (g2 := F0 m 242 ls [.int (iI (gss Z k 1 0))]) rfl ?_
                          refine lv_istore (lv' := [(7, .int (iI (gss Z k 1 0))), (6, .int (iI (bgn Z k 1 true 64 0 1))), (5, .int (iI 1)), (4, .int (iI (b2 true))), (3, .int (iI (gt Z k))), (0, .ref y), (1, .int (iI k)), (2, .int (iI en))]) hx hb d_MD_readAt_242 hl (by decide) rfl (fun ls hl => ?_)
                          refine lv_iload hx hb d_MD_readAt_244 (lv_at hl 0 rfl) ?_
                          refine lv_ldc (v := iI (65535)) hx hb X.own (X.hts _ mw_859) d_MD_readAt_246 ?_
                          refine di_icmp_le (tgt := 267) hx hb d_MD_readAt_248 (by decide) ⟨by omega, by omega⟩ ⟨by omega, by omega⟩ (fun bq248 => ?_) (fun bq248 => ?_)
                          · refine lv_aload_n hx hb d_MD_readAt_267 rfl (lv_at hl 5 rfl) ?_
                            refine lv_iload hx hb d_MD_readAt_268 (lv_at hl 0 rfl) ?_
                            refine lv_ldc (v := iI (65535)) hx hb X.own (X.hts _ mw_859) d_MD_readAt_270 ?_
                            refine di_icmp_le (tgt := 290) hx hb d_MD_readAt_272 (by decide) ⟨by omega, by omega⟩ ⟨by omega, by omega⟩ (fun bq272 => ?_) (fun bq272 => ?_)
                            · refine lv_iload hx hb d_MD_readAt_290 (lv_at hl 0 rfl) ?_
                              refine cs_MD_64 X hz hw hl.1 hM.1 (c_MD_make l G f12 _ y th T Y B Z M C2 (gss Z k 1 0) (by omega) ⟨si, un, bu, ma, bt, so, co, _, _, _, _, _, _, _, hM, hT, hB, hZ, hMa, hC, hY⟩) ⟨Nat.le_of_ble_eq_true rfl, Nat.le_of_ble_eq_true rfl⟩ ⟨by show 0 + 0 ≤ 0; omega, by show 0 + 0 ≤ 0; omega⟩ (Nat.le_of_ble_eq_true rfl) d_MD_readAt_292 (fun v f14 H locs hp hw hsz9 hkp9 hdm9 => ?_)
                              obtain ⟨rfl, hL_f14⟩ := hp
                              refine W.eq (g2 := F0 m 295 ls []) rfl ?_
                              obtain ⟨si, un, bu, ma, bt, so, co, gsi, gun, gbu, gma, gbt, gso, gco, hM, hT, hB, hZ, hMa, hC, hY⟩ := id hL_f14
                              refine lv_iload hx hb d_MD_readAt_295 (lv_at hl 2 rfl) ?_
                              refine lv_iconst (v := iI (1)) hx hb d_MD_readAt_297 rfl ?_
                              refine di_add hx hb d_MD_readAt_298 ?_
                              have hr9 : rdr Z en k = (gss Z k 1 0, 1 + 1) := hr8
                              have hu9 : uts ((gss Z k 1 0, 1 + 1)).1 = [gss Z k 1 0] := by show uts (gss Z k 1 0) = _; rw [uts, if_pos (by omega)]
                              exact cn_iret hx hb hr hlk hw  (⟨by rw [hr9, if_neg (show ¬ ((gss Z k 1 0, 1 + 1)).1 = -1 by show ¬ (gss Z k 1 0) = -1; omega)], _, by rw [hr9, if_neg (show ¬ ((gss Z k 1 0, 1 + 1)).1 = -1 by show ¬ (gss Z k 1 0) = -1; omega), hu9]; exact hL_f14⟩) (Nat.le_refl _) (Nat.le_refl _) d_MD_readAt_299
                            · exfalso; omega
                          · refine lv_aload_n hx hb d_MD_readAt_251 rfl (lv_at hl 5 rfl) ?_
                            refine lv_ldc (v := iI (55296)) hx hb X.own (X.hts _ mw_732) d_MD_readAt_252 ?_
                            refine lv_iload hx hb d_MD_readAt_254 (lv_at hl 0 rfl) ?_
                            refine lv_ldc (v := iI (65536)) hx hb X.own (X.hts _ mw_697) d_MD_readAt_256 ?_
                            refine di_sub hx hb d_MD_readAt_258 ?_
                            refine lv_sipush (v := iI (1024)) hx hb d_MD_readAt_259 rfl ?_
                            refine di_div hx hb d_MD_readAt_262 (by omega) (by omega) (by omega) (by omega) ?_
                            refine di_add hx hb d_MD_readAt_263 ?_
                            refine cs_MD_64 X hz hw hl.1 hM.1 (c_MD_make l G f12 _ y th T Y B Z M C2 (55296 + (gss Z k 1 0 - 65536) / 1024) (by omega) ⟨si, un, bu, ma, bt, so, co, _, _, _, _, _, _, _, hM, hT, hB, hZ, hMa, hC, hY⟩) ⟨Nat.le_of_ble_eq_true rfl, Nat.le_of_ble_eq_true rfl⟩ ⟨by show 0 + 0 ≤ 0; omega, by show 0 + 0 ≤ 0; omega⟩ (Nat.le_of_ble_eq_true rfl) d_MD_readAt_264 (fun v f14 H locs hp hw hsz9 hkp9 hdm9 => ?_)
                            obtain ⟨rfl, hL_f14⟩ := hp
                            refine W.eq (g2 := F0 m 267 ls []) rfl ?_
                            obtain ⟨si, un, bu, ma, bt, so, co, gsi, gun, gbu, gma, gbt, gso, gco, hM, hT, hB, hZ, hMa, hC, hY⟩ := id hL_f14
                            refine lv_aload_n hx hb d_MD_readAt_267 rfl (lv_at hl 5 rfl) ?_
                            refine lv_iload hx hb d_MD_readAt_268 (lv_at hl 0 rfl) ?_
                            refine lv_ldc (v := iI (65535)) hx hb X.own (X.hts _ mw_859) d_MD_readAt_270 ?_
                            refine di_icmp_le (tgt := 290) hx hb d_MD_readAt_272 (by decide) ⟨by omega, by omega⟩ ⟨by omega, by omega⟩ (fun bq272 => ?_) (fun bq272 => ?_)
                            · exfalso; omega
                            · refine lv_ldc (v := iI (56320)) hx hb X.own (X.hts _ mw_737) d_MD_readAt_275 ?_
                              refine lv_iload hx hb d_MD_readAt_277 (lv_at hl 0 rfl) ?_
                              refine lv_ldc (v := iI (65536)) hx hb X.own (X.hts _ mw_697) d_MD_readAt_279 ?_
                              refine di_sub hx hb d_MD_readAt_281 ?_
                              refine lv_sipush (v := iI (1024)) hx hb d_MD_readAt_282 rfl ?_
                              refine di_rem hx hb d_MD_readAt_285 (by omega) (by omega) (by omega) (by omega) ?_
                              refine di_add hx hb d_MD_readAt_286 ?_
                              refine lv_goto (tgt := 292) hx hb d_MD_readAt_287 (by decide) ?_
                              refine cs_MD_64 X hz hw hl.1 hM.1 (c_MD_make l G f14 _ y th T Y B Z (M ++ [55296 + (gss Z k 1 0 - 65536) / 1024]) C2 (56320 + (gss Z k 1 0 - 65536) % 1024) (by simp; omega) ⟨si, un, bu, ma, bt, so, co, _, _, _, _, _, _, _, hM, hT, hB, hZ, hMa, hC, hY⟩) ⟨Nat.le_of_ble_eq_true rfl, Nat.le_of_ble_eq_true rfl⟩ ⟨by show 0 + 0 ≤ 0; omega, by show 0 + 0 ≤ 0; omega⟩ (Nat.le_of_ble_eq_true rfl) d_MD_readAt_292 (fun v f15 H locs hp hw hsz9 hkp9 hdm9 => ?_)
                              obtain ⟨rfl, hL_f15⟩ := hp
                              refine W.eq (g2 := F0 m 295 ls []) rfl ?_
                              obtain ⟨si, un, bu, ma, bt, so, co, gsi, gun, gbu, gma, gbt, gso, gco, hM, hT, hB, hZ, hMa, hC, hY⟩ := id hL_f15
                              rw [List.append_assoc] at hL_f15
                              refine lv_iload hx hb d_MD_readAt_295 (lv_at hl 2 rfl) ?_
                              refine lv_iconst (v := iI (1)) hx hb d_MD_readAt_297 rfl ?_
                              refine di_add hx hb d_MD_readAt_298 ?_
                              have hr9 : rdr Z en k = (gss Z k 1 0, 1 + 1) := hr8
                              have hu9 : uts ((gss Z k 1 0, 1 + 1)).1 = [55296 + (gss Z k 1 0 - 65536) / 1024, 56320 + (gss Z k 1 0 - 65536) % 1024] := by show uts (gss Z k 1 0) = _; rw [uts, if_neg (by omega)]
                              exact cn_iret hx hb hr hlk hw  (⟨by rw [hr9, if_neg (show ¬ ((gss Z k 1 0, 1 + 1)).1 = -1 by show ¬ (gss Z k 1 0) = -1; omega)], _, by rw [hr9, if_neg (show ¬ ((gss Z k 1 0, 1 + 1)).1 = -1 by show ¬ (gss Z k 1 0) = -1; omega), hu9]; exact hL_f15⟩) (Nat.le_refl _) (Nat.le_refl _) d_MD_readAt_299
                        · refine lv_iload hx hb d_MD_readAt_230 (lv_at hl 0 rfl) ?_
                          refine di_neg hx hb d_MD_readAt_232 ?_
                          have hr9 : rdr Z en k = (-1, bgn Z k 1 true 64 0 1) := hall.1 (by omega)
                          exact cn_iret hx hb hr hlk hw  (⟨by rw [hr9, if_pos (show (((-1 : Int), (bgn Z k 1 true 64 0 1 : Int)) : Int × Int).1 = -1 from rfl)], _, by rw [hr9, if_pos (show (((-1 : Int), (bgn Z k 1 true 64 0 1 : Int)) : Int × Int).1 = -1 from rfl), List.append_nil]; exact hL_f12⟩) (Nat.le_refl _) (Nat.le_refl _) d_MD_readAt_233
                    · refine lv_iconst (v := iI (0)) hx hb d_MD_readAt_160 rfl ?_
                      refine lv_goto (tgt := 203) hx hb d_MD_readAt_161 (by decide) ?_
                      refine lv_istore (lv' := [(5, .int (iI 0)), (4, .int (iI (b2 true))), (3, .int (iI (gt Z k))), (0, .ref y), (1, .int (iI k)), (2, .int (iI en))]) hx hb d_MD_readAt_203 hl (by decide) rfl (fun ls hl => ?_)
                      refine lv_iload hx hb d_MD_readAt_205 (lv_at hl 0 rfl) ?_
                      refine di_if_ne (tgt := 212) hx hb d_MD_readAt_207 (by decide) ⟨by decide, by decide⟩ (fun q9 => absurd q9 (by decide)) (fun _ => ?_)
                      refine lv_iconst (v := iI (-1)) hx hb d_MD_readAt_210 rfl ?_
                      have hr9 : rdr Z en k = (-1, 1) := rd_0 hen01 (by omega)
                      exact cn_iret hx hb hr hlk hw  (⟨by rw [hr9, if_pos (show (((-1 : Int), (1 : Int)) : Int × Int).1 = -1 from rfl)], _, by rw [hr9, if_pos (show (((-1 : Int), (1 : Int)) : Int × Int).1 = -1 from rfl), List.append_nil]; exact hL⟩) (Nat.le_refl _) (Nat.le_refl _) d_MD_readAt_211
                  · refine lv_aload_n hx hb d_MD_readAt_132 rfl (lv_at hl 2 rfl) ?_
                    refine gf_MD_22_MD X hw hM.1 d_MD_readAt_133 ?_
                    refine lv_iload_n hx hb d_MD_readAt_136 rfl (lv_at hl 3 rfl) ?_
                    refine lv_iconst (v := iI (1)) hx hb d_MD_readAt_137 rfl ?_
                    refine di_add hx hb d_MD_readAt_138 ?_
                    refine dw_iald hx hb X.K hw 0 hM.2.2.2.2.2.1 rfl (i := k + 1) (by omega) (by omega) (by omega) (hZ.1.at (by omega) (by omega)) d_MD_readAt_139 ?_
                    refine lv_sipush (v := iI (128)) hx hb d_MD_readAt_140 rfl ?_
                    refine di_icmp_ne (tgt := 153) hx hb d_MD_readAt_143 (by decide) ⟨by omega, by omega⟩ ⟨by omega, by omega⟩ (fun bq143 => ?_) (fun bq143 => ?_)
                    · have hz9 : ¬ (en = 1 ∧ gt Z k = 192 ∧ gt Z (k + 1) = 128) := fun q => by omega
                      refine lv_iload_n hx hb d_MD_readAt_153 rfl (lv_at hl 1 rfl) ?_
                      refine lv_sipush (v := iI (192)) hx hb d_MD_readAt_154 rfl ?_
                      refine di_icmp_ge (tgt := 164) hx hb d_MD_readAt_157 (by decide) ⟨by omega, by omega⟩ ⟨by omega, by omega⟩ (fun bq157 => ?_) (fun bq157 => ?_)
                      · refine lv_iload_n hx hb d_MD_readAt_164 rfl (lv_at hl 1 rfl) ?_
                        refine lv_sipush (v := iI (224)) hx hb d_MD_readAt_165 rfl ?_
                        refine di_icmp_ge (tgt := 175) hx hb d_MD_readAt_168 (by decide) ⟨by omega, by omega⟩ ⟨by omega, by omega⟩ (fun bq168 => ?_) (fun bq168 => ?_)
                        · refine lv_iload_n hx hb d_MD_readAt_175 rfl (lv_at hl 1 rfl) ?_
                          refine lv_sipush (v := iI (240)) hx hb d_MD_readAt_176 rfl ?_
                          refine di_icmp_ge (tgt := 186) hx hb d_MD_readAt_179 (by decide) ⟨by omega, by omega⟩ ⟨by omega, by omega⟩ (fun bq179 => ?_) (fun bq179 => ?_)
                          · refine lv_iload_n hx hb d_MD_readAt_186 rfl (lv_at hl 1 rfl) ?_
                            refine lv_sipush (v := iI (248)) hx hb d_MD_readAt_187 rfl ?_
                            refine di_icmp_ge (tgt := 202) hx hb d_MD_readAt_190 (by decide) ⟨by omega, by omega⟩ ⟨by omega, by omega⟩ (fun bq190 => ?_) (fun bq190 => ?_)
                            · refine lv_iconst (v := iI (0)) hx hb d_MD_readAt_202 rfl ?_
                              refine lv_istore (lv' := [(5, .int (iI 0)), (4, .int (iI (b2 true))), (3, .int (iI (gt Z k))), (0, .ref y), (1, .int (iI k)), (2, .int (iI en))]) hx hb d_MD_readAt_203 hl (by decide) rfl (fun ls hl => ?_)
                              refine lv_iload hx hb d_MD_readAt_205 (lv_at hl 0 rfl) ?_
                              refine di_if_ne (tgt := 212) hx hb d_MD_readAt_207 (by decide) ⟨by decide, by decide⟩ (fun q9 => absurd q9 (by decide)) (fun _ => ?_)
                              refine lv_iconst (v := iI (-1)) hx hb d_MD_readAt_210 rfl ?_
                              have hr9 : rdr Z en k = (-1, 1) := rd_0 hen01 (by omega)
                              exact cn_iret hx hb hr hlk hw  (⟨by rw [hr9, if_pos (show (((-1 : Int), (1 : Int)) : Int × Int).1 = -1 from rfl)], _, by rw [hr9, if_pos (show (((-1 : Int), (1 : Int)) : Int × Int).1 = -1 from rfl), List.append_nil]; exact hL⟩) (Nat.le_refl _) (Nat.le_refl _) d_MD_readAt_211
                            · refine lv_iload hx hb d_MD_readAt_193 (lv_at hl 0 rfl) ?_
                              refine di_if_ne (tgt := 202) hx hb d_MD_readAt_195 (by decide) ⟨by decide, by decide⟩ (fun _ => ?_) (fun q9 => absurd q9 (by decide))
                              refine lv_iconst (v := iI (0)) hx hb d_MD_readAt_202 rfl ?_
                              refine lv_istore (lv' := [(5, .int (iI 0)), (4, .int (iI (b2 true))), (3, .int (iI (gt Z k))), (0, .ref y), (1, .int (iI k)), (2, .int (iI en))]) hx hb d_MD_readAt_203 hl (by decide) rfl (fun ls hl => ?_)
                              refine lv_iload hx hb d_MD_readAt_205 (lv_at hl 0 rfl) ?_
                              refine di_if_ne (tgt := 212) hx hb d_MD_readAt_207 (by decide) ⟨by decide, by decide⟩ (fun q9 => absurd q9 (by decide)) (fun _ => ?_)
                              refine lv_iconst (v := iI (-1)) hx hb d_MD_readAt_210 rfl ?_
                              have hr9 : rdr Z en k = (-1, 1) := rd_0 hen01 (by omega)
                              exact cn_iret hx hb hr hlk hw  (⟨by rw [hr9, if_pos (show (((-1 : Int), (1 : Int)) : Int × Int).1 = -1 from rfl)], _, by rw [hr9, if_pos (show (((-1 : Int), (1 : Int)) : Int × Int).1 = -1 from rfl), List.append_nil]; exact hL⟩) (Nat.le_refl _) (Nat.le_refl _) d_MD_readAt_211
                          · refine lv_iconst (v := iI (2)) hx hb d_MD_readAt_182 rfl ?_
                            refine lv_goto (tgt := 203) hx hb d_MD_readAt_183 (by decide) ?_
                            refine lv_istore (lv' := [(5, .int (iI 2)), (4, .int (iI (b2 true))), (3, .int (iI (gt Z k))), (0, .ref y), (1, .int (iI k)), (2, .int (iI en))]) hx hb d_MD_readAt_203 hl (by decide) rfl (fun ls hl => ?_)
                            refine lv_iload hx hb d_MD_readAt_205 (lv_at hl 0 rfl) ?_
                            refine di_if_ne (tgt := 212) hx hb d_MD_readAt_207 (by decide) ⟨by decide, by decide⟩ (fun _ => ?_) (fun q9 => absurd q9 (by decide))
                            refine lv_aload_n hx hb d_MD_readAt_212 rfl (lv_at hl 3 rfl) ?_
                            refine lv_iload_n hx hb d_MD_readAt_213 rfl (lv_at hl 4 rfl) ?_
                            refine lv_iload hx hb d_MD_readAt_214 (lv_at hl 0 rfl) ?_
                            refine lv_iload hx hb d_MD_readAt_216 (lv_at hl 1 rfl) ?_
                            have hall := rd_all hen01 (n := 2) (Or.inr (Or.inl ⟨rfl, by omega, by omega⟩)) hz9
                            rw [hmd] at hall
                            refine cs_MD_131 X hz hw hl.1 hM.1 (c_MD_begun l G f _ y th T Y B Z M C k 2 true hk ⟨by omega, by omega⟩ ⟨si, un, bu, ma, bt, so, co, _, _, _, _, _, _, _, hM, hT, hB, hZ, hMa, hC, hY⟩) ⟨Nat.le_of_ble_eq_true rfl, Nat.le_of_ble_eq_true rfl⟩ ⟨by show 0 + 0 ≤ 0; omega, by show 0 + 0 ≤ 0; omega⟩ (Nat.le_of_ble_eq_true rfl) d_MD_readAt_218 (fun v f12 H locs hp hw hsz9 hkp9 hdm9 => ?_)
                            obtain ⟨rfl, C2, hL_f12⟩ := hp
                            refine W.eq (g2 := F0 m 221 ls [.int (iI (bgn Z k 2 true 64 0 1))]) rfl ?_
                            obtain ⟨si, un, bu, ma, bt, so, co, gsi, gun, gbu, gma, gbt, gso, gco, hM, hT, hB, hZ, hMa, hC, hY⟩ := id hL_f12
                            refine lv_istore (lv' := [(6, .int (iI (bgn Z k 2 true 64 0 1))), (5, .int (iI 2)), (4, .int (iI (b2 true))), (3, .int (iI (gt Z k))), (0, .ref y), (1, .int (iI k)), (2, .int (iI en))]) hx hb d_MD_readAt_221 hl (by decide) rfl (fun ls hl => ?_)
                            refine lv_iload hx hb d_MD_readAt_223 (lv_at hl 0 rfl) ?_
                            refine lv_iload hx hb d_MD_readAt_225 (lv_at hl 1 rfl) ?_
                            refine di_icmp_gt (tgt := 234) hx hb d_MD_readAt_227 (by decide) ⟨by omega, by omega⟩ ⟨by omega, by omega⟩ (fun bq227 => ?_) (fun bq227 => ?_)
                            · have hr8 := hall.2.1 (by omega)
                              have hrr := rdr_rng hZr hen hk.1 hk.2
                              rw [hr8] at hrr
                              have hgg := gss_rng (Z := Z) (k := k) (n := 2) ⟨by omega, by omega⟩ (fl := 0) ⟨by omega, by omega⟩
                              have hrr1 : gss Z k 2 0 < 1114112 := hrr.2.1
                              refine lv_aload_n hx hb d_MD_readAt_234 rfl (lv_at hl 4 rfl) ?_
                              refine lv_iload_n hx hb d_MD_readAt_235 rfl (lv_at hl 5 rfl) ?_
                              refine lv_iload hx hb d_MD_readAt_236 (lv_at hl 1 rfl) ?_
                              refine lv_iconst (v := iI (0)) hx hb d_MD_readAt_238 rfl ?_
                              refine cs_MD_121 X hz hw hl.1 hM.1 (c_MD_guess l G f12 _ y th T Y B Z M C2 k 2 0 hk ⟨by omega, by omega⟩ ⟨by omega, by omega⟩ ⟨si, un, bu, ma, bt, so, co, _, _, _, _, _, _, _, hM, hT, hB, hZ, hMa, hC, hY⟩) ⟨Nat.le_of_ble_eq_true rfl, Nat.le_of_ble_eq_true rfl⟩ ⟨by show 0 + 0 ≤ 0; omega, by show 0 + 0 ≤ 0; omega⟩ (Nat.le_of_ble_eq_true rfl) d_MD_readAt_239 (fun v f9 H locs hp hw hsz9 hkp9 hdm9 => ?_)
                              obtain ⟨rfl, hfe⟩ := hp
                              rw [hfe] at hw
                              refine W.eq (g2 := F0 m 242 ls [.int (iI (gss Z k 2 0))]) rfl ?_
                              refine lv_istore (lv' := [(7, .int (iI (gss Z k 2 0))), (6, .int (iI (bgn Z k 2 true 64 0 1))), (5, .int (iI 2)), (4, .int (iI (b2 true))), (3, .int (iI (gt Z k))), (0, .ref y), (1, .int (iI k)), (2, .int (iI en))]) hx hb d_MD_readAt_242 hl (by decide) rfl (fun ls hl => ?_)
                              refine lv_iload hx hb d_MD_readAt_244 (lv_at hl 0 rfl) ?_
                              refine lv_ldc (v := iI (65535)) hx hb X.own (X.hts _ mw_859) d_MD_readAt_246 ?_
                              refine di_icmp_le (tgt := 267) hx hb d_MD_readAt_248 (by decide) ⟨by omega, by omega⟩ ⟨by omega, by omega⟩ (fun bq248 => ?_) (fun bq248 => ?_)
                              · refine lv_aload_n hx hb d_MD_readAt_267 rfl (lv_at hl 5 rfl) ?_
                                refine lv_iload hx hb d_MD_readAt_268 (lv_at hl 0 rfl) ?_
                                refine lv_ldc (v := iI (65535)) hx hb X.own (X.hts _ mw_859) d_MD_readAt_270 ?_
                                refine di_icmp_le (tgt := 290) hx hb d_MD_readAt_272 (by decide) ⟨by omega, by omega⟩ ⟨by omega, by omega⟩ (fun bq272 => ?_) (fun bq272 => ?_)
                                · refine lv_iload hx hb d_MD_readAt_290 (lv_at hl 0 rfl) ?_
                                  refine cs_MD_64 X hz hw hl.1 hM.1 (c_MD_make l G f12 _ y th T Y B Z M C2 (gss Z k 2 0) (by omega) ⟨si, un, bu, ma, bt, so, co, _, _, _, _, _, _, _, hM, hT, hB, hZ, hMa, hC, hY⟩) ⟨Nat.le_of_ble_eq_true rfl, Nat.le_of_ble_eq_true rfl⟩ ⟨by show 0 + 0 ≤ 0; omega, by show 0 + 0 ≤ 0; omega⟩ (Nat.le_of_ble_eq_true rfl) d_MD_readAt_292 (fun v f14 H locs hp hw hsz9 hkp9 hdm9 => ?_)
                                  obtain ⟨rfl, hL_f14⟩ := hp
                                  refine W.eq (g2 := F0 m 295 ls []) rfl ?_
                                  obtain ⟨si, un, bu, ma, bt, so, co, gsi, gun, gbu, gma, gbt, gso, gco, hM, hT, hB, hZ, hMa, hC, hY⟩ := id hL_f14
                                  refine lv_iload hx hb d_MD_readAt_295 (lv_at hl 2 rfl) ?_
                                  refine lv_iconst (v := iI (1)) hx hb d_MD_readAt_297 rfl ?_
                                  refine di_add hx hb d_MD_readAt_298 ?_
                                  have hr9 : rdr Z en k = (gss Z k 2 0, 2 + 1) := hr8
                                  have hu9 : uts ((gss Z k 2 0, 2 + 1)).1 = [gss Z k 2 0] := by show uts (gss Z k 2 0) = _; rw [uts, if_pos (by omega)]
                                  exact cn_iret hx hb hr hlk hw  (⟨by rw [hr9, if_neg (show ¬ ((gss Z k 2 0, 2 + 1)).1 = -1 by show ¬ (gss Z k 2 0) = -1; omega)], _, by rw [hr9, if_neg (show ¬ ((gss Z k 2 0, 2 + 1)).1 = -1 by show ¬ (gss Z k 2 0) = -1; omega), hu9]; exact hL_f14⟩) (Nat.le_refl _) (Nat.le_refl _) d_MD_readAt_299
                                · exfalso; omega
                              · refine lv_aload_n hx hb d_MD_readAt_251 rfl (lv_at hl 5 rfl) ?_
                                refine lv_ldc (v := iI (55296)) hx hb X.own (X.hts _ mw_732) d_MD_readAt_252 ?_
                                refine lv_iload hx hb d_MD_readAt_254 (lv_at hl 0 rfl) ?_
                                refine lv_ldc (v := iI (65536)) hx hb X.own (X.hts _ mw_697) d_MD_readAt_256 ?_
                                refine di_sub hx hb d_MD_readAt_258 ?_
                                refine lv_sipush (v := iI (1024)) hx hb d_MD_readAt_259 rfl ?_
                                refine di_div hx hb d_MD_readAt_262 (by omega) (by omega) (by omega) (by omega) ?_
                                refine di_add hx hb d_MD_readAt_263 ?_
                                refine cs_MD_64 X hz hw hl.1 hM.1 (c_MD_make l G f12 _ y th T Y B Z M C2 (55296 + (gss Z k 2 0 - 65536) / 1024) (by omega) ⟨si, un, bu, ma, bt, so, co, _, _, _, _, _, _, _, hM, hT, hB, hZ, hMa, hC, hY⟩) ⟨Nat.le_of_ble_eq_true rfl, Nat.le_of_ble_eq_true rfl⟩ ⟨by show 0 + 0 ≤ 0; omega, by show 0 + 0 ≤ 0; omega⟩ (Nat.le_of_ble_eq_true rfl) d_MD_readAt_264 (fun v f14 H locs hp hw hsz9 hkp9 hdm9 => ?_)
                                obtain ⟨rfl, hL_f14⟩ := hp
                                refine W.eq (g2 := F0 m 267 ls []) rfl ?_
                                obtain ⟨si, un, bu, ma, bt, so, co, gsi, gun, gbu, gma, gbt, gso, gco, hM, hT, hB, hZ, hMa, hC, hY⟩ := id hL_f14
                                refine lv_aload_n hx hb d_MD_readAt_267 rfl (lv_at hl 5 rfl) ?_
                                refine lv_iload hx hb d_MD_readAt_268 (lv_at hl 0 rfl) ?_
                                refine lv_ldc (v := iI (65535)) hx hb X.own (X.hts _ mw_859) d_MD_readAt_270 ?_
                                refine di_icmp_le (tgt := 290) hx hb d_MD_readAt_272 (by decide) ⟨by omega, by omega⟩ ⟨by omega, by omega⟩ (fun bq272 => ?_) (fun bq272 => ?_)
                                · exfalso; omega
                                · refine lv_ldc (v := iI (56320)) hx hb X.own (X.hts _ mw_737) d_MD_readAt_275 ?_
                                  refine lv_iload hx hb d_MD_readAt_277 (lv_at hl 0 rfl) ?_
                                  refine lv_ldc (v := iI (65536)) hx hb X.own (X.hts _ mw_697) d_MD_readAt_279 ?_
                                  refine di_sub hx hb d_MD_readAt_281 ?_
                                  refine lv_sipush (v := iI (1024)) hx hb d_MD_readAt_282 rfl ?_
                                  refine di_rem hx hb d_MD_readAt_285 (by omega) (by omega) (by omega) (by omega) ?_
                                  refine di_add hx hb d_MD_readAt_286 ?_
                                  refine lv_goto (tgt := 292) hx hb d_MD_readAt_287 (by decide) ?_
                                  refine cs_MD_64 X hz hw hl.1 hM.1 (c_MD_make l G f14 _ y th T Y B Z (M ++ [55296 + (gss Z k 2 0 - 65536) / 1024]) C2 (56320 + (gss Z k 2 0 - 65536) % 1024) (by simp; omega) ⟨si, un, bu, ma, bt, so, co, _, _, _, _, _, _, _, hM, hT, hB, hZ, hMa, hC, hY⟩) ⟨Nat.le_of_ble_eq_true rfl, Nat.le_of_ble_eq_true rfl⟩ ⟨by show 0 + 0 ≤ 0; omega, by show 0 + 0 ≤ 0; omega⟩ (Nat.le_of_ble_eq_true rfl) d_MD_readAt_292 (fun v f15 H locs hp hw hsz9 hkp9 hdm9 => ?_)
                                  obtain ⟨rfl, hL_f15⟩ := hp
                                  refine W.eq (g2 := F0 m 295 ls []) rfl ?_
                                  obtain ⟨si, un, bu, ma, bt, so, co, gsi, gun, gbu, gma, gbt, gso, gco, hM, hT, hB, hZ, hMa, hC, hY⟩ := id hL_f15
                                  rw [List.append_assoc] at hL_f15
                                  refine lv_iload hx hb d_MD_readAt_295 (lv_at hl 2 rfl) ?_
                                  refine lv_iconst (v := iI (1)) hx hb d_MD_readAt_297 rfl ?_
                                  refine di_add hx hb d_MD_readAt_298 ?_
                                  have hr9 : rdr Z en k = (gss Z k 2 0, 2 + 1) := hr8
                                  have hu9 : uts ((gss Z k 2 0, 2 + 1)).1 = [55296 + (gss Z k 2 0 - 65536) / 1024, 56320 + (gss Z k 2 0 - 65536) % 1024] := by show uts (gss Z k 2 0) = _; rw [uts, if_neg (by omega)]
                                  exact cn_iret hx hb hr hlk hw  (⟨by rw [hr9, if_neg (show ¬ ((gss Z k 2 0, 2 + 1)).1 = -1 by show ¬ (gss Z k 2 0) = -1; omega)], _, by rw [hr9, if_neg (show ¬ ((gss Z k 2 0, 2 + 1)).1 = -1 by show ¬ (gss Z k 2 0) = -1; omega), hu9]; exact hL_f15⟩) (Nat.le_refl _) (Nat.le_refl _) d_MD_readAt_299
                            · refine lv_iload hx hb d_MD_readAt_230 (lv_at hl 0 rfl) ?_
                              refine di_neg hx hb d_MD_readAt_232 ?_
                              have hr9 : rdr Z en k = (-1, bgn Z k 2 true 64 0 1) := hall.1 (by omega)
                              exact cn_iret hx hb hr hlk hw  (⟨by rw [hr9, if_pos (show (((-1 : Int), (bgn Z k 2 true 64 0 1 : Int)) : Int × Int).1 = -1 from rfl)], _, by rw [hr9, if_pos (show (((-1 : Int), (bgn Z k 2 true 64 0 1 : Int)) : Int × Int).1 = -1 from rfl), List.append_nil]; exact hL_f12⟩) (Nat.le_refl _) (Nat.le_refl _) d_MD_readAt_233
                        · refine lv_iconst (v := iI (1)) hx hb d_MD_readAt_171 rfl ?_
                          refine lv_goto (tgt := 203) hx hb d_MD_readAt_172 (by decide) ?_
                          refine lv_istore (lv' := [(5, .int (iI 1)), (4, .int (iI (b2 true))), (3, .int (iI (gt Z k))), (0, .ref y), (1, .int (iI k)), (2, .int (iI en))]) hx hb d_MD_readAt_203 hl (by decide) rfl (fun ls hl => ?_)
                          refine lv_iload hx hb d_MD_readAt_205 (lv_at hl 0 rfl) ?_
                          refine di_if_ne (tgt := 212) hx hb d_MD_readAt_207 (by decide) ⟨by decide, by decide⟩ (fun _ => ?_) (fun q9 => absurd q9 (by decide))
                          refine lv_aload_n hx hb d_MD_readAt_212 rfl (lv_at hl 3 rfl) ?_
                          refine lv_iload_n hx hb d_MD_readAt_213 rfl (lv_at hl 4 rfl) ?_
                          refine lv_iload hx hb d_MD_readAt_214 (lv_at hl 0 rfl) ?_
                          refine lv_iload hx hb d_MD_readAt_216 (lv_at hl 1 rfl) ?_
                          have hall := rd_all hen01 (n := 1) (Or.inl ⟨rfl, by omega, by omega⟩) hz9
                          rw [hmd] at hall
                          refine cs_MD_131 X hz hw hl.1 hM.1 (c_MD_begun l G f _ y th T Y B Z M C k 1 true hk ⟨by omega, by omega⟩ ⟨si, un, bu, ma, bt, so, co, _, _, _, _, _, _, _, hM, hT, hB, hZ, hMa, hC, hY⟩) ⟨Nat.le_of_ble_eq_true rfl, Nat.le_of_ble_eq_true rfl⟩ ⟨by show 0 + 0 ≤ 0; omega, by show 0 + 0 ≤ 0; omega⟩ (Nat.le_of_ble_eq_true rfl) d_MD_readAt_218 (fun v f12 H locs hp hw hsz9 hkp9 hdm9 => ?_)
                          obtain ⟨rfl, C2, hL_f12⟩ := hp
                          refine W.eq (g2 := F0 m 221 ls [.int (iI (bgn Z k 1 true 64 0 1))]) rfl ?_
                          obtain ⟨si, un, bu, ma, bt, so, co, gsi, gun, gbu, gma, gbt, gso, gco, hM, hT, hB, hZ, hMa, hC, hY⟩ := id hL_f12
                          refine lv_istore (lv' := [(6, .int (iI (bgn Z k 1 true 64 0 1))), (5, .int (iI 1)), (4, .int (iI (b2 true))), (3, .int (iI (gt Z k))), (0, .ref y), (1, .int (iI k)), (2, .int (iI en))]) hx hb d_MD_readAt_221 hl (by decide) rfl (fun ls hl => ?_)
                          refine lv_iload hx hb d_MD_readAt_223 (lv_at hl 0 rfl) ?_
                          refine lv_iload hx hb d_MD_readAt_225 (lv_at hl 1 rfl) ?_
                          refine di_icmp_gt (tgt := 234) hx hb d_MD_readAt_227 (by decide) ⟨by omega, by omega⟩ ⟨by omega, by omega⟩ (fun bq227 => ?_) (fun bq227 => ?_)
                          · have hr8 := hall.2.1 (by omega)
                            have hrr := rdr_rng hZr hen hk.1 hk.2
                            rw [hr8] at hrr
                            have hgg := gss_rng (Z := Z) (k := k) (n := 1) ⟨by omega, by omega⟩ (fl := 0) ⟨by omega, by omega⟩
                            have hrr1 : gss Z k 1 0 < 1114112 := hrr.2.1
                            refine lv_aload_n hx hb d_MD_readAt_234 rfl (lv_at hl 4 rfl) ?_
                            refine lv_iload_n hx hb d_MD_readAt_235 rfl (lv_at hl 5 rfl) ?_
                            refine lv_iload hx hb d_MD_readAt_236 (lv_at hl 1 rfl) ?_
                            refine lv_iconst (v := iI (0)) hx hb d_MD_readAt_238 rfl ?_
                            refine cs_MD_121 X hz hw hl.1 hM.1 (c_MD_guess l G f12 _ y th T Y B Z M C2 k 1 0 hk ⟨by omega, by omega⟩ ⟨by omega, by omega⟩ ⟨si, un, bu, ma, bt, so, co, _, _, _, _, _, _, _, hM, hT, hB, hZ, hMa, hC, hY⟩) ⟨Nat.le_of_ble_eq_true rfl, Nat.le_of_ble_eq_true rfl⟩ ⟨by show 0 + 0 ≤ 0; omega, by show 0 + 0 ≤ 0; omega⟩ (Nat.le_of_ble_eq_true rfl) d_MD_readAt_239 (fun v f9 H locs hp hw hsz9 hkp9 hdm9 => ?_)
                            obtain ⟨rfl, hfe⟩ := hp
                            rw [hfe] at hw
                            refine W.eq (g2 := F0 m 242 ls [.int (iI (gss Z k 1 0))]) rfl ?_
                            refine lv_istore (lv' := [(7, .int (iI (gss Z k 1 0))), (6, .int (iI (bgn Z k 1 true 64 0 1))), (5, .int (iI 1)), (4, .int (iI (b2 true))), (3, .int (iI (gt Z k))), (0, .ref y), (1, .int (iI k)), (2, .int (iI en))]) hx hb d_MD_readAt_242 hl (by decide) rfl (fun ls hl => ?_)
                            refine lv_iload hx hb d_MD_readAt_244 (lv_at hl 0 rfl) ?_
                            refine lv_ldc (v := iI (65535)) hx hb X.own (X.hts _ mw_859) d_MD_readAt_246 ?_
                            refine di_icmp_le (tgt := 267) hx hb d_MD_readAt_248 (by decide) ⟨by omega, by omega⟩ ⟨by omega, by omega⟩ (fun bq248 => ?_) (fun bq248 => ?_)
                            · refine lv_aload_n hx hb d_MD_readAt_267 rfl (lv_at hl 5 rfl) ?_
                              refine lv_iload hx hb d_MD_readAt_268 (lv_at hl 0 rfl) ?_
                              refine lv_ldc (v := iI (65535)) hx hb X.own (X.hts _ mw_859) d_MD_readAt_270 ?_
                              refine di_icmp_le (tgt := 290) hx hb d_MD_readAt_272 (by decide) ⟨by omega, by omega⟩ ⟨by omega, by omega⟩ (fun bq272 => ?_) (fun bq272 => ?_)
                              · refine lv_iload hx hb d_MD_readAt_290 (lv_at hl 0 rfl) ?_
                                refine cs_MD_64 X hz hw hl.1 hM.1 (c_MD_make l G f12 _ y th T Y B Z M C2 (gss Z k 1 0) (by omega) ⟨si, un, bu, ma, bt, so, co, _, _, _, _, _, _, _, hM, hT, hB, hZ, hMa, hC, hY⟩) ⟨Nat.le_of_ble_eq_true rfl, Nat.le_of_ble_eq_true rfl⟩ ⟨by show 0 + 0 ≤ 0; omega, by show 0 + 0 ≤ 0; omega⟩ (Nat.le_of_ble_eq_true rfl) d_MD_readAt_292 (fun v f14 H locs hp hw hsz9 hkp9 hdm9 => ?_)
                                obtain ⟨rfl, hL_f14⟩ := hp
                                refine W.eq (g2 := F0 m 295 ls []) rfl ?_
                                obtain ⟨si, un, bu, ma, bt, so, co, gsi, gun, gbu, gma, gbt, gso, gco, hM, hT, hB, hZ, hMa, hC, hY⟩ := id hL_f14
                                refine lv_iload hx hb d_MD_readAt_295 (lv_at hl 2 rfl) ?_
                                refine lv_iconst (v := iI (1)) hx hb d_MD_readAt_297 rfl ?_
                                refine di_add hx hb d_MD_readAt_298 ?_
                                have hr9 : rdr Z en k = (gss Z k 1 0, 1 + 1) := hr8
                                have hu9 : uts ((gss Z k 1 0, 1 + 1)).1 = [gss Z k 1 0] := by show uts (gss Z k 1 0) = _; rw [uts, if_pos (by omega)]
                                exact cn_iret hx hb hr hlk hw  (⟨by rw [hr9, if_neg (show ¬ ((gss Z k 1 0, 1 + 1)).1 = -1 by show ¬ (gss Z k 1 0) = -1; omega)], _, by rw [hr9, if_neg (show ¬ ((gss Z k 1 0, 1 + 1)).1 = -1 by show ¬ (gss Z k 1 0) = -1; omega), hu9]; exact hL_f14⟩) (Nat.le_refl _) (Nat.le_refl _) d_MD_readAt_299
                              · exfalso; omega
                            · refine lv_aload_n hx hb d_MD_readAt_251 rfl (lv_at hl 5 rfl) ?_
                              refine lv_ldc (v := iI (55296)) hx hb X.own (X.hts _ mw_732) d_MD_readAt_252 ?_
                              refine lv_iload hx hb d_MD_readAt_254 (lv_at hl 0 rfl) ?_
                              refine lv_ldc (v := iI (65536)) hx hb X.own (X.hts _ mw_697) d_MD_readAt_256 ?_
                              refine di_sub hx hb d_MD_readAt_258 ?_
                              refine lv_sipush (v := iI (1024)) hx hb d_MD_readAt_259 rfl ?_
                              refine di_div hx hb d_MD_readAt_262 (by omega) (by omega) (by omega) (by omega) ?_
                              refine di_add hx hb d_MD_readAt_263 ?_
                              refine cs_MD_64 X hz hw hl.1 hM.1 (c_MD_make l G f12 _ y th T Y B Z M C2 (55296 + (gss Z k 1 0 - 65536) / 1024) (by omega) ⟨si, un, bu, ma, bt, so, co, _, _, _, _, _, _, _, hM, hT, hB, hZ, hMa, hC, hY⟩) ⟨Nat.le_of_ble_eq_true rfl, Nat.le_of_ble_eq_true rfl⟩ ⟨by show 0 + 0 ≤ 0; omega, by show 0 + 0 ≤ 0; omega⟩ (Nat.le_of_ble_eq_true rfl) d_MD_readAt_264 (fun v f14 H locs hp hw hsz9 hkp9 hdm9 => ?_)
                              obtain ⟨rfl, hL_f14⟩ := hp
                              refine W.eq (g2 := F0 m 267 ls []) rfl ?_
                              obtain ⟨si, un, bu, ma, bt, so, co, gsi, gun, gbu, gma, gbt, gso, gco, hM, hT, hB, hZ, hMa, hC, hY⟩ := id hL_f14
                              refine lv_aload_n hx hb d_MD_readAt_267 rfl (lv_at hl 5 rfl) ?_
                              refine lv_iload hx hb d_MD_readAt_268 (lv_at hl 0 rfl) ?_
                              refine lv_ldc (v := iI (65535)) hx hb X.own (X.hts _ mw_859) d_MD_readAt_270 ?_
                              refine di_icmp_le (tgt := 290) hx hb d_MD_readAt_272 (by decide) ⟨by omega, by omega⟩ ⟨by omega, by omega⟩ (fun bq272 => ?_) (fun bq272 => ?_)
                              · exfalso; omega
                              · refine lv_ldc (v := iI (56320)) hx hb X.own (X.hts _ mw_737) d_MD_readAt_275 ?_
                                refine lv_iload hx hb d_MD_readAt_277 (lv_at hl 0 rfl) ?_
                                refine lv_ldc (v := iI (65536)) hx hb X.own (X.hts _ mw_697) d_MD_readAt_279 ?_
                                refine di_sub hx hb d_MD_readAt_281 ?_
                                refine lv_sipush (v := iI (1024)) hx hb d_MD_readAt_282 rfl ?_
                                refine di_rem hx hb d_MD_readAt_285 (by omega) (by omega) (by omega) (by omega) ?_
                                refine di_add hx hb d_MD_readAt_286 ?_
                                refine lv_goto (tgt := 292) hx hb d_MD_readAt_287 (by decide) ?_
                                refine cs_MD_64 X hz hw hl.1 hM.1 (c_MD_make l G f14 _ y th T Y B Z (M ++ [55296 + (gss Z k 1 0 - 65536) / 1024]) C2 (56320 + (gss Z k 1 0 - 65536) % 1024) (by simp; omega) ⟨si, un, bu, ma, bt, so, co, _, _, _, _, _, _, _, hM, hT, hB, hZ, hMa, hC, hY⟩) ⟨Nat.le_of_ble_eq_true rfl, Nat.le_of_ble_eq_true rfl⟩ ⟨by show 0 + 0 ≤ 0; omega, by show 0 + 0 ≤ 0; omega⟩ (Nat.le_of_ble_eq_true rfl) d_MD_readAt_292 (fun v f15 H locs hp hw hsz9 hkp9 hdm9 => ?_)
                                obtain ⟨rfl, hL_f15⟩ := hp
                                refine W.eq (g2 := F0 m 295 ls []) rfl ?_
                                obtain ⟨si, un, bu, ma, bt, so, co, gsi, gun, gbu, gma, gbt, gso, gco, hM, hT, hB, hZ, hMa, hC, hY⟩ := id hL_f15
                                rw [List.append_assoc] at hL_f15
                                refine lv_iload hx hb d_MD_readAt_295 (lv_at hl 2 rfl) ?_
                                refine lv_iconst (v := iI (1)) hx hb d_MD_readAt_297 rfl ?_
                                refine di_add hx hb d_MD_readAt_298 ?_
                                have hr9 : rdr Z en k = (gss Z k 1 0, 1 + 1) := hr8
                                have hu9 : uts ((gss Z k 1 0, 1 + 1)).1 = [55296 + (gss Z k 1 0 - 65536) / 1024, 56320 + (gss Z k 1 0 - 65536) % 1024] := by show uts (gss Z k 1 0) = _; rw [uts, if_neg (by omega)]
                                exact cn_iret hx hb hr hlk hw  (⟨by rw [hr9, if_neg (show ¬ ((gss Z k 1 0, 1 + 1)).1 = -1 by show ¬ (gss Z k 1 0) = -1; omega)], _, by rw [hr9, if_neg (show ¬ ((gss Z k 1 0, 1 + 1)).1 = -1 by show ¬ (gss Z k 1 0) = -1; omega), hu9]; exact hL_f15⟩) (Nat.le_refl _) (Nat.le_refl _) d_MD_readAt_299
                          · refine lv_iload hx hb d_MD_readAt_230 (lv_at hl 0 rfl) ?_
                            refine di_neg hx hb d_MD_readAt_232 ?_
                            have hr9 : rdr Z en k = (-1, bgn Z k 1 true 64 0 1) := hall.1 (by omega)
                            exact cn_iret hx hb hr hlk hw  (⟨by rw [hr9, if_pos (show (((-1 : Int), (bgn Z k 1 true 64 0 1 : Int)) : Int × Int).1 = -1 from rfl)], _, by rw [hr9, if_pos (show (((-1 : Int), (bgn Z k 1 true 64 0 1 : Int)) : Int × Int).1 = -1 from rfl), List.append_nil]; exact hL_f12⟩) (Nat.le_refl _) (Nat.le_refl _) d_MD_readAt_233
                      · refine lv_iconst (v := iI (0)) hx hb d_MD_readAt_160 rfl ?_
                        refine lv_goto (tgt := 203) hx hb d_MD_readAt_161 (by decide) ?_
                        refine lv_istore (lv' := [(5, .int (iI 0)), (4, .int (iI (b2 true))), (3, .int (iI (gt Z k))), (0, .ref y), (1, .int (iI k)), (2, .int (iI en))]) hx hb d_MD_readAt_203 hl (by decide) rfl (fun ls hl => ?_)
                        refine lv_iload hx hb d_MD_readAt_205 (lv_at hl 0 rfl) ?_
                        refine di_if_ne (tgt := 212) hx hb d_MD_readAt_207 (by decide) ⟨by decide, by decide⟩ (fun q9 => absurd q9 (by decide)) (fun _ => ?_)
                        refine lv_iconst (v := iI (-1)) hx hb d_MD_readAt_210 rfl ?_
                        have hr9 : rdr Z en k = (-1, 1) := rd_0 hen01 (by omega)
                        exact cn_iret hx hb hr hlk hw  (⟨by rw [hr9, if_pos (show (((-1 : Int), (1 : Int)) : Int × Int).1 = -1 from rfl)], _, by rw [hr9, if_pos (show (((-1 : Int), (1 : Int)) : Int × Int).1 = -1 from rfl), List.append_nil]; exact hL⟩) (Nat.le_refl _) (Nat.le_refl _) d_MD_readAt_211
                    · have hen1 : en = 1 := by omega
                      refine lv_aload_n hx hb d_MD_readAt_146 rfl (lv_at hl 2 rfl) ?_
                      refine lv_iconst (v := iI (0)) hx hb d_MD_readAt_147 rfl ?_
                      refine cs_MD_64 X hz hw hl.1 hM.1 (c_MD_make l G f _ y th T Y B Z M C 0 (by omega) ⟨si, un, bu, ma, bt, so, co, _, _, _, _, _, _, _, hM, hT, hB, hZ, hMa, hC, hY⟩) ⟨Nat.le_of_ble_eq_true rfl, Nat.le_of_ble_eq_true rfl⟩ ⟨by show 0 + 0 ≤ 0; omega, by show 0 + 0 ≤ 0; omega⟩ (Nat.le_of_ble_eq_true rfl) d_MD_readAt_148 (fun v f11 H locs hp hw hsz9 hkp9 hdm9 => ?_)
                      obtain ⟨rfl, hL_f11⟩ := hp
                      refine W.eq (g2 := F0 m 151 ls []) rfl ?_
                      obtain ⟨si, un, bu, ma, bt, so, co, gsi, gun, gbu, gma, gbt, gso, gco, hM, hT, hB, hZ, hMa, hC, hY⟩ := id hL_f11
                      refine lv_iconst (v := iI (2)) hx hb d_MD_readAt_151 rfl ?_
                      have hr9 : rdr Z en k = ((0 : Int), 2) := by rw [hen1]; exact rd_z (by omega) (by omega)
                      have hu9 : uts (((0 : Int), 2)).1 = [0] := rfl
                      exact cn_iret hx hb hr hlk hw  (⟨by rw [hr9, if_neg (show ¬ (((0 : Int), 2)).1 = -1 by show ¬ ((0 : Int)) = -1; omega)], _, by rw [hr9, if_neg (show ¬ (((0 : Int), 2)).1 = -1 by show ¬ ((0 : Int)) = -1; omega), hu9]; exact hL_f11⟩) (Nat.le_refl _) (Nat.le_refl _) d_MD_readAt_152
            · exfalso; omega
          · refine lv_aload_n hx hb d_MD_readAt_32 rfl (lv_at hl 1 rfl) ?_
            refine lv_iload_n hx hb d_MD_readAt_33 rfl (lv_at hl 0 rfl) ?_
            refine cs_MD_64 X hz hw hl.1 hM.1 (c_MD_make l G f _ y th T Y B Z M C (gt Z k) (by omega) ⟨si, un, bu, ma, bt, so, co, _, _, _, _, _, _, _, hM, hT, hB, hZ, hMa, hC, hY⟩) ⟨Nat.le_of_ble_eq_true rfl, Nat.le_of_ble_eq_true rfl⟩ ⟨by show 0 + 0 ≤ 0; omega, by show 0 + 0 ≤ 0; omega⟩ (Nat.le_of_ble_eq_true rfl) d_MD_readAt_34 (fun v f11 H locs hp hw hsz9 hkp9 hdm9 => ?_)
            obtain ⟨rfl, hL_f11⟩ := hp
            refine W.eq (g2 := F0 m 37 ls []) rfl ?_
            obtain ⟨si, un, bu, ma, bt, so, co, gsi, gun, gbu, gma, gbt, gso, gco, hM, hT, hB, hZ, hMa, hC, hY⟩ := id hL_f11
            refine lv_iconst (v := iI (1)) hx hb d_MD_readAt_37 rfl ?_
            have hr9 : rdr Z en k = (gt Z k, 1) := rd_a hen01 (by omega)
            have hu9 : uts ((gt Z k, 1)).1 = [gt Z k] := by show uts (gt Z k) = _; rw [uts, if_pos (by omega)]
            exact cn_iret hx hb hr hlk hw  (⟨by rw [hr9, if_neg (show ¬ ((gt Z k, 1)).1 = -1 by show ¬ (gt Z k) = -1; omega)], _, by rw [hr9, if_neg (show ¬ ((gt Z k, 1)).1 = -1 by show ¬ (gt Z k) = -1; omega), hu9]; exact hL_f11⟩) (Nat.le_refl _) (Nat.le_refl _) d_MD_readAt_38
set_option maxRecDepth 100000 in
set_option maxHeartbeats 4000000 in
theorem c_MD_decode (l : Launch) (G : ct_G) (f : dw_M) (sz : Nat) (y : Nat) (th : Int) (T Y : List (List Int)) (B Z M C : List Int) (en : Int) (hen : iR en) (st : Bool) (hL : mdL G f y th T Y B Z M C) : cn l y_MD_decode w_MD_decode (4) (98) G f sz [.ref y, .int (iI en), .int (iI (b2 st))] (fun v f' => v = some (.int (iI (sp_decode T Y B Z en st).2.1)) ∧ mdP G f' y (sp_decode T Y B Z en st)) (0) (0) := by
  refine cn_of (own := "TextDeskModel") (nm := "decode") (ds := "(IZ)I") (by decide) (Nat.le_of_ble_eq_true rfl) ?_
  intro p e s m args below meth c ls X hnm hr hlk hs0 hz hw hl
  have hx := X.1
  have hb := X.2.1
  have hl : lv_has ls 6 [(0, .ref y), (1, .int (iI en)), (2, .int (iI (b2 st)))] := hl
  obtain ⟨si, un, bu, ma, bt, so, co, gsi, gun, gbu, gma, gbt, gso, gco, hM, hT, hB, hZ, hMa, hC, hY⟩ := id hL
  have hTl := hT.1
  have hBl := hB.1.1
  have hZl := hZ.1.1
  have hYl := hY.1
  have hCl := hC.1
  obtain ⟨hen0, hen1⟩ := hen
  have hZr := hZ.2
  have hbst := b2_01 st
  refine lv_aload_n hx hb d_MD_decode_0 rfl (lv_at hl 0 rfl) ?_
  refine lv_iload_n hx hb d_MD_decode_1 rfl (lv_at hl 1 rfl) ?_
  refine lv_iconst (v := iI (5)) hx hb d_MD_decode_2 rfl ?_
  refine cs_MD_61 X hz hw hl.1 (c_MD_out l G f _ en 5 ⟨by omega, by omega⟩ ⟨by omega, by omega⟩) ⟨Nat.le_of_ble_eq_true rfl, Nat.le_of_ble_eq_true rfl⟩ ⟨by show 0 + 0 ≤ 0; omega, by show 0 + 0 ≤ 0; omega⟩ (Nat.le_of_ble_eq_true rfl) d_MD_decode_3 (fun v f9 H locs hp hw hsz9 hkp9 hdm9 => ?_)
  obtain ⟨rfl, hfe⟩ := hp
  rw [hfe] at hw
  refine W.eq (g2 := F0 m 6 ls [.int (iI (b2 (decide (en < 0 ∨ 5 ≤ en)))), .ref y]) rfl ?_
  have hbo := b2_01 (decide (en < 0 ∨ 5 ≤ en))
  refine di_if_eq (tgt := 13) hx hb d_MD_decode_6 (by decide) ⟨by omega, by omega⟩ (fun bq6 => ?_) (fun bq6 => ?_)
  · have he2 := of_decide_eq_false (b2_0 (by omega) : decide (en < 0 ∨ 5 ≤ en) = false)
    have hen9 : 0 ≤ en ∧ en ≤ 4 := by omega
    refine lv_iconst (v := iI (0)) hx hb d_MD_decode_13 rfl ?_
    refine pf_MD_31_MD X hw hM.1 rfl rfl d_MD_decode_14 (fun H locs hw => ?_)
    obtain ⟨f1, e_f1⟩ : ∃ g9 : dw_M, g9 = dw_up f y (.inr (6, [.int (iI 0), .int (iI ((T.length : Int))), .ref si, .ref un, .int (iI ((B.length : Int))), .ref bu, .int (iI ((M.length : Int))), .ref ma, .int (iI ((Z.length : Int))), .ref bt, .int (iI ((Y.length : Int))), .ref so, .int (iI ((C.length : Int))), .ref co])) := ⟨_, rfl⟩
    rw [← e_f1] at hw
    have hM_f1 : mdS G f1 y 0 (T.length : Int) (B.length : Int) (M.length : Int) (Z.length : Int) (Y.length : Int) (C.length : Int) si un bu ma bt so co gsi gun gbu gma gbt gso gco := by rw [e_f1]; exact hM.obj 0 (T.length : Int) (B.length : Int) (M.length : Int) (Z.length : Int) (Y.length : Int) (C.length : Int)
    refine lv_aload_n hx hb d_MD_decode_17 rfl (lv_at hl 0 rfl) ?_
    refine gf_MD_31_MD X hw hM_f1.1 d_MD_decode_18 ?_
    refine di_if_le (tgt := 26) hx hb d_MD_decode_21 (by decide) ⟨by decide, by decide⟩ (fun _ => ?_) (fun q9 => absurd q9 (by decide))
    refine lv_aload_n hx hb d_MD_decode_26 rfl (lv_at hl 0 rfl) ?_
    refine lv_iconst (v := iI (0)) hx hb d_MD_decode_27 rfl ?_
    refine pf_MD_55_MD X hw hM_f1.1 rfl rfl d_MD_decode_28 (fun H locs hw => ?_)
    obtain ⟨f2, e_f2⟩ : ∃ g9 : dw_M, g9 = dw_up f1 y (.inr (6, [.int (iI 0), .int (iI ((T.length : Int))), .ref si, .ref un, .int (iI ((B.length : Int))), .ref bu, .int (iI 0), .ref ma, .int (iI ((Z.length : Int))), .ref bt, .int (iI ((Y.length : Int))), .ref so, .int (iI ((C.length : Int))), .ref co])) := ⟨_, rfl⟩
    rw [← e_f2] at hw
    have hM_f2 : mdS G f2 y 0 (T.length : Int) (B.length : Int) 0 (Z.length : Int) (Y.length : Int) (C.length : Int) si un bu ma bt so co gsi gun gbu gma gbt gso gco := by rw [e_f2]; exact hM_f1.obj 0 (T.length : Int) (B.length : Int) 0 (Z.length : Int) (Y.length : Int) (C.length : Int)
    refine lv_iconst (v := iI (1)) hx hb d_MD_decode_31 rfl ?_
    refine lv_istore_n (lv' := [(3, .int (iI 1)), (0, .ref y), (1, .int (iI en)), (2, .int (iI (b2 st)))]) hx hb d_MD_decode_32 rfl hl (by decide) rfl (fun ls hl => ?_)
    refine lv_iconst (v := iI (0)) hx hb d_MD_decode_33 rfl ?_
    refine lv_istore (lv' := [(4, .int (iI 0)), (3, .int (iI 1)), (0, .ref y), (1, .int (iI en)), (2, .int (iI (b2 st)))]) hx hb d_MD_decode_34 hl (by decide) rfl (fun ls hl => ?_)
    have loop : ∀ (N : Nat) (k : Int) (Mk : List Int) (fu : Nat) (gd : Bool) (Ck : List Int) (f1 : dw_M) (H : Heap) (locs : List Loc) (ls : Array Slot), ((Z.length : Int) + 4 - k).toNat < N → 0 ≤ k → k ≤ (Z.length : Int) + 3 → (Z.length : Int) - k < (fu : Int) + 1 → dec Z en = Mk ++ dcl Z en (fu + 1) k → dgd Z en = (gd && dcg Z en (fu + 1) k) → (Mk.length : Int) ≤ 2 * k → mdL G f1 y 0 T Y B Z Mk Ck → dw G.1 dk_cl (dw_A f sz) s.heap f1 H locs → lv_has ls 6 [(4, .int (iI k)), (3, .int (iI (b2 gd))), (0, .ref y), (1, .int (iI en)), (2, .int (iI (b2 st)))] → W p l e { frames := 4, locals := 98, cells := 0, slots := 0 } s m args below meth c H locs (0) (0) (MQ below (ct_Q G f sz (fun v f' => v = some (.int (iI (sp_decode T Y B Z en st).2.1)) ∧ mdP G f' y (sp_decode T Y B Z en st))) args s (0) (0) (dw_A f sz)) (F0 m 36 ls []) := by
      intro N
      induction N with
      | zero => intros; omega
      | succ N ih =>
        intro k Mk fu gd Ck f1 H locs ls hN hk0 hk1 hfu hspl hgd hMl hL1 hw hl
        obtain ⟨si, un, bu, ma, bt, so, co, gsi, gun, gbu, gma, gbt, gso, gco, hM, hT, hB, hZ, hMa, hC, hY⟩ := id hL1
        have hbg := b2_01 gd
        refine lv_iload hx hb d_MD_decode_36 (lv_at hl 0 rfl) ?_
        refine lv_aload_n hx hb d_MD_decode_38 rfl (lv_at hl 2 rfl) ?_
        refine gf_MD_112_MD X hw hM.1 d_MD_decode_39 ?_
        refine di_icmp_ge (tgt := 82) hx hb d_MD_decode_42 (by decide) ⟨by omega, by omega⟩ ⟨by omega, by omega⟩ (fun bq42 => ?_) (fun bq42 => ?_)
        · have hdec : dec Z en = Mk := by rw [hspl, dcl, if_pos (by omega), List.append_nil]
          have hdgd : dgd Z en = gd := by rw [hgd, dcg, if_pos (by omega), Bool.and_true]
          have hrM : ∀ u ∈ Mk, 0 ≤ u ∧ u < 65536 := by rw [← hdec]; exact dcl_rng hZr hen9 _ 0 (by omega)
          refine lv_aload_n hx hb d_MD_decode_82 rfl (lv_at hl 2 rfl) ?_
          refine lv_iload_n hx hb d_MD_decode_83 rfl (lv_at hl 4 rfl) ?_
          refine di_if_eq (tgt := 95) hx hb d_MD_decode_84 (by decide) ⟨by omega, by omega⟩ (fun bq84 => ?_) (fun bq84 => ?_)
          · have hns : ¬ (st = true ∧ dgd Z en = false) := fun q => by rw [b2_0 bq84] at q; cases q.1
            refine lv_aload_n hx hb d_MD_decode_95 rfl (lv_at hl 2 rfl) ?_
            refine gf_MD_55_MD X hw hM.1 d_MD_decode_96 ?_
            refine lv_bipush (v := iI (60)) hx hb d_MD_decode_99 rfl ?_
            refine di_icmp_gt (tgt := 113) hx hb d_MD_decode_101 (by decide) ⟨by omega, by omega⟩ ⟨by omega, by omega⟩ (fun bq101 => ?_) (fun bq101 => ?_)
            · refine lv_iconst (v := iI (3)) hx hb d_MD_decode_113 rfl ?_
              refine lv_goto (tgt := 118) hx hb d_MD_decode_114 (by decide) ?_
              refine pf_MD_31_MD X hw hM.1 rfl rfl d_MD_decode_118 (fun H locs hw => ?_)
              obtain ⟨f3, e_f3⟩ : ∃ g9 : dw_M, g9 = dw_up f1 y (.inr (6, [.int (iI 3), .int (iI ((T.length : Int))), .ref si, .ref un, .int (iI ((B.length : Int))), .ref bu, .int (iI ((Mk.length : Int))), .ref ma, .int (iI ((Z.length : Int))), .ref bt, .int (iI ((Y.length : Int))), .ref so, .int (iI ((Ck.length : Int))), .ref co])) := ⟨_, rfl⟩
              rw [← e_f3] at hw
              have hM_f3 : mdS G f3 y 3 (T.length : Int) (B.length : Int) (Mk.length : Int) (Z.length : Int) (Y.length : Int) (Ck.length : Int) si un bu ma bt so co gsi gun gbu gma gbt gso gco := by rw [e_f3]; exact hM.obj 3 (T.length : Int) (B.length : Int) (Mk.length : Int) (Z.length : Int) (Y.length : Int) (Ck.length : Int)
              refine lv_aload_n hx hb d_MD_decode_121 rfl (lv_at hl 2 rfl) ?_
              refine gf_MD_31_MD X hw hM_f3.1 d_MD_decode_122 ?_
              refine di_if_le (tgt := 130) hx hb d_MD_decode_125 (by decide) ⟨by decide, by decide⟩ (fun q9 => absurd q9 (by decide)) (fun _ => ?_)
              refine lv_iconst (v := iI (0)) hx hb d_MD_decode_128 rfl ?_
              have e9 : sp_decode T Y B Z en st = (3, 0, T, Y, B, Z) := by rw [sp_decode, if_neg (by omega), if_neg hns, hdec, if_pos (by omega)]
              exact cn_iret hx hb hr hlk hw  (⟨by rw [e9], by rw [e9]; exact mdP_of (M := Mk) (C := Ck) ⟨si, un, bu, ma, bt, so, co, _, _, _, _, _, _, _, hM_f3, hT, hB, hZ, hMa, hC, hY⟩⟩) (Nat.le_refl _) (Nat.le_refl _) d_MD_decode_129
            · refine lv_aload_n hx hb d_MD_decode_104 rfl (lv_at hl 2 rfl) ?_
              refine gf_MD_58_MD X hw hM.1 d_MD_decode_105 ?_
              refine lv_bipush (v := iI (24)) hx hb d_MD_decode_108 rfl ?_
              refine di_icmp_ne (tgt := 117) hx hb d_MD_decode_110 (by decide) ⟨by omega, by omega⟩ ⟨by omega, by omega⟩ (fun bq110 => ?_) (fun bq110 => ?_)
              · refine lv_iconst (v := iI (0)) hx hb d_MD_decode_117 rfl ?_
                refine pf_MD_31_MD X hw hM.1 rfl rfl d_MD_decode_118 (fun H locs hw => ?_)
                obtain ⟨f4, e_f4⟩ : ∃ g9 : dw_M, g9 = dw_up f1 y (.inr (6, [.int (iI 0), .int (iI ((T.length : Int))), .ref si, .ref un, .int (iI ((B.length : Int))), .ref bu, .int (iI ((Mk.length : Int))), .ref ma, .int (iI ((Z.length : Int))), .ref bt, .int (iI ((Y.length : Int))), .ref so, .int (iI ((Ck.length : Int))), .ref co])) := ⟨_, rfl⟩
                rw [← e_f4] at hw
                have hM_f4 : mdS G f4 y 0 (T.length : Int) (B.length : Int) (Mk.length : Int) (Z.length : Int) (Y.length : Int) (Ck.length : Int) si un bu ma bt so co gsi gun gbu gma gbt gso gco := by rw [e_f4]; exact hM.obj 0 (T.length : Int) (B.length : Int) (Mk.length : Int) (Z.length : Int) (Y.length : Int) (Ck.length : Int)
                refine lv_aload_n hx hb d_MD_decode_121 rfl (lv_at hl 2 rfl) ?_
                refine gf_MD_31_MD X hw hM_f4.1 d_MD_decode_122 ?_
                refine di_if_le (tgt := 130) hx hb d_MD_decode_125 (by decide) ⟨by decide, by decide⟩ (fun _ => ?_) (fun q9 => absurd q9 (by decide))
                refine lv_aload_n hx hb d_MD_decode_130 rfl (lv_at hl 2 rfl) ?_
                refine lv_iconst (v := iI (0)) hx hb d_MD_decode_131 rfl ?_
                refine pf_MD_112_MD X hw hM_f4.1 rfl rfl d_MD_decode_132 (fun H locs hw => ?_)
                obtain ⟨f5, e_f5⟩ : ∃ g9 : dw_M, g9 = dw_up f4 y (.inr (6, [.int (iI 0), .int (iI ((T.length : Int))), .ref si, .ref un, .int (iI ((B.length : Int))), .ref bu, .int (iI ((Mk.length : Int))), .ref ma, .int (iI 0), .ref bt, .int (iI ((Y.length : Int))), .ref so, .int (iI ((Ck.length : Int))), .ref co])) := ⟨_, rfl⟩
                rw [← e_f5] at hw
                have hM_f5 : mdS G f5 y 0 (T.length : Int) (B.length : Int) (Mk.length : Int) 0 (Y.length : Int) (Ck.length : Int) si un bu ma bt so co gsi gun gbu gma gbt gso gco := by rw [e_f5]; exact hM_f4.obj 0 (T.length : Int) (B.length : Int) (Mk.length : Int) 0 (Y.length : Int) (Ck.length : Int)
                refine lv_aload_n hx hb d_MD_decode_135 rfl (lv_at hl 2 rfl) ?_
                refine cs_MD_78 X hz hw hl.1 hM_f5.1 (c_MD_addMade l G f5 _ y 0 T Y B [] Mk Ck (by omega) (by omega) hrM ⟨si, un, bu, ma, bt, so, co, _, _, _, _, _, _, _, hM_f5, hT, hB, ⟨rA.nil _ _, mem_nil⟩, hMa, hC, hY⟩) ⟨Nat.le_of_ble_eq_true rfl, Nat.le_of_ble_eq_true rfl⟩ ⟨by show 0 + 0 ≤ 0; omega, by show 0 + 0 ≤ 0; omega⟩ (Nat.le_of_ble_eq_true rfl) d_MD_decode_136 (fun v f9 H locs hp hw hsz9 hkp9 hdm9 => ?_)
                obtain ⟨rfl, hL_f9⟩ := hp
                refine W.eq (g2 := F0 m 139 ls [.int (iI ((T.length : Int)))]) rfl ?_
                obtain ⟨si, un, bu, ma, bt, so, co, gsi, gun, gbu, gma, gbt, gso, gco, hM, hT, hB, hZ, hMa, hC, hY⟩ := id hL_f9
                have e9 : sp_decode T Y B Z en st = (0, (T.length : Int), T ++ [Mk], Y, B, []) := by rw [sp_decode, if_neg (by omega), if_neg hns, hdec, if_neg (by omega)]
                exact cn_iret hx hb hr hlk hw  (⟨by rw [e9], by rw [e9]; exact mdP_of (M := Mk) (C := Ck) ⟨si, un, bu, ma, bt, so, co, _, _, _, _, _, _, _, hM, hT, hB, hZ, hMa, hC, hY⟩⟩) (Nat.le_refl _) (Nat.le_refl _) d_MD_decode_139
              · refine lv_iconst (v := iI (3)) hx hb d_MD_decode_113 rfl ?_
                refine lv_goto (tgt := 118) hx hb d_MD_decode_114 (by decide) ?_
                refine pf_MD_31_MD X hw hM.1 rfl rfl d_MD_decode_118 (fun H locs hw => ?_)
                obtain ⟨f6, e_f6⟩ : ∃ g9 : dw_M, g9 = dw_up f1 y (.inr (6, [.int (iI 3), .int (iI ((T.length : Int))), .ref si, .ref un, .int (iI ((B.length : Int))), .ref bu, .int (iI ((Mk.length : Int))), .ref ma, .int (iI ((Z.length : Int))), .ref bt, .int (iI ((Y.length : Int))), .ref so, .int (iI ((Ck.length : Int))), .ref co])) := ⟨_, rfl⟩
                rw [← e_f6] at hw
                have hM_f6 : mdS G f6 y 3 (T.length : Int) (B.length : Int) (Mk.length : Int) (Z.length : Int) (Y.length : Int) (Ck.length : Int) si un bu ma bt so co gsi gun gbu gma gbt gso gco := by rw [e_f6]; exact hM.obj 3 (T.length : Int) (B.length : Int) (Mk.length : Int) (Z.length : Int) (Y.length : Int) (Ck.length : Int)
                refine lv_aload_n hx hb d_MD_decode_121 rfl (lv_at hl 2 rfl) ?_
                refine gf_MD_31_MD X hw hM_f6.1 d_MD_decode_122 ?_
                refine di_if_le (tgt := 130) hx hb d_MD_decode_125 (by decide) ⟨by decide, by decide⟩ (fun q9 => absurd q9 (by decide)) (fun _ => ?_)
                refine lv_iconst (v := iI (0)) hx hb d_MD_decode_128 rfl ?_
                have e9 : sp_decode T Y B Z en st = (3, 0, T, Y, B, Z) := by rw [sp_decode, if_neg (by omega), if_neg hns, hdec, if_pos (by omega)]
                exact cn_iret hx hb hr hlk hw  (⟨by rw [e9], by rw [e9]; exact mdP_of (M := Mk) (C := Ck) ⟨si, un, bu, ma, bt, so, co, _, _, _, _, _, _, _, hM_f6, hT, hB, hZ, hMa, hC, hY⟩⟩) (Nat.le_refl _) (Nat.le_refl _) d_MD_decode_129
          · refine lv_iload_n hx hb d_MD_decode_87 rfl (lv_at hl 1 rfl) ?_
            refine di_if_ne (tgt := 95) hx hb d_MD_decode_88 (by decide) ⟨by omega, by omega⟩ (fun bq88 => ?_) (fun bq88 => ?_)
            · have hns : ¬ (st = true ∧ dgd Z en = false) := fun q => by rw [hdgd, b2_1 bq88] at q; cases q.2
              refine lv_aload_n hx hb d_MD_decode_95 rfl (lv_at hl 2 rfl) ?_
              refine gf_MD_55_MD X hw hM.1 d_MD_decode_96 ?_
              refine lv_bipush (v := iI (60)) hx hb d_MD_decode_99 rfl ?_
              refine di_icmp_gt (tgt := 113) hx hb d_MD_decode_101 (by decide) ⟨by omega, by omega⟩ ⟨by omega, by omega⟩ (fun bq101 => ?_) (fun bq101 => ?_)
              · refine lv_iconst (v := iI (3)) hx hb d_MD_decode_113 rfl ?_
                refine lv_goto (tgt := 118) hx hb d_MD_decode_114 (by decide) ?_
                refine pf_MD_31_MD X hw hM.1 rfl rfl d_MD_decode_118 (fun H locs hw => ?_)
                obtain ⟨f7, e_f7⟩ : ∃ g9 : dw_M, g9 = dw_up f1 y (.inr (6, [.int (iI 3), .int (iI ((T.length : Int))), .ref si, .ref un, .int (iI ((B.length : Int))), .ref bu, .int (iI ((Mk.length : Int))), .ref ma, .int (iI ((Z.length : Int))), .ref bt, .int (iI ((Y.length : Int))), .ref so, .int (iI ((Ck.length : Int))), .ref co])) := ⟨_, rfl⟩
                rw [← e_f7] at hw
                have hM_f7 : mdS G f7 y 3 (T.length : Int) (B.length : Int) (Mk.length : Int) (Z.length : Int) (Y.length : Int) (Ck.length : Int) si un bu ma bt so co gsi gun gbu gma gbt gso gco := by rw [e_f7]; exact hM.obj 3 (T.length : Int) (B.length : Int) (Mk.length : Int) (Z.length : Int) (Y.length : Int) (Ck.length : Int)
                refine lv_aload_n hx hb d_MD_decode_121 rfl (lv_at hl 2 rfl) ?_
                refine gf_MD_31_MD X hw hM_f7.1 d_MD_decode_122 ?_
                refine di_if_le (tgt := 130) hx hb d_MD_decode_125 (by decide) ⟨by decide, by decide⟩ (fun q9 => absurd q9 (by decide)) (fun _ => ?_)
                refine lv_iconst (v := iI (0)) hx hb d_MD_decode_128 rfl ?_
                have e9 : sp_decode T Y B Z en st = (3, 0, T, Y, B, Z) := by rw [sp_decode, if_neg (by omega), if_neg hns, hdec, if_pos (by omega)]
                exact cn_iret hx hb hr hlk hw  (⟨by rw [e9], by rw [e9]; exact mdP_of (M := Mk) (C := Ck) ⟨si, un, bu, ma, bt, so, co, _, _, _, _, _, _, _, hM_f7, hT, hB, hZ, hMa, hC, hY⟩⟩) (Nat.le_refl _) (Nat.le_refl _) d_MD_decode_129
              · refine lv_aload_n hx hb d_MD_decode_104 rfl (lv_at hl 2 rfl) ?_
                refine gf_MD_58_MD X hw hM.1 d_MD_decode_105 ?_
                refine lv_bipush (v := iI (24)) hx hb d_MD_decode_108 rfl ?_
                refine di_icmp_ne (tgt := 117) hx hb d_MD_decode_110 (by decide) ⟨by omega, by omega⟩ ⟨by omega, by omega⟩ (fun bq110 => ?_) (fun bq110 => ?_)
                · refine lv_iconst (v := iI (0)) hx hb d_MD_decode_117 rfl ?_
                  refine pf_MD_31_MD X hw hM.1 rfl rfl d_MD_decode_118 (fun H locs hw => ?_)
                  obtain ⟨f8, e_f8⟩ : ∃ g9 : dw_M, g9 = dw_up f1 y (.inr (6, [.int (iI 0), .int (iI ((T.length : Int))), .ref si, .ref un, .int (iI ((B.length : Int))), .ref bu, .int (iI ((Mk.length : Int))), .ref ma, .int (iI ((Z.length : Int))), .ref bt, .int (iI ((Y.length : Int))), .ref so, .int (iI ((Ck.length : Int))), .ref co])) := ⟨_, rfl⟩
                  rw [← e_f8] at hw
                  have hM_f8 : mdS G f8 y 0 (T.length : Int) (B.length : Int) (Mk.length : Int) (Z.length : Int) (Y.length : Int) (Ck.length : Int) si un bu ma bt so co gsi gun gbu gma gbt gso gco := by rw [e_f8]; exact hM.obj 0 (T.length : Int) (B.length : Int) (Mk.length : Int) (Z.length : Int) (Y.length : Int) (Ck.length : Int)
                  refine lv_aload_n hx hb d_MD_decode_121 rfl (lv_at hl 2 rfl) ?_
                  refine gf_MD_31_MD X hw hM_f8.1 d_MD_decode_122 ?_
                  refine di_if_le (tgt := 130) hx hb d_MD_decode_125 (by decide) ⟨by decide, by decide⟩ (fun _ => ?_) (fun q9 => absurd q9 (by decide))
                  refine lv_aload_n hx hb d_MD_decode_130 rfl (lv_at hl 2 rfl) ?_
                  refine lv_iconst (v := iI (0)) hx hb d_MD_decode_131 rfl ?_
                  refine pf_MD_112_MD X hw hM_f8.1 rfl rfl d_MD_decode_132 (fun H locs hw => ?_)
                  obtain ⟨f9, e_f9⟩ : ∃ g9 : dw_M, g9 = dw_up f8 y (.inr (6, [.int (iI 0), .int (iI ((T.length : Int))), .ref si, .ref un, .int (iI ((B.length : Int))), .ref bu, .int (iI ((Mk.length : Int))), .ref ma, .int (iI 0), .ref bt, .int (iI ((Y.length : Int))), .ref so, .int (iI ((Ck.length : Int))), .ref co])) := ⟨_, rfl⟩
                  rw [← e_f9] at hw
                  have hM_f9 : mdS G f9 y 0 (T.length : Int) (B.length : Int) (Mk.length : Int) 0 (Y.length : Int) (Ck.length : Int) si un bu ma bt so co gsi gun gbu gma gbt gso gco := by rw [e_f9]; exact hM_f8.obj 0 (T.length : Int) (B.length : Int) (Mk.length : Int) 0 (Y.length : Int) (Ck.length : Int)
                  refine lv_aload_n hx hb d_MD_decode_135 rfl (lv_at hl 2 rfl) ?_
                  refine cs_MD_78 X hz hw hl.1 hM_f9.1 (c_MD_addMade l G f9 _ y 0 T Y B [] Mk Ck (by omega) (by omega) hrM ⟨si, un, bu, ma, bt, so, co, _, _, _, _, _, _, _, hM_f9, hT, hB, ⟨rA.nil _ _, mem_nil⟩, hMa, hC, hY⟩) ⟨Nat.le_of_ble_eq_true rfl, Nat.le_of_ble_eq_true rfl⟩ ⟨by show 0 + 0 ≤ 0; omega, by show 0 + 0 ≤ 0; omega⟩ (Nat.le_of_ble_eq_true rfl) d_MD_decode_136 (fun v f9 H locs hp hw hsz9 hkp9 hdm9 => ?_)
                  obtain ⟨rfl, hL_f9⟩ := hp
                  refine W.eq (g2 := F0 m 139 ls [.int (iI ((T.length : Int)))]) rfl ?_
                  obtain ⟨si, un, bu, ma, bt, so, co, gsi, gun, gbu, gma, gbt, gso, gco, hM, hT, hB, hZ, hMa, hC, hY⟩ := id hL_f9
                  have e9 : sp_decode T Y B Z en st = (0, (T.length : Int), T ++ [Mk], Y, B, []) := by rw [sp_decode, if_neg (by omega), if_neg hns, hdec, if_neg (by omega)]
                  exact cn_iret hx hb hr hlk hw  (⟨by rw [e9], by rw [e9]; exact mdP_of (M := Mk) (C := Ck) ⟨si, un, bu, ma, bt, so, co, _, _, _, _, _, _, _, hM, hT, hB, hZ, hMa, hC, hY⟩⟩) (Nat.le_refl _) (Nat.le_refl _) d_MD_decode_139
                · refine lv_iconst (v := iI (3)) hx hb d_MD_decode_113 rfl ?_
                  refine lv_goto (tgt := 118) hx hb d_MD_decode_114 (by decide) ?_
                  refine pf_MD_31_MD X hw hM.1 rfl rfl d_MD_decode_118 (fun H locs hw => ?_)
                  obtain ⟨f10, e_f10⟩ : ∃ g9 : dw_M, g9 = dw_up f1 y (.inr (6, [.int (iI 3), .int (iI ((T.length : Int))), .ref si, .ref un, .int (iI ((B.length : Int))), .ref bu, .int (iI ((Mk.length : Int))), .ref ma, .int (iI ((Z.length : Int))), .ref bt, .int (iI ((Y.length : Int))), .ref so, .int (iI ((Ck.length : Int))), .ref co])) := ⟨_, rfl⟩
                  rw [← e_f10] at hw
                  have hM_f10 : mdS G f10 y 3 (T.length : Int) (B.length : Int) (Mk.length : Int) (Z.length : Int) (Y.length : Int) (Ck.length : Int) si un bu ma bt so co gsi gun gbu gma gbt gso gco := by rw [e_f10]; exact hM.obj 3 (T.length : Int) (B.length : Int) (Mk.length : Int) (Z.length : Int) (Y.length : Int) (Ck.length : Int)
                  refine lv_aload_n hx hb d_MD_decode_121 rfl (lv_at hl 2 rfl) ?_
                  refine gf_MD_31_MD X hw hM_f10.1 d_MD_decode_122 ?_
                  refine di_if_le (tgt := 130) hx hb d_MD_decode_125 (by decide) ⟨by decide, by decide⟩ (fun q9 => absurd q9 (by decide)) (fun _ => ?_)
                  refine lv_iconst (v := iI (0)) hx hb d_MD_decode_128 rfl ?_
                  have e9 : sp_decode T Y B Z en st = (3, 0, T, Y, B, Z) := by rw [sp_decode, if_neg (by omega), if_neg hns, hdec, if_pos (by omega)]
                  exact cn_iret hx hb hr hlk hw  (⟨by rw [e9], by rw [e9]; exact mdP_of (M := Mk) (C := Ck) ⟨si, un, bu, ma, bt, so, co, _, _, _, _, _, _, _, hM_f10, hT, hB, hZ, hMa, hC, hY⟩⟩) (Nat.le_refl _) (Nat.le_refl _) d_MD_decode_129
            · refine lv_iconst (v := iI (2)) hx hb d_MD_decode_91 rfl ?_
              refine lv_goto (tgt := 118) hx hb d_MD_decode_92 (by decide) ?_
              refine pf_MD_31_MD X hw hM.1 rfl rfl d_MD_decode_118 (fun H locs hw => ?_)
              obtain ⟨f11, e_f11⟩ : ∃ g9 : dw_M, g9 = dw_up f1 y (.inr (6, [.int (iI 2), .int (iI ((T.length : Int))), .ref si, .ref un, .int (iI ((B.length : Int))), .ref bu, .int (iI ((Mk.length : Int))), .ref ma, .int (iI ((Z.length : Int))), .ref bt, .int (iI ((Y.length : Int))), .ref so, .int (iI ((Ck.length : Int))), .ref co])) := ⟨_, rfl⟩
              rw [← e_f11] at hw
              have hM_f11 : mdS G f11 y 2 (T.length : Int) (B.length : Int) (Mk.length : Int) (Z.length : Int) (Y.length : Int) (Ck.length : Int) si un bu ma bt so co gsi gun gbu gma gbt gso gco := by rw [e_f11]; exact hM.obj 2 (T.length : Int) (B.length : Int) (Mk.length : Int) (Z.length : Int) (Y.length : Int) (Ck.length : Int)
              refine lv_aload_n hx hb d_MD_decode_121 rfl (lv_at hl 2 rfl) ?_
              refine gf_MD_31_MD X hw hM_f11.1 d_MD_decode_122 ?_
              refine di_if_le (tgt := 130) hx hb d_MD_decode_125 (by decide) ⟨by decide, by decide⟩ (fun q9 => absurd q9 (by decide)) (fun _ => ?_)
              refine lv_iconst (v := iI (0)) hx hb d_MD_decode_128 rfl ?_
              have e9 : sp_decode T Y B Z en st = (2, 0, T, Y, B, Z) := by rw [sp_decode, if_neg (by omega), if_pos ⟨b2_1 bq84, hdgd.trans (b2_0 (by omega))⟩]
              exact cn_iret hx hb hr hlk hw  (⟨by rw [e9], by rw [e9]; exact mdP_of (M := Mk) (C := Ck) ⟨si, un, bu, ma, bt, so, co, _, _, _, _, _, _, _, hM_f11, hT, hB, hZ, hMa, hC, hY⟩⟩) (Nat.le_refl _) (Nat.le_refl _) d_MD_decode_129
        · obtain ⟨fu2, rfl⟩ : ∃ z, fu = z + 1 := ⟨fu - 1, by omega⟩
          have hrr := rdr_rng hZr hen9 hk0 (by omega : k < (Z.length : Int))
          have hs1 : dcl Z en (fu2 + 1 + 1) k = uts (if (rdr Z en k).1 = -1 then 65533 else (rdr Z en k).1) ++ dcl Z en (fu2 + 1) (k + (rdr Z en k).2) := by rw [dcl, if_neg (by omega)]
          have hs2 : dcg Z en (fu2 + 1 + 1) k = (decide ((rdr Z en k).1 ≠ -1) && dcg Z en (fu2 + 1) (k + (rdr Z en k).2)) := by rw [dcg, if_neg (by omega)]
          refine lv_aload_n hx hb d_MD_decode_45 rfl (lv_at hl 2 rfl) ?_
          refine lv_iload hx hb d_MD_decode_46 (lv_at hl 0 rfl) ?_
          refine lv_iload_n hx hb d_MD_decode_48 rfl (lv_at hl 3 rfl) ?_
          refine cs_MD_135 X hz hw hl.1 hM.1 (c_MD_readAt l G f1 _ y 0 T Y B Z Mk Ck k en ⟨by omega, by omega⟩ hen9 (by omega) ⟨si, un, bu, ma, bt, so, co, _, _, _, _, _, _, _, hM, hT, hB, hZ, hMa, hC, hY⟩) ⟨Nat.le_of_ble_eq_true rfl, Nat.le_of_ble_eq_true rfl⟩ ⟨by show 0 + 0 ≤ 0; omega, by show 0 + 0 ≤ 0; omega⟩ (Nat.le_of_ble_eq_true rfl) d_MD_decode_49 (fun v f21 H locs hp hw hsz9 hkp9 hdm9 => ?_)
          obtain ⟨rfl, C2, hL_f21⟩ := hp
          refine W.eq (g2 := F0 m 52 ls [.int (iI (if (rdr Z en k).1 = -1 then -(rdr Z en k).2 else (rdr Z en k).2))]) rfl ?_
          have hpz := uts_len (rdr Z en k).1
          obtain ⟨cd, hcd⟩ : ∃ z, z = (rdr Z en k).1 := ⟨_, rfl⟩
          obtain ⟨wd, hwd⟩ : ∃ z, z = (rdr Z en k).2 := ⟨_, rfl⟩
          rw [← hcd, ← hwd] at hs1 hs2 hrr ⊢
          rw [← hcd] at hL_f21 hpz
          by_cases hbad : cd = -1
          · rw [if_pos hbad, List.append_nil] at hL_f21
            rw [if_pos hbad] at hs1 ⊢
            have hu9 : uts 65533 = [65533] := rfl
            rw [hu9] at hs1
            rw [show decide (cd ≠ -1) = false from decide_eq_false (fun q => q hbad)] at hs2
            obtain ⟨si, un, bu, ma, bt, so, co, gsi, gun, gbu, gma, gbt, gso, gco, hM, hT, hB, hZ, hMa, hC, hY⟩ := id hL_f21
            refine lv_istore (lv' := [(5, .int (iI (-wd))), (4, .int (iI k)), (3, .int (iI (b2 gd))), (0, .ref y), (1, .int (iI en)), (2, .int (iI (b2 st)))]) hx hb d_MD_decode_52 hl (by decide) rfl (fun ls hl => ?_)
            refine lv_iload hx hb d_MD_decode_54 (lv_at hl 0 rfl) ?_
            refine di_if_ge (tgt := 72) hx hb d_MD_decode_56 (by decide) ⟨by omega, by omega⟩ (fun bq56 => ?_) (fun bq56 => ?_)
            · exfalso; omega
            · refine lv_iconst (v := iI (0)) hx hb d_MD_decode_59 rfl ?_
              refine lv_istore_n (lv' := [(3, .int (iI 0)), (5, .int (iI (-wd))), (4, .int (iI k)), (0, .ref y), (1, .int (iI en)), (2, .int (iI (b2 st)))]) hx hb d_MD_decode_60 rfl hl (by decide) rfl (fun ls hl => ?_)
              refine lv_aload_n hx hb d_MD_decode_61 rfl (lv_at hl 3 rfl) ?_
              refine lv_ldc (v := iI (65533)) hx hb X.own (X.hts _ mw_865) d_MD_decode_62 ?_
              refine cs_MD_64 X hz hw hl.1 hM.1 (c_MD_make l G f21 _ y 0 T Y B Z Mk C2 65533 (by omega) ⟨si, un, bu, ma, bt, so, co, _, _, _, _, _, _, _, hM, hT, hB, hZ, hMa, hC, hY⟩) ⟨Nat.le_of_ble_eq_true rfl, Nat.le_of_ble_eq_true rfl⟩ ⟨by show 0 + 0 ≤ 0; omega, by show 0 + 0 ≤ 0; omega⟩ (Nat.le_of_ble_eq_true rfl) d_MD_decode_64 (fun v f22 H locs hp hw hsz9 hkp9 hdm9 => ?_)
              obtain ⟨rfl, hL_f22⟩ := hp
              refine W.eq (g2 := F0 m 67 ls []) rfl ?_
              obtain ⟨si, un, bu, ma, bt, so, co, gsi, gun, gbu, gma, gbt, gso, gco, hM, hT, hB, hZ, hMa, hC, hY⟩ := id hL_f22
              refine lv_iload hx hb d_MD_decode_67 (lv_at hl 1 rfl) ?_
              refine di_neg hx hb d_MD_decode_69 ?_
              refine lv_istore (lv' := [(5, .int (iI (-(-wd)))), (3, .int (iI 0)), (4, .int (iI k)), (0, .ref y), (1, .int (iI en)), (2, .int (iI (b2 st)))]) hx hb d_MD_decode_70 hl (by decide) rfl (fun ls hl => ?_)
              refine lv_iload hx hb d_MD_decode_72 (lv_at hl 2 rfl) ?_
              refine lv_iload hx hb d_MD_decode_74 (lv_at hl 0 rfl) ?_
              refine di_add hx hb d_MD_decode_76 ?_
              refine lv_istore (lv' := [(4, .int (iI (k + (-(-wd))))), (5, .int (iI (-(-wd)))), (3, .int (iI 0)), (0, .ref y), (1, .int (iI en)), (2, .int (iI (b2 st)))]) hx hb d_MD_decode_77 hl (by decide) rfl (fun ls hl => ?_)
              refine lv_goto (tgt := 36) hx hb d_MD_decode_79 (by decide) ?_
              rw [show k + -(-wd) = k + wd by omega] at hl
              exact ih (k + wd) (Mk ++ [65533]) (fu2) (false) (C2) _ _ _ _ (by omega) (by omega) (by omega) (by omega) (by rw [hspl, hs1, List.append_assoc]) (by rw [hgd, hs2]; simp) (by rw [List.length_append]; simp; omega) (hL_f22) hw (lv_sub hl [0, 2, 3, 4, 5] rfl)
          · rw [if_neg hbad] at hL_f21
            rw [if_neg hbad] at hs1 ⊢
            rw [show decide (cd ≠ -1) = true from decide_eq_true hbad, Bool.true_and] at hs2
            obtain ⟨si, un, bu, ma, bt, so, co, gsi, gun, gbu, gma, gbt, gso, gco, hM, hT, hB, hZ, hMa, hC, hY⟩ := id hL_f21
            refine lv_istore (lv' := [(5, .int (iI wd)), (4, .int (iI k)), (3, .int (iI (b2 gd))), (0, .ref y), (1, .int (iI en)), (2, .int (iI (b2 st)))]) hx hb d_MD_decode_52 hl (by decide) rfl (fun ls hl => ?_)
            refine lv_iload hx hb d_MD_decode_54 (lv_at hl 0 rfl) ?_
            refine di_if_ge (tgt := 72) hx hb d_MD_decode_56 (by decide) ⟨by omega, by omega⟩ (fun bq56 => ?_) (fun bq56 => ?_)
            · refine lv_iload hx hb d_MD_decode_72 (lv_at hl 1 rfl) ?_
              refine lv_iload hx hb d_MD_decode_74 (lv_at hl 0 rfl) ?_
              refine di_add hx hb d_MD_decode_76 ?_
              refine lv_istore (lv' := [(4, .int (iI (k + wd))), (5, .int (iI wd)), (3, .int (iI (b2 gd))), (0, .ref y), (1, .int (iI en)), (2, .int (iI (b2 st)))]) hx hb d_MD_decode_77 hl (by decide) rfl (fun ls hl => ?_)
              refine lv_goto (tgt := 36) hx hb d_MD_decode_79 (by decide) ?_
              exact ih (k + wd) (Mk ++ uts cd) (fu2) (gd) (C2) _ _ _ _ (by omega) (by omega) (by omega) (by omega) (by rw [hspl, hs1, List.append_assoc]) (by rw [hgd, hs2]) (by rw [List.length_append]; omega) (hL_f21) hw (lv_sub hl [0, 2, 3, 4, 5] rfl)
            · exfalso; omega
    exact loop (((Z.length : Int) + 4 - 0).toNat + 1) (0) ([]) (Z.length) (true) (C) _ _ _ _ (by omega) (by omega) (by omega) (by omega) (rfl) (rfl) (by simp) (⟨si, un, bu, ma, bt, so, co, _, _, _, _, _, _, _, hM_f2, hT, hB, hZ, (rM.nil _), hC, hY⟩) hw (lv_sub hl [0, 1, 2, 3, 4] rfl)
  · have he2 := of_decide_eq_true (b2_1 (by omega) : decide (en < 0 ∨ 5 ≤ en) = true)
    refine lv_iconst (v := iI (1)) hx hb d_MD_decode_9 rfl ?_
    refine lv_goto (tgt := 14) hx hb d_MD_decode_10 (by decide) ?_
    refine pf_MD_31_MD X hw hM.1 rfl rfl d_MD_decode_14 (fun H locs hw => ?_)
    obtain ⟨f12, e_f12⟩ : ∃ g9 : dw_M, g9 = dw_up f y (.inr (6, [.int (iI 1), .int (iI ((T.length : Int))), .ref si, .ref un, .int (iI ((B.length : Int))), .ref bu, .int (iI ((M.length : Int))), .ref ma, .int (iI ((Z.length : Int))), .ref bt, .int (iI ((Y.length : Int))), .ref so, .int (iI ((C.length : Int))), .ref co])) := ⟨_, rfl⟩
    rw [← e_f12] at hw
    have hM_f12 : mdS G f12 y 1 (T.length : Int) (B.length : Int) (M.length : Int) (Z.length : Int) (Y.length : Int) (C.length : Int) si un bu ma bt so co gsi gun gbu gma gbt gso gco := by rw [e_f12]; exact hM.obj 1 (T.length : Int) (B.length : Int) (M.length : Int) (Z.length : Int) (Y.length : Int) (C.length : Int)
    refine lv_aload_n hx hb d_MD_decode_17 rfl (lv_at hl 0 rfl) ?_
    refine gf_MD_31_MD X hw hM_f12.1 d_MD_decode_18 ?_
    refine di_if_le (tgt := 26) hx hb d_MD_decode_21 (by decide) ⟨by decide, by decide⟩ (fun q9 => absurd q9 (by decide)) (fun _ => ?_)
    refine lv_iconst (v := iI (0)) hx hb d_MD_decode_24 rfl ?_
    have e9 : sp_decode T Y B Z en st = (1, 0, T, Y, B, Z) := by rw [sp_decode, if_pos (by omega)]
    exact cn_iret hx hb hr hlk hw  (⟨by rw [e9], by rw [e9]; exact mdP_of (M := M) (C := C) ⟨si, un, bu, ma, bt, so, co, _, _, _, _, _, _, _, hM_f12, hT, hB, hZ, hMa, hC, hY⟩⟩) (Nat.le_refl _) (Nat.le_refl _) d_MD_decode_25
