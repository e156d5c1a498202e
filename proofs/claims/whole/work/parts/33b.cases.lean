set_option maxRecDepth 100000 in
set_option maxHeartbeats 4000000 in
theorem lk_character {p : Program} {l : Launch} {e : Env} {R : Room} {s : State} {m : MethodId} {args : Array Value} {below : List Frame} {meth : Method} {c : Code} {H : Heap} {locs : List Loc} {cells slots : Nat} {Q : State → Prop} {ls : Array Slot} {G : ct_G} {A : Nat → Prop} {bs n x y o : Nat} {gs : Nat → Int32} {i : Int} {T Y : List (List Int)} {B Z : List Int} (X : cx G "TextDeskLaw" p s m args c b_LW_law 7) (hlT : l.stackTraces = false) (hz : ct_z G A s) (hX : va_X bs n gs s s.heap) (hbl : bs < s.heap.size) (hn : ¬ A bs) (hi0 : 0 ≤ i) (hi1 : i + 5 ≤ (n : Int)) (hi2 : (n : Int) < 2147483648) (hS : lwS G A s.heap x y o T Y B Z H locs) (hl : lv_has ls 7 [(0, .ref bs), (1, .ref x), (2, .ref y), (3, .ref o), (4, .int (iI i))]) (hR : 100 ≤ R.frames ∧ 3000 ≤ R.locals) (hf : cells + 130 ≤ R.cells ∧ slots + 4500 ≤ R.slots)
    (kk : ∀ (T Y : List (List Int)) (B Z : List Int) (H : Heap) (locs : List Loc) (ls : Array Slot), lwS G A s.heap x y o T Y B Z H locs → lv_has ls 7 [(0, .ref bs), (1, .ref x), (2, .ref y), (3, .ref o), (4, .int (iI i))] → W p l e R s m args below meth c H locs (cells + 130) (slots + 4500) Q (F0 m 1469 ls [])) : W p l e R s m args below meth c H locs cells slots Q (F0 m 775 ls []) := by
  have hx := X.1
  have hb := X.2.1
  obtain ⟨fx, fy, g, th, hwx, hwy, dj, ho, hI, hm⟩ := hS
  obtain ⟨M, C, hL⟩ := id hm
  obtain ⟨si, un, bu, ma, bt, so, co, gsi, gun, gbu, gma, gbt, gso, gco, hM, -⟩ := id hL
  have hey := hM.1
  obtain ⟨u1, e_u1⟩ : ∃ u : Int, u = (gs (i + 1).toNat).toInt := ⟨_, rfl⟩
  have h_u1 : iR u1 := by rw [e_u1]; exact ⟨Int32.le_toInt _, Int32.toInt_lt _⟩
  obtain ⟨u2, e_u2⟩ : ∃ u : Int, u = (gs (i + 2).toNat).toInt := ⟨_, rfl⟩
  have h_u2 : iR u2 := by rw [e_u2]; exact ⟨Int32.le_toInt _, Int32.toInt_lt _⟩
  obtain ⟨r, e_r⟩ : ∃ r : Rs, r = sp_character T Y B Z u1 u2 := ⟨_, rfl⟩
  refine lv_aload_n hx hb d_LW_law_775 rfl (lv_at hl 1 rfl) ?_
  refine lv_aload_n hx hb d_LW_law_776 rfl (lv_at hl 0 rfl) ?_
  refine lv_iload hx hb d_LW_law_777 (lv_at hl 4 rfl) ?_
  refine lv_iconst (v := iI (1)) hx hb d_LW_law_779 rfl ?_
  refine di_add hx hb d_LW_law_780 ?_
  refine lw_read hx hb hX hbl hn hwx.2.1 (i := i + 1) (by omega) (by omega) (by omega) e_u1 d_LW_law_781 ?_
  refine lv_aload_n hx hb d_LW_law_782 rfl (lv_at hl 0 rfl) ?_
  refine lv_iload hx hb d_LW_law_783 (lv_at hl 4 rfl) ?_
  refine lv_iconst (v := iI (2)) hx hb d_LW_law_785 rfl ?_
  refine di_add hx hb d_LW_law_786 ?_
  refine lw_read hx hb hX hbl hn hwx.2.1 (i := i + 2) (by omega) (by omega) (by omega) e_u2 d_LW_law_787 ?_
  refine lv_aload_n hx hb d_LW_law_788 rfl (lv_at hl 3 rfl) ?_
  refine cs_LW_133 X hz hwx hl.1 (c_LW_character l hlT G fx _ x o g T Y B Z hI ho u1 u2 h_u1 h_u2) ⟨by omega, by omega⟩ ⟨by omega, by omega⟩ (Nat.le_of_ble_eq_true rfl) d_LW_law_789 (fun E ce q9 f9 H1 locs1 hp => hp.elim) (fun v f9 H locs hp hw1 hsz9 hkp9 hdm9 => ?_)
  rw [← e_r] at hp
  obtain ⟨rfl, hr3, fx1, g1, rfl, ho1, hI1, hout⟩ := hp
  obtain ⟨hwy1, dj3⟩ := hw1.side hwy dj hkp9 hdm9
  have hwx1 := hw1
  refine W.eq (g2 := F0 m 792 ls [.int (iI (r.1))]) rfl ?_
  refine lv_istore (lv' := [(5, .int (iI (r.1))), (0, .ref bs), (1, .ref x), (2, .ref y), (3, .ref o), (4, .int (iI i))]) hx hb d_LW_law_792 hl (by decide) rfl (fun ls hl => ?_)
  refine lv_aload_n hx hb d_LW_law_794 rfl (lv_at hl 3 rfl) ?_
  refine lv_aload_n hx hb d_LW_law_795 rfl (lv_at hl 1 rfl) ?_
  refine lv_iload hx hb d_LW_law_796 (lv_at hl 5 rfl) ?_
  refine lv_iconst (v := iI (1)) hx hb d_LW_law_798 rfl ?_
  refine di_add hx hb d_LW_law_799 ?_
  refine lw_read hx hb hX hbl hn hwx1.2.1 (i := i + 1) (by omega) (by omega) (by omega) e_u1 d_LW_law_800 ?_
  refine lv_aload_n hx hb d_LW_law_801 rfl (lv_at hl 1 rfl) ?_
  refine lv_iload hx hb d_LW_law_802 (lv_at hl 5 rfl) ?_
  refine lv_iconst (v := iI (2)) hx hb d_LW_law_804 rfl ?_
  refine di_add hx hb d_LW_law_805 ?_
  refine lw_read hx hb hX hbl hn hwx1.2.1 (i := i + 2) (by omega) (by omega) (by omega) e_u2 d_LW_law_806 ?_
  refine cs_LW_135 X hz hwy1 hl.1 hey (c_MD_character l G fy _ y th T Y B Z M C u1 u2 h_u1 h_u2 hL) ⟨by omega, by omega⟩ ⟨by omega, by omega⟩ (Nat.le_of_ble_eq_true rfl) d_LW_law_807 (fun v fy1 H locs hp hw2 hsz9 hkp9 hdm9 => ?_)
  rw [← e_r] at hp
  obtain ⟨rfl, hm1⟩ := hp
  obtain ⟨hwx2, dj4⟩ := hw2.side hwx1 (dj_sw dj3) hkp9 hdm9
  obtain ⟨M1, C1, hL1⟩ := id hm1
  obtain ⟨si1, un1, bu1, ma1, bt1, so1, co1, gsi1, gun1, gbu1, gma1, gbt1, gso1, gco1, hM1, -⟩ := id hL1
  refine W.eq (g2 := F0 m 810 ls [.int (iI (r.2.1))]) rfl ?_
  refine lv_istore (lv' := [(6, .int (iI (r.2.1))), (5, .int (iI (r.1))), (0, .ref bs), (1, .ref x), (2, .ref y), (3, .ref o), (4, .int (iI i))]) hx hb d_LW_law_810 hl (by decide) rfl (fun ls hl => ?_)
  refine lv_aload_n hx hb d_LW_law_812 rfl (lv_at hl 4 rfl) ?_
  refine cs_LW_95 X hz hw2 hl.1 hM1.1 (c_MD_thrown l G fy1 _ y _ _ _ _ _ M1 C1 hL1) ⟨by omega, by omega⟩ ⟨by omega, by omega⟩ (Nat.le_of_ble_eq_true rfl) d_LW_law_813 (fun v fy2 H locs hp hw3 hsz9 hkp9 hdm9 => ?_)
  obtain ⟨hwx3, dj5⟩ := hw3.side hwx2 dj4 hkp9 hdm9
  obtain ⟨rfl, hfe⟩ := hp
  rw [hfe] at hw3 dj5
  refine W.eq (g2 := F0 m 816 ls [.int (iI (r.1))]) rfl ?_
  refine lv_iload hx hb d_LW_law_816 (lv_at hl 1 rfl) ?_
  refine lv_icmp_eq (tgt := 823) hx hb d_LW_law_818 (by decide) (fun _ => ?_) (fun q9 => absurd rfl q9)
  refine lv_iload hx hb d_LW_law_823 (lv_at hl 1 rfl) ?_
  refine di_if_ne (tgt := 840) hx hb d_LW_law_825 (by decide) ⟨by omega, by omega⟩ (fun hr0 => ?_) (fun hr0 => ?_)
  · refine lv_goto (tgt := 1469) hx hb d_LW_law_840 (by decide) ?_
    refine W.widen (k := cells + 130) (n := slots + 4500) (by omega) (by omega) ?_
    exact kk _ _ _ _ _ _ _ ⟨fx1, fy1, g1, _, hwx3, hw3, dj_sw dj5, ho1, hI1, hm1⟩ (lv_sub hl [2, 3, 4, 5, 6] rfl)
  · refine lv_aload_n hx hb d_LW_law_828 rfl (lv_at hl 5 rfl) ?_
    refine lv_iconst (v := iI (0)) hx hb d_LW_law_829 rfl ?_
    refine dw_lald hx hb X.K hwx3 4 (dw_up_self _ _ _) rfl (i := 0) (by decide) (by decide) (by decide) (hout hr0) d_LW_law_830 ?_
    refine lv_iload hx hb d_LW_law_831 (lv_at hl 0 rfl) ?_
    refine lv_i2l hx hb d_LW_law_833 rfl ?_
    refine lv_lcmpE hx hb d_LW_law_834 ?_
    refine di_if_eq (tgt := 840) hx hb d_LW_law_835 (by decide) ⟨by decide, by decide⟩ (fun _ => ?_) (fun q9 => absurd rfl q9)
    refine lv_goto (tgt := 1469) hx hb d_LW_law_840 (by decide) ?_
    refine W.widen (k := cells + 130) (n := slots + 4500) (by omega) (by omega) ?_
    exact kk _ _ _ _ _ _ _ ⟨fx1, fy1, g1, _, hwx3, hw3, dj_sw dj5, ho1, hI1, hm1⟩ (lv_sub hl [2, 3, 4, 5, 6] rfl)
set_option maxRecDepth 100000 in
set_option maxHeartbeats 4000000 in
theorem lk_narrow {p : Program} {l : Launch} {e : Env} {R : Room} {s : State} {m : MethodId} {args : Array Value} {below : List Frame} {meth : Method} {c : Code} {H : Heap} {locs : List Loc} {cells slots : Nat} {Q : State → Prop} {ls : Array Slot} {G : ct_G} {A : Nat → Prop} {bs n x y o : Nat} {gs : Nat → Int32} {i : Int} {T Y : List (List Int)} {B Z : List Int} (X : cx G "TextDeskLaw" p s m args c b_LW_law 7) (hlT : l.stackTraces = false) (hz : ct_z G A s) (hX : va_X bs n gs s s.heap) (hbl : bs < s.heap.size) (hn : ¬ A bs) (hi0 : 0 ≤ i) (hi1 : i + 5 ≤ (n : Int)) (hi2 : (n : Int) < 2147483648) (hS : lwS G A s.heap x y o T Y B Z H locs) (hl : lv_has ls 7 [(0, .ref bs), (1, .ref x), (2, .ref y), (3, .ref o), (4, .int (iI i))]) (hR : 100 ≤ R.frames ∧ 3000 ≤ R.locals) (hf : cells + 130 ≤ R.cells ∧ slots + 4500 ≤ R.slots)
    (kk : ∀ (T Y : List (List Int)) (B Z : List Int) (H : Heap) (locs : List Loc) (ls : Array Slot), lwS G A s.heap x y o T Y B Z H locs → lv_has ls 7 [(0, .ref bs), (1, .ref x), (2, .ref y), (3, .ref o), (4, .int (iI i))] → W p l e R s m args below meth c H locs (cells + 130) (slots + 4500) Q (F0 m 1469 ls [])) : W p l e R s m args below meth c H locs cells slots Q (F0 m 843 ls []) := by
  have hx := X.1
  have hb := X.2.1
  obtain ⟨fx, fy, g, th, hwx, hwy, dj, ho, hI, hm⟩ := hS
  obtain ⟨M, C, hL⟩ := id hm
  obtain ⟨si, un, bu, ma, bt, so, co, gsi, gun, gbu, gma, gbt, gso, gco, hM, -⟩ := id hL
  have hey := hM.1
  obtain ⟨u1, e_u1⟩ : ∃ u : Int, u = (gs (i + 1).toNat).toInt := ⟨_, rfl⟩
  have h_u1 : iR u1 := by rw [e_u1]; exact ⟨Int32.le_toInt _, Int32.toInt_lt _⟩
  obtain ⟨r, e_r⟩ : ∃ r : Rs, r = sp_narrow T Y B Z u1 := ⟨_, rfl⟩
  refine lv_aload_n hx hb d_LW_law_843 rfl (lv_at hl 1 rfl) ?_
  refine lv_aload_n hx hb d_LW_law_844 rfl (lv_at hl 0 rfl) ?_
  refine lv_iload hx hb d_LW_law_845 (lv_at hl 4 rfl) ?_
  refine lv_iconst (v := iI (1)) hx hb d_LW_law_847 rfl ?_
  refine di_add hx hb d_LW_law_848 ?_
  refine lw_read hx hb hX hbl hn hwx.2.1 (i := i + 1) (by omega) (by omega) (by omega) e_u1 d_LW_law_849 ?_
  refine lv_aload_n hx hb d_LW_law_850 rfl (lv_at hl 3 rfl) ?_
  refine cs_LW_136 X hz hwx hl.1 (c_LW_narrow l hlT G fx _ x o g T Y B Z hI ho u1 h_u1) ⟨by omega, by omega⟩ ⟨by omega, by omega⟩ (Nat.le_of_ble_eq_true rfl) d_LW_law_851 (fun E ce q9 f9 H1 locs1 hp => hp.elim) (fun v f9 H locs hp hw1 hsz9 hkp9 hdm9 => ?_)
  rw [← e_r] at hp
  obtain ⟨rfl, hr3, fx1, g1, rfl, ho1, hI1, hout⟩ := hp
  obtain ⟨hwy1, dj3⟩ := hw1.side hwy dj hkp9 hdm9
  have hwx1 := hw1
  refine W.eq (g2 := F0 m 854 ls [.int (iI (r.1))]) rfl ?_
  refine lv_istore (lv' := [(5, .int (iI (r.1))), (0, .ref bs), (1, .ref x), (2, .ref y), (3, .ref o), (4, .int (iI i))]) hx hb d_LW_law_854 hl (by decide) rfl (fun ls hl => ?_)
  refine lv_aload_n hx hb d_LW_law_856 rfl (lv_at hl 3 rfl) ?_
  refine lv_aload_n hx hb d_LW_law_857 rfl (lv_at hl 1 rfl) ?_
  refine lv_iload hx hb d_LW_law_858 (lv_at hl 5 rfl) ?_
  refine lv_iconst (v := iI (1)) hx hb d_LW_law_860 rfl ?_
  refine di_add hx hb d_LW_law_861 ?_
  refine lw_read hx hb hX hbl hn hwx1.2.1 (i := i + 1) (by omega) (by omega) (by omega) e_u1 d_LW_law_862 ?_
  refine cs_LW_138 X hz hwy1 hl.1 hey (c_MD_narrow l G fy _ y th T Y B Z M C u1 h_u1 hL) ⟨by omega, by omega⟩ ⟨by omega, by omega⟩ (Nat.le_of_ble_eq_true rfl) d_LW_law_863 (fun v fy1 H locs hp hw2 hsz9 hkp9 hdm9 => ?_)
  rw [← e_r] at hp
  obtain ⟨rfl, hm1⟩ := hp
  obtain ⟨hwx2, dj4⟩ := hw2.side hwx1 (dj_sw dj3) hkp9 hdm9
  obtain ⟨M1, C1, hL1⟩ := id hm1
  obtain ⟨si1, un1, bu1, ma1, bt1, so1, co1, gsi1, gun1, gbu1, gma1, gbt1, gso1, gco1, hM1, -⟩ := id hL1
  refine W.eq (g2 := F0 m 866 ls [.int (iI (r.2.1))]) rfl ?_
  refine lv_istore (lv' := [(6, .int (iI (r.2.1))), (5, .int (iI (r.1))), (0, .ref bs), (1, .ref x), (2, .ref y), (3, .ref o), (4, .int (iI i))]) hx hb d_LW_law_866 hl (by decide) rfl (fun ls hl => ?_)
  refine lv_aload_n hx hb d_LW_law_868 rfl (lv_at hl 4 rfl) ?_
  refine cs_LW_95 X hz hw2 hl.1 hM1.1 (c_MD_thrown l G fy1 _ y _ _ _ _ _ M1 C1 hL1) ⟨by omega, by omega⟩ ⟨by omega, by omega⟩ (Nat.le_of_ble_eq_true rfl) d_LW_law_869 (fun v fy2 H locs hp hw3 hsz9 hkp9 hdm9 => ?_)
  obtain ⟨hwx3, dj5⟩ := hw3.side hwx2 dj4 hkp9 hdm9
  obtain ⟨rfl, hfe⟩ := hp
  rw [hfe] at hw3 dj5
  refine W.eq (g2 := F0 m 872 ls [.int (iI (r.1))]) rfl ?_
  refine lv_iload hx hb d_LW_law_872 (lv_at hl 1 rfl) ?_
  refine lv_icmp_eq (tgt := 879) hx hb d_LW_law_874 (by decide) (fun _ => ?_) (fun q9 => absurd rfl q9)
  refine lv_iload hx hb d_LW_law_879 (lv_at hl 1 rfl) ?_
  refine di_if_ne (tgt := 903) hx hb d_LW_law_881 (by decide) ⟨by omega, by omega⟩ (fun hr0 => ?_) (fun hr0 => ?_)
  · refine lv_goto (tgt := 1469) hx hb d_LW_law_903 (by decide) ?_
    refine W.widen (k := cells + 130) (n := slots + 4500) (by omega) (by omega) ?_
    exact kk _ _ _ _ _ _ _ ⟨fx1, fy1, g1, _, hwx3, hw3, dj_sw dj5, ho1, hI1, hm1⟩ (lv_sub hl [2, 3, 4, 5, 6] rfl)
  · refine lv_aload_n hx hb d_LW_law_884 rfl (lv_at hl 5 rfl) ?_
    refine lv_iconst (v := iI (0)) hx hb d_LW_law_885 rfl ?_
    refine dw_lald hx hb X.K hwx3 4 (dw_up_self _ _ _) rfl (i := 0) (by decide) (by decide) (by decide) (hout hr0) d_LW_law_886 ?_
    refine lv_iload hx hb d_LW_law_887 (lv_at hl 0 rfl) ?_
    have r01 : r.2.1 = 0 ∨ r.2.1 = 1 := by rw [e_r]; exact sp_narrow_01 T Y B Z u1
    refine di_if_eq (tgt := 896) hx hb d_LW_law_889 (by decide) ⟨by omega, by omega⟩ (fun q9 => ?_) (fun q9 => ?_)
    · have e_v : (iI r.2.1).toInt64 = 0 := by rw [show r.2.1 = 0 by omega]; rfl
      rw [e_v]
      refine lv_lconst (v := 0) hx hb d_LW_law_896 rfl ?_
      refine lv_lcmpE hx hb d_LW_law_897 ?_
      refine di_if_eq (tgt := 903) hx hb d_LW_law_898 (by decide) ⟨by decide, by decide⟩ (fun _ => ?_) (fun q9 => absurd rfl q9)
      refine lv_goto (tgt := 1469) hx hb d_LW_law_903 (by decide) ?_
      refine W.widen (k := cells + 130) (n := slots + 4500) (by omega) (by omega) ?_
      exact kk _ _ _ _ _ _ _ ⟨fx1, fy1, g1, _, hwx3, hw3, dj_sw dj5, ho1, hI1, hm1⟩ (lv_sub hl [2, 3, 4, 5, 6] rfl)
    · have e_v : (iI r.2.1).toInt64 = 1 := by rw [show r.2.1 = 1 by omega]; rfl
      rw [e_v]
      refine lv_lconst (v := 1) hx hb d_LW_law_892 rfl ?_
      refine lv_goto (tgt := 897) hx hb d_LW_law_893 (by decide) ?_
      refine lv_lcmpE hx hb d_LW_law_897 ?_
      refine di_if_eq (tgt := 903) hx hb d_LW_law_898 (by decide) ⟨by decide, by decide⟩ (fun _ => ?_) (fun q9 => absurd rfl q9)
      refine lv_goto (tgt := 1469) hx hb d_LW_law_903 (by decide) ?_
      refine W.widen (k := cells + 130) (n := slots + 4500) (by omega) (by omega) ?_
      exact kk _ _ _ _ _ _ _ ⟨fx1, fy1, g1, _, hwx3, hw3, dj_sw dj5, ho1, hI1, hm1⟩ (lv_sub hl [2, 3, 4, 5, 6] rfl)
set_option maxRecDepth 100000 in
set_option maxHeartbeats 4000000 in
theorem lk_hash {p : Program} {l : Launch} {e : Env} {R : Room} {s : State} {m : MethodId} {args : Array Value} {below : List Frame} {meth : Method} {c : Code} {H : Heap} {locs : List Loc} {cells slots : Nat} {Q : State → Prop} {ls : Array Slot} {G : ct_G} {A : Nat → Prop} {bs n x y o : Nat} {gs : Nat → Int32} {i : Int} {T Y : List (List Int)} {B Z : List Int} (X : cx G "TextDeskLaw" p s m args c b_LW_law 7) (hlT : l.stackTraces = false) (hz : ct_z G A s) (hX : va_X bs n gs s s.heap) (hbl : bs < s.heap.size) (hn : ¬ A bs) (hi0 : 0 ≤ i) (hi1 : i + 5 ≤ (n : Int)) (hi2 : (n : Int) < 2147483648) (hS : lwS G A s.heap x y o T Y B Z H locs) (hl : lv_has ls 7 [(0, .ref bs), (1, .ref x), (2, .ref y), (3, .ref o), (4, .int (iI i))]) (hR : 100 ≤ R.frames ∧ 3000 ≤ R.locals) (hf : cells + 130 ≤ R.cells ∧ slots + 4500 ≤ R.slots)
    (kk : ∀ (T Y : List (List Int)) (B Z : List Int) (H : Heap) (locs : List Loc) (ls : Array Slot), lwS G A s.heap x y o T Y B Z H locs → lv_has ls 7 [(0, .ref bs), (1, .ref x), (2, .ref y), (3, .ref o), (4, .int (iI i))] → W p l e R s m args below meth c H locs (cells + 130) (slots + 4500) Q (F0 m 1469 ls [])) : W p l e R s m args below meth c H locs cells slots Q (F0 m 906 ls []) := by
  have hx := X.1
  have hb := X.2.1
  obtain ⟨fx, fy, g, th, hwx, hwy, dj, ho, hI, hm⟩ := hS
  obtain ⟨M, C, hL⟩ := id hm
  obtain ⟨si, un, bu, ma, bt, so, co, gsi, gun, gbu, gma, gbt, gso, gco, hM, -⟩ := id hL
  have hey := hM.1
  obtain ⟨u1, e_u1⟩ : ∃ u : Int, u = (gs (i + 1).toNat).toInt := ⟨_, rfl⟩
  have h_u1 : iR u1 := by rw [e_u1]; exact ⟨Int32.le_toInt _, Int32.toInt_lt _⟩
  obtain ⟨r, e_r⟩ : ∃ r : Rs, r = sp_hash T Y B Z u1 := ⟨_, rfl⟩
  refine lv_aload_n hx hb d_LW_law_906 rfl (lv_at hl 1 rfl) ?_
  refine lv_aload_n hx hb d_LW_law_907 rfl (lv_at hl 0 rfl) ?_
  refine lv_iload hx hb d_LW_law_908 (lv_at hl 4 rfl) ?_
  refine lv_iconst (v := iI (1)) hx hb d_LW_law_910 rfl ?_
  refine di_add hx hb d_LW_law_911 ?_
  refine lw_read hx hb hX hbl hn hwx.2.1 (i := i + 1) (by omega) (by omega) (by omega) e_u1 d_LW_law_912 ?_
  refine lv_aload_n hx hb d_LW_law_913 rfl (lv_at hl 3 rfl) ?_
  refine cs_LW_139 X hz hwx hl.1 (c_LW_hash l hlT G fx _ x o g T Y B Z hI ho u1 h_u1) ⟨by omega, by omega⟩ ⟨by omega, by omega⟩ (Nat.le_of_ble_eq_true rfl) d_LW_law_914 (fun E ce q9 f9 H1 locs1 hp => hp.elim) (fun v f9 H locs hp hw1 hsz9 hkp9 hdm9 => ?_)
  rw [← e_r] at hp
  obtain ⟨rfl, hr3, fx1, g1, rfl, ho1, hI1, hout⟩ := hp
  obtain ⟨hwy1, dj3⟩ := hw1.side hwy dj hkp9 hdm9
  have hwx1 := hw1
  refine W.eq (g2 := F0 m 917 ls [.int (iI (r.1))]) rfl ?_
  refine lv_istore (lv' := [(5, .int (iI (r.1))), (0, .ref bs), (1, .ref x), (2, .ref y), (3, .ref o), (4, .int (iI i))]) hx hb d_LW_law_917 hl (by decide) rfl (fun ls hl => ?_)
  refine lv_aload_n hx hb d_LW_law_919 rfl (lv_at hl 3 rfl) ?_
  refine lv_aload_n hx hb d_LW_law_920 rfl (lv_at hl 1 rfl) ?_
  refine lv_iload hx hb d_LW_law_921 (lv_at hl 5 rfl) ?_
  refine lv_iconst (v := iI (1)) hx hb d_LW_law_923 rfl ?_
  refine di_add hx hb d_LW_law_924 ?_
  refine lw_read hx hb hX hbl hn hwx1.2.1 (i := i + 1) (by omega) (by omega) (by omega) e_u1 d_LW_law_925 ?_
  refine cs_LW_141 X hz hwy1 hl.1 hey (c_MD_hash l G fy _ y th T Y B Z M C u1 h_u1 hL) ⟨by omega, by omega⟩ ⟨by omega, by omega⟩ (Nat.le_of_ble_eq_true rfl) d_LW_law_926 (fun v fy1 H locs hp hw2 hsz9 hkp9 hdm9 => ?_)
  rw [← e_r] at hp
  obtain ⟨rfl, hm1⟩ := hp
  obtain ⟨hwx2, dj4⟩ := hw2.side hwx1 (dj_sw dj3) hkp9 hdm9
  obtain ⟨M1, C1, hL1⟩ := id hm1
  obtain ⟨si1, un1, bu1, ma1, bt1, so1, co1, gsi1, gun1, gbu1, gma1, gbt1, gso1, gco1, hM1, -⟩ := id hL1
  refine W.eq (g2 := F0 m 929 ls [.int (iI (r.2.1))]) rfl ?_
  refine lv_istore (lv' := [(6, .int (iI (r.2.1))), (5, .int (iI (r.1))), (0, .ref bs), (1, .ref x), (2, .ref y), (3, .ref o), (4, .int (iI i))]) hx hb d_LW_law_929 hl (by decide) rfl (fun ls hl => ?_)
  refine lv_aload_n hx hb d_LW_law_931 rfl (lv_at hl 4 rfl) ?_
  refine cs_LW_95 X hz hw2 hl.1 hM1.1 (c_MD_thrown l G fy1 _ y _ _ _ _ _ M1 C1 hL1) ⟨by omega, by omega⟩ ⟨by omega, by omega⟩ (Nat.le_of_ble_eq_true rfl) d_LW_law_932 (fun v fy2 H locs hp hw3 hsz9 hkp9 hdm9 => ?_)
  obtain ⟨hwx3, dj5⟩ := hw3.side hwx2 dj4 hkp9 hdm9
  obtain ⟨rfl, hfe⟩ := hp
  rw [hfe] at hw3 dj5
  refine W.eq (g2 := F0 m 935 ls [.int (iI (r.1))]) rfl ?_
  refine lv_iload hx hb d_LW_law_935 (lv_at hl 1 rfl) ?_
  refine lv_icmp_eq (tgt := 942) hx hb d_LW_law_937 (by decide) (fun _ => ?_) (fun q9 => absurd rfl q9)
  refine lv_iload hx hb d_LW_law_942 (lv_at hl 1 rfl) ?_
  refine di_if_ne (tgt := 959) hx hb d_LW_law_944 (by decide) ⟨by omega, by omega⟩ (fun hr0 => ?_) (fun hr0 => ?_)
  · refine lv_goto (tgt := 1469) hx hb d_LW_law_959 (by decide) ?_
    refine W.widen (k := cells + 130) (n := slots + 4500) (by omega) (by omega) ?_
    exact kk _ _ _ _ _ _ _ ⟨fx1, fy1, g1, _, hwx3, hw3, dj_sw dj5, ho1, hI1, hm1⟩ (lv_sub hl [2, 3, 4, 5, 6] rfl)
  · refine lv_aload_n hx hb d_LW_law_947 rfl (lv_at hl 5 rfl) ?_
    refine lv_iconst (v := iI (0)) hx hb d_LW_law_948 rfl ?_
    refine dw_lald hx hb X.K hwx3 4 (dw_up_self _ _ _) rfl (i := 0) (by decide) (by decide) (by decide) (hout hr0) d_LW_law_949 ?_
    refine lv_iload hx hb d_LW_law_950 (lv_at hl 0 rfl) ?_
    refine lv_i2l hx hb d_LW_law_952 rfl ?_
    refine lv_lcmpE hx hb d_LW_law_953 ?_
    refine di_if_eq (tgt := 959) hx hb d_LW_law_954 (by decide) ⟨by decide, by decide⟩ (fun _ => ?_) (fun q9 => absurd rfl q9)
    refine lv_goto (tgt := 1469) hx hb d_LW_law_959 (by decide) ?_
    refine W.widen (k := cells + 130) (n := slots + 4500) (by omega) (by omega) ?_
    exact kk _ _ _ _ _ _ _ ⟨fx1, fy1, g1, _, hwx3, hw3, dj_sw dj5, ho1, hI1, hm1⟩ (lv_sub hl [2, 3, 4, 5, 6] rfl)
set_option maxRecDepth 100000 in
set_option maxHeartbeats 4000000 in
theorem lk_compare {p : Program} {l : Launch} {e : Env} {R : Room} {s : State} {m : MethodId} {args : Array Value} {below : List Frame} {meth : Method} {c : Code} {H : Heap} {locs : List Loc} {cells slots : Nat} {Q : State → Prop} {ls : Array Slot} {G : ct_G} {A : Nat → Prop} {bs n x y o : Nat} {gs : Nat → Int32} {i : Int} {T Y : List (List Int)} {B Z : List Int} (X : cx G "TextDeskLaw" p s m args c b_LW_law 7) (hlT : l.stackTraces = false) (hz : ct_z G A s) (hX : va_X bs n gs s s.heap) (hbl : bs < s.heap.size) (hn : ¬ A bs) (hi0 : 0 ≤ i) (hi1 : i + 5 ≤ (n : Int)) (hi2 : (n : Int) < 2147483648) (hS : lwS G A s.heap x y o T Y B Z H locs) (hl : lv_has ls 7 [(0, .ref bs), (1, .ref x), (2, .ref y), (3, .ref o), (4, .int (iI i))]) (hR : 100 ≤ R.frames ∧ 3000 ≤ R.locals) (hf : cells + 130 ≤ R.cells ∧ slots + 4500 ≤ R.slots)
    (kk : ∀ (T Y : List (List Int)) (B Z : List Int) (H : Heap) (locs : List Loc) (ls : Array Slot), lwS G A s.heap x y o T Y B Z H locs → lv_has ls 7 [(0, .ref bs), (1, .ref x), (2, .ref y), (3, .ref o), (4, .int (iI i))] → W p l e R s m args below meth c H locs (cells + 130) (slots + 4500) Q (F0 m 1469 ls [])) : W p l e R s m args below meth c H locs cells slots Q (F0 m 962 ls []) := by
  have hx := X.1
  have hb := X.2.1
  obtain ⟨fx, fy, g, th, hwx, hwy, dj, ho, hI, hm⟩ := hS
  obtain ⟨M, C, hL⟩ := id hm
  obtain ⟨si, un, bu, ma, bt, so, co, gsi, gun, gbu, gma, gbt, gso, gco, hM, -⟩ := id hL
  have hey := hM.1
  obtain ⟨u1, e_u1⟩ : ∃ u : Int, u = (gs (i + 1).toNat).toInt := ⟨_, rfl⟩
  have h_u1 : iR u1 := by rw [e_u1]; exact ⟨Int32.le_toInt _, Int32.toInt_lt _⟩
  obtain ⟨u2, e_u2⟩ : ∃ u : Int, u = (gs (i + 2).toNat).toInt := ⟨_, rfl⟩
  have h_u2 : iR u2 := by rw [e_u2]; exact ⟨Int32.le_toInt _, Int32.toInt_lt _⟩
  obtain ⟨r, e_r⟩ : ∃ r : Rs, r = sp_compare T Y B Z u1 u2 := ⟨_, rfl⟩
  refine lv_aload_n hx hb d_LW_law_962 rfl (lv_at hl 1 rfl) ?_
  refine lv_aload_n hx hb d_LW_law_963 rfl (lv_at hl 0 rfl) ?_
  refine lv_iload hx hb d_LW_law_964 (lv_at hl 4 rfl) ?_
  refine lv_iconst (v := iI (1)) hx hb d_LW_law_966 rfl ?_
  refine di_add hx hb d_LW_law_967 ?_
  refine lw_read hx hb hX hbl hn hwx.2.1 (i := i + 1) (by omega) (by omega) (by omega) e_u1 d_LW_law_968 ?_
  refine lv_aload_n hx hb d_LW_law_969 rfl (lv_at hl 0 rfl) ?_
  refine lv_iload hx hb d_LW_law_970 (lv_at hl 4 rfl) ?_
  refine lv_iconst (v := iI (2)) hx hb d_LW_law_972 rfl ?_
  refine di_add hx hb d_LW_law_973 ?_
  refine lw_read hx hb hX hbl hn hwx.2.1 (i := i + 2) (by omega) (by omega) (by omega) e_u2 d_LW_law_974 ?_
  refine lv_aload_n hx hb d_LW_law_975 rfl (lv_at hl 3 rfl) ?_
  refine cs_LW_142 X hz hwx hl.1 (c_LW_compare l hlT G fx _ x o g T Y B Z hI ho u1 u2 h_u1 h_u2) ⟨by omega, by omega⟩ ⟨by omega, by omega⟩ (Nat.le_of_ble_eq_true rfl) d_LW_law_976 (fun E ce q9 f9 H1 locs1 hp => hp.elim) (fun v f9 H locs hp hw1 hsz9 hkp9 hdm9 => ?_)
  rw [← e_r] at hp
  obtain ⟨rfl, hr3, fx1, g1, rfl, ho1, hI1, hout⟩ := hp
  obtain ⟨hwy1, dj3⟩ := hw1.side hwy dj hkp9 hdm9
  have hwx1 := hw1
  refine W.eq (g2 := F0 m 979 ls [.int (iI (r.1))]) rfl ?_
  refine lv_istore (lv' := [(5, .int (iI (r.1))), (0, .ref bs), (1, .ref x), (2, .ref y), (3, .ref o), (4, .int (iI i))]) hx hb d_LW_law_979 hl (by decide) rfl (fun ls hl => ?_)
  refine lv_aload_n hx hb d_LW_law_981 rfl (lv_at hl 3 rfl) ?_
  refine lv_aload_n hx hb d_LW_law_982 rfl (lv_at hl 1 rfl) ?_
  refine lv_iload hx hb d_LW_law_983 (lv_at hl 5 rfl) ?_
  refine lv_iconst (v := iI (1)) hx hb d_LW_law_985 rfl ?_
  refine di_add hx hb d_LW_law_986 ?_
  refine lw_read hx hb hX hbl hn hwx1.2.1 (i := i + 1) (by omega) (by omega) (by omega) e_u1 d_LW_law_987 ?_
  refine lv_aload_n hx hb d_LW_law_988 rfl (lv_at hl 1 rfl) ?_
  refine lv_iload hx hb d_LW_law_989 (lv_at hl 5 rfl) ?_
  refine lv_iconst (v := iI (2)) hx hb d_LW_law_991 rfl ?_
  refine di_add hx hb d_LW_law_992 ?_
  refine lw_read hx hb hX hbl hn hwx1.2.1 (i := i + 2) (by omega) (by omega) (by omega) e_u2 d_LW_law_993 ?_
  refine cs_LW_144 X hz hwy1 hl.1 hey (c_MD_compare l G fy _ y th T Y B Z M C u1 u2 h_u1 h_u2 hL) ⟨by omega, by omega⟩ ⟨by omega, by omega⟩ (Nat.le_of_ble_eq_true rfl) d_LW_law_994 (fun v fy1 H locs hp hw2 hsz9 hkp9 hdm9 => ?_)
  rw [← e_r] at hp
  obtain ⟨rfl, hm1⟩ := hp
  obtain ⟨hwx2, dj4⟩ := hw2.side hwx1 (dj_sw dj3) hkp9 hdm9
  obtain ⟨M1, C1, hL1⟩ := id hm1
  obtain ⟨si1, un1, bu1, ma1, bt1, so1, co1, gsi1, gun1, gbu1, gma1, gbt1, gso1, gco1, hM1, -⟩ := id hL1
  refine W.eq (g2 := F0 m 997 ls [.int (iI (r.2.1))]) rfl ?_
  refine lv_istore (lv' := [(6, .int (iI (r.2.1))), (5, .int (iI (r.1))), (0, .ref bs), (1, .ref x), (2, .ref y), (3, .ref o), (4, .int (iI i))]) hx hb d_LW_law_997 hl (by decide) rfl (fun ls hl => ?_)
  refine lv_aload_n hx hb d_LW_law_999 rfl (lv_at hl 4 rfl) ?_
  refine cs_LW_95 X hz hw2 hl.1 hM1.1 (c_MD_thrown l G fy1 _ y _ _ _ _ _ M1 C1 hL1) ⟨by omega, by omega⟩ ⟨by omega, by omega⟩ (Nat.le_of_ble_eq_true rfl) d_LW_law_1000 (fun v fy2 H locs hp hw3 hsz9 hkp9 hdm9 => ?_)
  obtain ⟨hwx3, dj5⟩ := hw3.side hwx2 dj4 hkp9 hdm9
  obtain ⟨rfl, hfe⟩ := hp
  rw [hfe] at hw3 dj5
  refine W.eq (g2 := F0 m 1003 ls [.int (iI (r.1))]) rfl ?_
  refine lv_iload hx hb d_LW_law_1003 (lv_at hl 1 rfl) ?_
  refine lv_icmp_eq (tgt := 1010) hx hb d_LW_law_1005 (by decide) (fun _ => ?_) (fun q9 => absurd rfl q9)
  refine lv_iload hx hb d_LW_law_1010 (lv_at hl 1 rfl) ?_
  refine di_if_ne (tgt := 1027) hx hb d_LW_law_1012 (by decide) ⟨by omega, by omega⟩ (fun hr0 => ?_) (fun hr0 => ?_)
  · refine lv_goto (tgt := 1469) hx hb d_LW_law_1027 (by decide) ?_
    refine W.widen (k := cells + 130) (n := slots + 4500) (by omega) (by omega) ?_
    exact kk _ _ _ _ _ _ _ ⟨fx1, fy1, g1, _, hwx3, hw3, dj_sw dj5, ho1, hI1, hm1⟩ (lv_sub hl [2, 3, 4, 5, 6] rfl)
  · refine lv_aload_n hx hb d_LW_law_1015 rfl (lv_at hl 5 rfl) ?_
    refine lv_iconst (v := iI (0)) hx hb d_LW_law_1016 rfl ?_
    refine dw_lald hx hb X.K hwx3 4 (dw_up_self _ _ _) rfl (i := 0) (by decide) (by decide) (by decide) (hout hr0) d_LW_law_1017 ?_
    refine lv_iload hx hb d_LW_law_1018 (lv_at hl 0 rfl) ?_
    refine lv_i2l hx hb d_LW_law_1020 rfl ?_
    refine lv_lcmpE hx hb d_LW_law_1021 ?_
    refine di_if_eq (tgt := 1027) hx hb d_LW_law_1022 (by decide) ⟨by decide, by decide⟩ (fun _ => ?_) (fun q9 => absurd rfl q9)
    refine lv_goto (tgt := 1469) hx hb d_LW_law_1027 (by decide) ?_
    refine W.widen (k := cells + 130) (n := slots + 4500) (by omega) (by omega) ?_
    exact kk _ _ _ _ _ _ _ ⟨fx1, fy1, g1, _, hwx3, hw3, dj_sw dj5, ho1, hI1, hm1⟩ (lv_sub hl [2, 3, 4, 5, 6] rfl)
set_option maxRecDepth 100000 in
set_option maxHeartbeats 4000000 in
theorem lk_find {p : Program} {l : Launch} {e : Env} {R : Room} {s : State} {m : MethodId} {args : Array Value} {below : List Frame} {meth : Method} {c : Code} {H : Heap} {locs : List Loc} {cells slots : Nat} {Q : State → Prop} {ls : Array Slot} {G : ct_G} {A : Nat → Prop} {bs n x y o : Nat} {gs : Nat → Int32} {i : Int} {T Y : List (List Int)} {B Z : List Int} (X : cx G "TextDeskLaw" p s m args c b_LW_law 7) (hlT : l.stackTraces = false) (hz : ct_z G A s) (hX : va_X bs n gs s s.heap) (hbl : bs < s.heap.size) (hn : ¬ A bs) (hi0 : 0 ≤ i) (hi1 : i + 5 ≤ (n : Int)) (hi2 : (n : Int) < 2147483648) (hS : lwS G A s.heap x y o T Y B Z H locs) (hl : lv_has ls 7 [(0, .ref bs), (1, .ref x), (2, .ref y), (3, .ref o), (4, .int (iI i))]) (hR : 100 ≤ R.frames ∧ 3000 ≤ R.locals) (hf : cells + 130 ≤ R.cells ∧ slots + 4500 ≤ R.slots)
    (kk : ∀ (T Y : List (List Int)) (B Z : List Int) (H : Heap) (locs : List Loc) (ls : Array Slot), lwS G A s.heap x y o T Y B Z H locs → lv_has ls 7 [(0, .ref bs), (1, .ref x), (2, .ref y), (3, .ref o), (4, .int (iI i))] → W p l e R s m args below meth c H locs (cells + 130) (slots + 4500) Q (F0 m 1469 ls [])) : W p l e R s m args below meth c H locs cells slots Q (F0 m 1030 ls []) := by
  have hx := X.1
  have hb := X.2.1
  obtain ⟨fx, fy, g, th, hwx, hwy, dj, ho, hI, hm⟩ := hS
  obtain ⟨M, C, hL⟩ := id hm
  obtain ⟨si, un, bu, ma, bt, so, co, gsi, gun, gbu, gma, gbt, gso, gco, hM, -⟩ := id hL
  have hey := hM.1
  obtain ⟨u1, e_u1⟩ : ∃ u : Int, u = (gs (i + 1).toNat).toInt := ⟨_, rfl⟩
  have h_u1 : iR u1 := by rw [e_u1]; exact ⟨Int32.le_toInt _, Int32.toInt_lt _⟩
  obtain ⟨u2, e_u2⟩ : ∃ u : Int, u = (gs (i + 2).toNat).toInt := ⟨_, rfl⟩
  have h_u2 : iR u2 := by rw [e_u2]; exact ⟨Int32.le_toInt _, Int32.toInt_lt _⟩
  obtain ⟨u3, e_u3⟩ : ∃ u : Int, u = (gs (i + 3).toNat).toInt := ⟨_, rfl⟩
  have h_u3 : iR u3 := by rw [e_u3]; exact ⟨Int32.le_toInt _, Int32.toInt_lt _⟩
  obtain ⟨u4, e_u4⟩ : ∃ u : Int, u = (gs (i + 4).toNat).toInt := ⟨_, rfl⟩
  have h_u4 : iR u4 := by rw [e_u4]; exact ⟨Int32.le_toInt _, Int32.toInt_lt _⟩
  by_cases hq : u4 = 0
  · obtain ⟨r, e_r⟩ : ∃ r : Rs, r = sp_find T Y B Z u1 u2 u3 false := ⟨_, rfl⟩
    refine lv_aload_n hx hb d_LW_law_1030 rfl (lv_at hl 1 rfl) ?_
    refine lv_aload_n hx hb d_LW_law_1031 rfl (lv_at hl 0 rfl) ?_
    refine lv_iload hx hb d_LW_law_1032 (lv_at hl 4 rfl) ?_
    refine lv_iconst (v := iI (1)) hx hb d_LW_law_1034 rfl ?_
    refine di_add hx hb d_LW_law_1035 ?_
    refine lw_read hx hb hX hbl hn hwx.2.1 (i := i + 1) (by omega) (by omega) (by omega) e_u1 d_LW_law_1036 ?_
    refine lv_aload_n hx hb d_LW_law_1037 rfl (lv_at hl 0 rfl) ?_
    refine lv_iload hx hb d_LW_law_1038 (lv_at hl 4 rfl) ?_
    refine lv_iconst (v := iI (2)) hx hb d_LW_law_1040 rfl ?_
    refine di_add hx hb d_LW_law_1041 ?_
    refine lw_read hx hb hX hbl hn hwx.2.1 (i := i + 2) (by omega) (by omega) (by omega) e_u2 d_LW_law_1042 ?_
    refine lv_aload_n hx hb d_LW_law_1043 rfl (lv_at hl 0 rfl) ?_
    refine lv_iload hx hb d_LW_law_1044 (lv_at hl 4 rfl) ?_
    refine lv_iconst (v := iI (3)) hx hb d_LW_law_1046 rfl ?_
    refine di_add hx hb d_LW_law_1047 ?_
    refine lw_read hx hb hX hbl hn hwx.2.1 (i := i + 3) (by omega) (by omega) (by omega) e_u3 d_LW_law_1048 ?_
    refine lv_aload_n hx hb d_LW_law_1049 rfl (lv_at hl 0 rfl) ?_
    refine lv_iload hx hb d_LW_law_1050 (lv_at hl 4 rfl) ?_
    refine lv_iconst (v := iI (4)) hx hb d_LW_law_1052 rfl ?_
    refine di_add hx hb d_LW_law_1053 ?_
    refine lw_read hx hb hX hbl hn hwx.2.1 (i := i + 4) (by omega) (by omega) (by omega) e_u4 d_LW_law_1054 ?_
    refine di_if_eq (tgt := 1062) hx hb d_LW_law_1055 (by decide) h_u4 (fun _ => ?_) (fun q9 => absurd hq q9)
    refine lv_iconst (v := iI (0)) hx hb d_LW_law_1062 rfl ?_
    refine W.eq (g2 := F0 m 1063 ls [.int (iI (b2 false)), .int (iI u3), .int (iI u2), .int (iI u1), .ref x]) rfl ?_
    refine lv_aload_n hx hb d_LW_law_1063 rfl (lv_at hl 3 rfl) ?_
    refine cs_LW_145 X hz hwx hl.1 (c_LW_find l hlT G fx _ x o g T Y B Z hI ho u1 u2 u3 false h_u1 h_u2 h_u3) ⟨by omega, by omega⟩ ⟨by omega, by omega⟩ (Nat.le_of_ble_eq_true rfl) d_LW_law_1064 (fun E ce q9 f9 H1 locs1 hp => hp.elim) (fun v f9 H locs hp hw1 hsz9 hkp9 hdm9 => ?_)
    rw [← e_r] at hp
    obtain ⟨rfl, hr3, fx1, g1, rfl, ho1, hI1, hout⟩ := hp
    obtain ⟨hwy1, dj3⟩ := hw1.side hwy dj hkp9 hdm9
    have hwx1 := hw1
    refine W.eq (g2 := F0 m 1067 ls [.int (iI (r.1))]) rfl ?_
    refine lv_istore (lv' := [(5, .int (iI (r.1))), (0, .ref bs), (1, .ref x), (2, .ref y), (3, .ref o), (4, .int (iI i))]) hx hb d_LW_law_1067 hl (by decide) rfl (fun ls hl => ?_)
    refine lv_aload_n hx hb d_LW_law_1069 rfl (lv_at hl 3 rfl) ?_
    refine lv_aload_n hx hb d_LW_law_1070 rfl (lv_at hl 1 rfl) ?_
    refine lv_iload hx hb d_LW_law_1071 (lv_at hl 5 rfl) ?_
    refine lv_iconst (v := iI (1)) hx hb d_LW_law_1073 rfl ?_
    refine di_add hx hb d_LW_law_1074 ?_
    refine lw_read hx hb hX hbl hn hwx1.2.1 (i := i + 1) (by omega) (by omega) (by omega) e_u1 d_LW_law_1075 ?_
    refine lv_aload_n hx hb d_LW_law_1076 rfl (lv_at hl 1 rfl) ?_
    refine lv_iload hx hb d_LW_law_1077 (lv_at hl 5 rfl) ?_
    refine lv_iconst (v := iI (2)) hx hb d_LW_law_1079 rfl ?_
    refine di_add hx hb d_LW_law_1080 ?_
    refine lw_read hx hb hX hbl hn hwx1.2.1 (i := i + 2) (by omega) (by omega) (by omega) e_u2 d_LW_law_1081 ?_
    refine lv_aload_n hx hb d_LW_law_1082 rfl (lv_at hl 1 rfl) ?_
    refine lv_iload hx hb d_LW_law_1083 (lv_at hl 5 rfl) ?_
    refine lv_iconst (v := iI (3)) hx hb d_LW_law_1085 rfl ?_
    refine di_add hx hb d_LW_law_1086 ?_
    refine lw_read hx hb hX hbl hn hwx1.2.1 (i := i + 3) (by omega) (by omega) (by omega) e_u3 d_LW_law_1087 ?_
    refine lv_aload_n hx hb d_LW_law_1088 rfl (lv_at hl 1 rfl) ?_
    refine lv_iload hx hb d_LW_law_1089 (lv_at hl 5 rfl) ?_
    refine lv_iconst (v := iI (4)) hx hb d_LW_law_1091 rfl ?_
    refine di_add hx hb d_LW_law_1092 ?_
    refine lw_read hx hb hX hbl hn hwx1.2.1 (i := i + 4) (by omega) (by omega) (by omega) e_u4 d_LW_law_1093 ?_
    refine di_if_eq (tgt := 1101) hx hb d_LW_law_1094 (by decide) h_u4 (fun _ => ?_) (fun q9 => absurd hq q9)
    refine lv_iconst (v := iI (0)) hx hb d_LW_law_1101 rfl ?_
    refine W.eq (g2 := F0 m 1102 ls [.int (iI (b2 false)), .int (iI u3), .int (iI u2), .int (iI u1), .ref y]) rfl ?_
    refine cs_LW_148 X hz hwy1 hl.1 hey (c_MD_find l G fy _ y th T Y B Z M C u1 u2 u3 h_u1 h_u2 h_u3 false hL) ⟨by omega, by omega⟩ ⟨by omega, by omega⟩ (Nat.le_of_ble_eq_true rfl) d_LW_law_1102 (fun v fy1 H locs hp hw2 hsz9 hkp9 hdm9 => ?_)
    rw [← e_r] at hp
    obtain ⟨rfl, hm1⟩ := hp
    obtain ⟨hwx2, dj4⟩ := hw2.side hwx1 (dj_sw dj3) hkp9 hdm9
    obtain ⟨M1, C1, hL1⟩ := id hm1
    obtain ⟨si1, un1, bu1, ma1, bt1, so1, co1, gsi1, gun1, gbu1, gma1, gbt1, gso1, gco1, hM1, -⟩ := id hL1
    refine W.eq (g2 := F0 m 1105 ls [.int (iI (r.2.1))]) rfl ?_
    refine lv_istore (lv' := [(6, .int (iI (r.2.1))), (5, .int (iI (r.1))), (0, .ref bs), (1, .ref x), (2, .ref y), (3, .ref o), (4, .int (iI i))]) hx hb d_LW_law_1105 hl (by decide) rfl (fun ls hl => ?_)
    refine lv_aload_n hx hb d_LW_law_1107 rfl (lv_at hl 4 rfl) ?_
    refine cs_LW_95 X hz hw2 hl.1 hM1.1 (c_MD_thrown l G fy1 _ y _ _ _ _ _ M1 C1 hL1) ⟨by omega, by omega⟩ ⟨by omega, by omega⟩ (Nat.le_of_ble_eq_true rfl) d_LW_law_1108 (fun v fy2 H locs hp hw3 hsz9 hkp9 hdm9 => ?_)
    obtain ⟨hwx3, dj5⟩ := hw3.side hwx2 dj4 hkp9 hdm9
    obtain ⟨rfl, hfe⟩ := hp
    rw [hfe] at hw3 dj5
    refine W.eq (g2 := F0 m 1111 ls [.int (iI (r.1))]) rfl ?_
    refine lv_iload hx hb d_LW_law_1111 (lv_at hl 1 rfl) ?_
    refine lv_icmp_eq (tgt := 1118) hx hb d_LW_law_1113 (by decide) (fun _ => ?_) (fun q9 => absurd rfl q9)
    refine lv_iload hx hb d_LW_law_1118 (lv_at hl 1 rfl) ?_
    refine di_if_ne (tgt := 1135) hx hb d_LW_law_1120 (by decide) ⟨by omega, by omega⟩ (fun hr0 => ?_) (fun hr0 => ?_)
    · refine lv_goto (tgt := 1469) hx hb d_LW_law_1135 (by decide) ?_
      refine W.widen (k := cells + 130) (n := slots + 4500) (by omega) (by omega) ?_
      exact kk _ _ _ _ _ _ _ ⟨fx1, fy1, g1, _, hwx3, hw3, dj_sw dj5, ho1, hI1, hm1⟩ (lv_sub hl [2, 3, 4, 5, 6] rfl)
    · refine lv_aload_n hx hb d_LW_law_1123 rfl (lv_at hl 5 rfl) ?_
      refine lv_iconst (v := iI (0)) hx hb d_LW_law_1124 rfl ?_
      refine dw_lald hx hb X.K hwx3 4 (dw_up_self _ _ _) rfl (i := 0) (by decide) (by decide) (by decide) (hout hr0) d_LW_law_1125 ?_
      refine lv_iload hx hb d_LW_law_1126 (lv_at hl 0 rfl) ?_
      refine lv_i2l hx hb d_LW_law_1128 rfl ?_
      refine lv_lcmpE hx hb d_LW_law_1129 ?_
      refine di_if_eq (tgt := 1135) hx hb d_LW_law_1130 (by decide) ⟨by decide, by decide⟩ (fun _ => ?_) (fun q9 => absurd rfl q9)
      refine lv_goto (tgt := 1469) hx hb d_LW_law_1135 (by decide) ?_
      refine W.widen (k := cells + 130) (n := slots + 4500) (by omega) (by omega) ?_
      exact kk _ _ _ _ _ _ _ ⟨fx1, fy1, g1, _, hwx3, hw3, dj_sw dj5, ho1, hI1, hm1⟩ (lv_sub hl [2, 3, 4, 5, 6] rfl)
  · obtain ⟨r, e_r⟩ : ∃ r : Rs, r = sp_find T Y B Z u1 u2 u3 true := ⟨_, rfl⟩
    refine lv_aload_n hx hb d_LW_law_1030 rfl (lv_at hl 1 rfl) ?_
    refine lv_aload_n hx hb d_LW_law_1031 rfl (lv_at hl 0 rfl) ?_
    refine lv_iload hx hb d_LW_law_1032 (lv_at hl 4 rfl) ?_
    refine lv_iconst (v := iI (1)) hx hb d_LW_law_1034 rfl ?_
    refine di_add hx hb d_LW_law_1035 ?_
    refine lw_read hx hb hX hbl hn hwx.2.1 (i := i + 1) (by omega) (by omega) (by omega) e_u1 d_LW_law_1036 ?_
    refine lv_aload_n hx hb d_LW_law_1037 rfl (lv_at hl 0 rfl) ?_
    refine lv_iload hx hb d_LW_law_1038 (lv_at hl 4 rfl) ?_
    refine lv_iconst (v := iI (2)) hx hb d_LW_law_1040 rfl ?_
    refine di_add hx hb d_LW_law_1041 ?_
    refine lw_read hx hb hX hbl hn hwx.2.1 (i := i + 2) (by omega) (by omega) (by omega) e_u2 d_LW_law_1042 ?_
    refine lv_aload_n hx hb d_LW_law_1043 rfl (lv_at hl 0 rfl) ?_
    refine lv_iload hx hb d_LW_law_1044 (lv_at hl 4 rfl) ?_
    refine lv_iconst (v := iI (3)) hx hb d_LW_law_1046 rfl ?_
    refine di_add hx hb d_LW_law_1047 ?_
    refine lw_read hx hb hX hbl hn hwx.2.1 (i := i + 3) (by omega) (by omega) (by omega) e_u3 d_LW_law_1048 ?_
    refine lv_aload_n hx hb d_LW_law_1049 rfl (lv_at hl 0 rfl) ?_
    refine lv_iload hx hb d_LW_law_1050 (lv_at hl 4 rfl) ?_
    refine lv_iconst (v := iI (4)) hx hb d_LW_law_1052 rfl ?_
    refine di_add hx hb d_LW_law_1053 ?_
    refine lw_read hx hb hX hbl hn hwx.2.1 (i := i + 4) (by omega) (by omega) (by omega) e_u4 d_LW_law_1054 ?_
    refine di_if_eq (tgt := 1062) hx hb d_LW_law_1055 (by decide) h_u4 (fun q9 => absurd q9 hq) (fun _ => ?_)
    refine lv_iconst (v := iI (1)) hx hb d_LW_law_1058 rfl ?_
    refine W.eq (g2 := F0 m 1059 ls [.int (iI (b2 true)), .int (iI u3), .int (iI u2), .int (iI u1), .ref x]) rfl ?_
    refine lv_goto (tgt := 1063) hx hb d_LW_law_1059 (by decide) ?_
    refine lv_aload_n hx hb d_LW_law_1063 rfl (lv_at hl 3 rfl) ?_
    refine cs_LW_145 X hz hwx hl.1 (c_LW_find l hlT G fx _ x o g T Y B Z hI ho u1 u2 u3 true h_u1 h_u2 h_u3) ⟨by omega, by omega⟩ ⟨by omega, by omega⟩ (Nat.le_of_ble_eq_true rfl) d_LW_law_1064 (fun E ce q9 f9 H1 locs1 hp => hp.elim) (fun v f9 H locs hp hw1 hsz9 hkp9 hdm9 => ?_)
    rw [← e_r] at hp
    obtain ⟨rfl, hr3, fx1, g1, rfl, ho1, hI1, hout⟩ := hp
    obtain ⟨hwy1, dj3⟩ := hw1.side hwy dj hkp9 hdm9
    have hwx1 := hw1
    refine W.eq (g2 := F0 m 1067 ls [.int (iI (r.1))]) rfl ?_
    refine lv_istore (lv' := [(5, .int (iI (r.1))), (0, .ref bs), (1, .ref x), (2, .ref y), (3, .ref o), (4, .int (iI i))]) hx hb d_LW_law_1067 hl (by decide) rfl (fun ls hl => ?_)
    refine lv_aload_n hx hb d_LW_law_1069 rfl (lv_at hl 3 rfl) ?_
    refine lv_aload_n hx hb d_LW_law_1070 rfl (lv_at hl 1 rfl) ?_
    refine lv_iload hx hb d_LW_law_1071 (lv_at hl 5 rfl) ?_
    refine lv_iconst (v := iI (1)) hx hb d_LW_law_1073 rfl ?_
    refine di_add hx hb d_LW_law_1074 ?_
    refine lw_read hx hb hX hbl hn hwx1.2.1 (i := i + 1) (by omega) (by omega) (by omega) e_u1 d_LW_law_1075 ?_
    refine lv_aload_n hx hb d_LW_law_1076 rfl (lv_at hl 1 rfl) ?_
    refine lv_iload hx hb d_LW_law_1077 (lv_at hl 5 rfl) ?_
    refine lv_iconst (v := iI (2)) hx hb d_LW_law_1079 rfl ?_
    refine di_add hx hb d_LW_law_1080 ?_
    refine lw_read hx hb hX hbl hn hwx1.2.1 (i := i + 2) (by omega) (by omega) (by omega) e_u2 d_LW_law_1081 ?_
    refine lv_aload_n hx hb d_LW_law_1082 rfl (lv_at hl 1 rfl) ?_
    refine lv_iload hx hb d_LW_law_1083 (lv_at hl 5 rfl) ?_
    refine lv_iconst (v := iI (3)) hx hb d_LW_law_1085 rfl ?_
    refine di_add hx hb d_LW_law_1086 ?_
    refine lw_read hx hb hX hbl hn hwx1.2.1 (i := i + 3) (by omega) (by omega) (by omega) e_u3 d_LW_law_1087 ?_
    refine lv_aload_n hx hb d_LW_law_1088 rfl (lv_at hl 1 rfl) ?_
    refine lv_iload hx hb d_LW_law_1089 (lv_at hl 5 rfl) ?_
    refine lv_iconst (v := iI (4)) hx hb d_LW_law_1091 rfl ?_
    refine di_add hx hb d_LW_law_1092 ?_
    refine lw_read hx hb hX hbl hn hwx1.2.1 (i := i + 4) (by omega) (by omega) (by omega) e_u4 d_LW_law_1093 ?_
    refine di_if_eq (tgt := 1101) hx hb d_LW_law_1094 (by decide) h_u4 (fun q9 => absurd q9 hq) (fun _ => ?_)
    refine lv_iconst (v := iI (1)) hx hb d_LW_law_1097 rfl ?_
    refine W.eq (g2 := F0 m 1098 ls [.int (iI (b2 true)), .int (iI u3), .int (iI u2), .int (iI u1), .ref y]) rfl ?_
    refine lv_goto (tgt := 1102) hx hb d_LW_law_1098 (by decide) ?_
    refine cs_LW_148 X hz hwy1 hl.1 hey (c_MD_find l G fy _ y th T Y B Z M C u1 u2 u3 h_u1 h_u2 h_u3 true hL) ⟨by omega, by omega⟩ ⟨by omega, by omega⟩ (Nat.le_of_ble_eq_true rfl) d_LW_law_1102 (fun v fy1 H locs hp hw2 hsz9 hkp9 hdm9 => ?_)
    rw [← e_r] at hp
    obtain ⟨rfl, hm1⟩ := hp
    obtain ⟨hwx2, dj4⟩ := hw2.side hwx1 (dj_sw dj3) hkp9 hdm9
    obtain ⟨M1, C1, hL1⟩ := id hm1
    obtain ⟨si1, un1, bu1, ma1, bt1, so1, co1, gsi1, gun1, gbu1, gma1, gbt1, gso1, gco1, hM1, -⟩ := id hL1
    refine W.eq (g2 := F0 m 1105 ls [.int (iI (r.2.1))]) rfl ?_
    refine lv_istore (lv' := [(6, .int (iI (r.2.1))), (5, .int (iI (r.1))), (0, .ref bs), (1, .ref x), (2, .ref y), (3, .ref o), (4, .int (iI i))]) hx hb d_LW_law_1105 hl (by decide) rfl (fun ls hl => ?_)
    refine lv_aload_n hx hb d_LW_law_1107 rfl (lv_at hl 4 rfl) ?_
    refine cs_LW_95 X hz hw2 hl.1 hM1.1 (c_MD_thrown l G fy1 _ y _ _ _ _ _ M1 C1 hL1) ⟨by omega, by omega⟩ ⟨by omega, by omega⟩ (Nat.le_of_ble_eq_true rfl) d_LW_law_1108 (fun v fy2 H locs hp hw3 hsz9 hkp9 hdm9 => ?_)
    obtain ⟨hwx3, dj5⟩ := hw3.side hwx2 dj4 hkp9 hdm9
    obtain ⟨rfl, hfe⟩ := hp
    rw [hfe] at hw3 dj5
    refine W.eq (g2 := F0 m 1111 ls [.int (iI (r.1))]) rfl ?_
    refine lv_iload hx hb d_LW_law_1111 (lv_at hl 1 rfl) ?_
    refine lv_icmp_eq (tgt := 1118) hx hb d_LW_law_1113 (by decide) (fun _ => ?_) (fun q9 => absurd rfl q9)
    refine lv_iload hx hb d_LW_law_1118 (lv_at hl 1 rfl) ?_
    refine di_if_ne (tgt := 1135) hx hb d_LW_law_1120 (by decide) ⟨by omega, by omega⟩ (fun hr0 => ?_) (fun hr0 => ?_)
    · refine lv_goto (tgt := 1469) hx hb d_LW_law_1135 (by decide) ?_
      refine W.widen (k := cells + 130) (n := slots + 4500) (by omega) (by omega) ?_
      exact kk _ _ _ _ _ _ _ ⟨fx1, fy1, g1, _, hwx3, hw3, dj_sw dj5, ho1, hI1, hm1⟩ (lv_sub hl [2, 3, 4, 5, 6] rfl)
    · refine lv_aload_n hx hb d_LW_law_1123 rfl (lv_at hl 5 rfl) ?_
      refine lv_iconst (v := iI (0)) hx hb d_LW_law_1124 rfl ?_
      refine dw_lald hx hb X.K hwx3 4 (dw_up_self _ _ _) rfl (i := 0) (by decide) (by decide) (by decide) (hout hr0) d_LW_law_1125 ?_
      refine lv_iload hx hb d_LW_law_1126 (lv_at hl 0 rfl) ?_
      refine lv_i2l hx hb d_LW_law_1128 rfl ?_
      refine lv_lcmpE hx hb d_LW_law_1129 ?_
      refine di_if_eq (tgt := 1135) hx hb d_LW_law_1130 (by decide) ⟨by decide, by decide⟩ (fun _ => ?_) (fun q9 => absurd rfl q9)
      refine lv_goto (tgt := 1469) hx hb d_LW_law_1135 (by decide) ?_
      refine W.widen (k := cells + 130) (n := slots + 4500) (by omega) (by omega) ?_
      exact kk _ _ _ _ _ _ _ ⟨fx1, fy1, g1, _, hwx3, hw3, dj_sw dj5, ho1, hI1, hm1⟩ (lv_sub hl [2, 3, 4, 5, 6] rfl)
set_option maxRecDepth 100000 in
set_option maxHeartbeats 4000000 in
theorem lk_symbol {p : Program} {l : Launch} {e : Env} {R : Room} {s : State} {m : MethodId} {args : Array Value} {below : List Frame} {meth : Method} {c : Code} {H : Heap} {locs : List Loc} {cells slots : Nat} {Q : State → Prop} {ls : Array Slot} {G : ct_G} {A : Nat → Prop} {bs n x y o : Nat} {gs : Nat → Int32} {i : Int} {T Y : List (List Int)} {B Z : List Int} (X : cx G "TextDeskLaw" p s m args c b_LW_law 7) (hlT : l.stackTraces = false) (hz : ct_z G A s) (hX : va_X bs n gs s s.heap) (hbl : bs < s.heap.size) (hn : ¬ A bs) (hi0 : 0 ≤ i) (hi1 : i + 5 ≤ (n : Int)) (hi2 : (n : Int) < 2147483648) (hS : lwS G A s.heap x y o T Y B Z H locs) (hl : lv_has ls 7 [(0, .ref bs), (1, .ref x), (2, .ref y), (3, .ref o), (4, .int (iI i))]) (hR : 100 ≤ R.frames ∧ 3000 ≤ R.locals) (hf : cells + 130 ≤ R.cells ∧ slots + 4500 ≤ R.slots)
    (kk : ∀ (T Y : List (List Int)) (B Z : List Int) (H : Heap) (locs : List Loc) (ls : Array Slot), lwS G A s.heap x y o T Y B Z H locs → lv_has ls 7 [(0, .ref bs), (1, .ref x), (2, .ref y), (3, .ref o), (4, .int (iI i))] → W p l e R s m args below meth c H locs (cells + 130) (slots + 4500) Q (F0 m 1469 ls [])) : W p l e R s m args below meth c H locs cells slots Q (F0 m 1138 ls []) := by
  have hx := X.1
  have hb := X.2.1
  obtain ⟨fx, fy, g, th, hwx, hwy, dj, ho, hI, hm⟩ := hS
  obtain ⟨M, C, hL⟩ := id hm
  obtain ⟨si, un, bu, ma, bt, so, co, gsi, gun, gbu, gma, gbt, gso, gco, hM, -⟩ := id hL
  have hey := hM.1
  obtain ⟨u1, e_u1⟩ : ∃ u : Int, u = (gs (i + 1).toNat).toInt := ⟨_, rfl⟩
  have h_u1 : iR u1 := by rw [e_u1]; exact ⟨Int32.le_toInt _, Int32.toInt_lt _⟩
  obtain ⟨r, e_r⟩ : ∃ r : Rs, r = sp_symbol T Y B Z u1 := ⟨_, rfl⟩
  refine lv_aload_n hx hb d_LW_law_1138 rfl (lv_at hl 1 rfl) ?_
  refine lv_aload_n hx hb d_LW_law_1139 rfl (lv_at hl 0 rfl) ?_
  refine lv_iload hx hb d_LW_law_1140 (lv_at hl 4 rfl) ?_
  refine lv_iconst (v := iI (1)) hx hb d_LW_law_1142 rfl ?_
  refine di_add hx hb d_LW_law_1143 ?_
  refine lw_read hx hb hX hbl hn hwx.2.1 (i := i + 1) (by omega) (by omega) (by omega) e_u1 d_LW_law_1144 ?_
  refine lv_aload_n hx hb d_LW_law_1145 rfl (lv_at hl 3 rfl) ?_
  refine cs_LW_149 X hz hwx hl.1 (c_LW_symbol l hlT G fx _ x o g T Y B Z hI ho u1 h_u1) ⟨by omega, by omega⟩ ⟨by omega, by omega⟩ (Nat.le_of_ble_eq_true rfl) d_LW_law_1146 (fun E ce q9 f9 H1 locs1 hp => hp.elim) (fun v f9 H locs hp hw1 hsz9 hkp9 hdm9 => ?_)
  rw [← e_r] at hp
  obtain ⟨rfl, hr3, fx1, g1, rfl, ho1, hI1, hout⟩ := hp
  obtain ⟨hwy1, dj3⟩ := hw1.side hwy dj hkp9 hdm9
  have hwx1 := hw1
  refine W.eq (g2 := F0 m 1149 ls [.int (iI (r.1))]) rfl ?_
  refine lv_istore (lv' := [(5, .int (iI (r.1))), (0, .ref bs), (1, .ref x), (2, .ref y), (3, .ref o), (4, .int (iI i))]) hx hb d_LW_law_1149 hl (by decide) rfl (fun ls hl => ?_)
  refine lv_aload_n hx hb d_LW_law_1151 rfl (lv_at hl 3 rfl) ?_
  refine lv_aload_n hx hb d_LW_law_1152 rfl (lv_at hl 1 rfl) ?_
  refine lv_iload hx hb d_LW_law_1153 (lv_at hl 5 rfl) ?_
  refine lv_iconst (v := iI (1)) hx hb d_LW_law_1155 rfl ?_
  refine di_add hx hb d_LW_law_1156 ?_
  refine lw_read hx hb hX hbl hn hwx1.2.1 (i := i + 1) (by omega) (by omega) (by omega) e_u1 d_LW_law_1157 ?_
  refine cs_LW_151 X hz hwy1 hl.1 hey (c_MD_symbol l G fy _ y th T Y B Z M C u1 h_u1 hL) ⟨by omega, by omega⟩ ⟨by omega, by omega⟩ (Nat.le_of_ble_eq_true rfl) d_LW_law_1158 (fun v fy1 H locs hp hw2 hsz9 hkp9 hdm9 => ?_)
  rw [← e_r] at hp
  obtain ⟨rfl, hm1⟩ := hp
  obtain ⟨hwx2, dj4⟩ := hw2.side hwx1 (dj_sw dj3) hkp9 hdm9
  obtain ⟨M1, C1, hL1⟩ := id hm1
  obtain ⟨si1, un1, bu1, ma1, bt1, so1, co1, gsi1, gun1, gbu1, gma1, gbt1, gso1, gco1, hM1, -⟩ := id hL1
  refine W.eq (g2 := F0 m 1161 ls [.int (iI (r.2.1))]) rfl ?_
  refine lv_istore (lv' := [(6, .int (iI (r.2.1))), (5, .int (iI (r.1))), (0, .ref bs), (1, .ref x), (2, .ref y), (3, .ref o), (4, .int (iI i))]) hx hb d_LW_law_1161 hl (by decide) rfl (fun ls hl => ?_)
  refine lv_aload_n hx hb d_LW_law_1163 rfl (lv_at hl 4 rfl) ?_
  refine cs_LW_95 X hz hw2 hl.1 hM1.1 (c_MD_thrown l G fy1 _ y _ _ _ _ _ M1 C1 hL1) ⟨by omega, by omega⟩ ⟨by omega, by omega⟩ (Nat.le_of_ble_eq_true rfl) d_LW_law_1164 (fun v fy2 H locs hp hw3 hsz9 hkp9 hdm9 => ?_)
  obtain ⟨hwx3, dj5⟩ := hw3.side hwx2 dj4 hkp9 hdm9
  obtain ⟨rfl, hfe⟩ := hp
  rw [hfe] at hw3 dj5
  refine W.eq (g2 := F0 m 1167 ls [.int (iI (r.1))]) rfl ?_
  refine lv_iload hx hb d_LW_law_1167 (lv_at hl 1 rfl) ?_
  refine lv_icmp_eq (tgt := 1174) hx hb d_LW_law_1169 (by decide) (fun _ => ?_) (fun q9 => absurd rfl q9)
  refine lv_iload hx hb d_LW_law_1174 (lv_at hl 1 rfl) ?_
  refine di_if_ne (tgt := 1191) hx hb d_LW_law_1176 (by decide) ⟨by omega, by omega⟩ (fun hr0 => ?_) (fun hr0 => ?_)
  · refine lv_goto (tgt := 1469) hx hb d_LW_law_1191 (by decide) ?_
    refine W.widen (k := cells + 130) (n := slots + 4500) (by omega) (by omega) ?_
    exact kk _ _ _ _ _ _ _ ⟨fx1, fy1, g1, _, hwx3, hw3, dj_sw dj5, ho1, hI1, hm1⟩ (lv_sub hl [2, 3, 4, 5, 6] rfl)
  · refine lv_aload_n hx hb d_LW_law_1179 rfl (lv_at hl 5 rfl) ?_
    refine lv_iconst (v := iI (0)) hx hb d_LW_law_1180 rfl ?_
    refine dw_lald hx hb X.K hwx3 4 (dw_up_self _ _ _) rfl (i := 0) (by decide) (by decide) (by decide) (hout hr0) d_LW_law_1181 ?_
    refine lv_iload hx hb d_LW_law_1182 (lv_at hl 0 rfl) ?_
    refine lv_i2l hx hb d_LW_law_1184 rfl ?_
    refine lv_lcmpE hx hb d_LW_law_1185 ?_
    refine di_if_eq (tgt := 1191) hx hb d_LW_law_1186 (by decide) ⟨by decide, by decide⟩ (fun _ => ?_) (fun q9 => absurd rfl q9)
    refine lv_goto (tgt := 1469) hx hb d_LW_law_1191 (by decide) ?_
    refine W.widen (k := cells + 130) (n := slots + 4500) (by omega) (by omega) ?_
    exact kk _ _ _ _ _ _ _ ⟨fx1, fy1, g1, _, hwx3, hw3, dj_sw dj5, ho1, hI1, hm1⟩ (lv_sub hl [2, 3, 4, 5, 6] rfl)
set_option maxRecDepth 100000 in
set_option maxHeartbeats 4000000 in
theorem lk_encode {p : Program} {l : Launch} {e : Env} {R : Room} {s : State} {m : MethodId} {args : Array Value} {below : List Frame} {meth : Method} {c : Code} {H : Heap} {locs : List Loc} {cells slots : Nat} {Q : State → Prop} {ls : Array Slot} {G : ct_G} {A : Nat → Prop} {bs n x y o : Nat} {gs : Nat → Int32} {i : Int} {T Y : List (List Int)} {B Z : List Int} (X : cx G "TextDeskLaw" p s m args c b_LW_law 7) (hlT : l.stackTraces = false) (hz : ct_z G A s) (hX : va_X bs n gs s s.heap) (hbl : bs < s.heap.size) (hn : ¬ A bs) (hi0 : 0 ≤ i) (hi1 : i + 5 ≤ (n : Int)) (hi2 : (n : Int) < 2147483648) (hS : lwS G A s.heap x y o T Y B Z H locs) (hl : lv_has ls 7 [(0, .ref bs), (1, .ref x), (2, .ref y), (3, .ref o), (4, .int (iI i))]) (hR : 100 ≤ R.frames ∧ 3000 ≤ R.locals) (hf : cells + 130 ≤ R.cells ∧ slots + 4500 ≤ R.slots)
    (kk : ∀ (T Y : List (List Int)) (B Z : List Int) (H : Heap) (locs : List Loc) (ls : Array Slot), lwS G A s.heap x y o T Y B Z H locs → lv_has ls 7 [(0, .ref bs), (1, .ref x), (2, .ref y), (3, .ref o), (4, .int (iI i))] → W p l e R s m args below meth c H locs (cells + 130) (slots + 4500) Q (F0 m 1469 ls [])) : W p l e R s m args below meth c H locs cells slots Q (F0 m 1194 ls []) := by
  have hx := X.1
  have hb := X.2.1
  obtain ⟨fx, fy, g, th, hwx, hwy, dj, ho, hI, hm⟩ := hS
  obtain ⟨M, C, hL⟩ := id hm
  obtain ⟨si, un, bu, ma, bt, so, co, gsi, gun, gbu, gma, gbt, gso, gco, hM, -⟩ := id hL
  have hey := hM.1
  obtain ⟨u1, e_u1⟩ : ∃ u : Int, u = (gs (i + 1).toNat).toInt := ⟨_, rfl⟩
  have h_u1 : iR u1 := by rw [e_u1]; exact ⟨Int32.le_toInt _, Int32.toInt_lt _⟩
  obtain ⟨u2, e_u2⟩ : ∃ u : Int, u = (gs (i + 2).toNat).toInt := ⟨_, rfl⟩
  have h_u2 : iR u2 := by rw [e_u2]; exact ⟨Int32.le_toInt _, Int32.toInt_lt _⟩
  obtain ⟨r, e_r⟩ : ∃ r : Rs, r = sp_encode T Y B Z u1 u2 := ⟨_, rfl⟩
  refine lv_aload_n hx hb d_LW_law_1194 rfl (lv_at hl 1 rfl) ?_
  refine lv_aload_n hx hb d_LW_law_1195 rfl (lv_at hl 0 rfl) ?_
  refine lv_iload hx hb d_LW_law_1196 (lv_at hl 4 rfl) ?_
  refine lv_iconst (v := iI (1)) hx hb d_LW_law_1198 rfl ?_
  refine di_add hx hb d_LW_law_1199 ?_
  refine lw_read hx hb hX hbl hn hwx.2.1 (i := i + 1) (by omega) (by omega) (by omega) e_u1 d_LW_law_1200 ?_
  refine lv_aload_n hx hb d_LW_law_1201 rfl (lv_at hl 0 rfl) ?_
  refine lv_iload hx hb d_LW_law_1202 (lv_at hl 4 rfl) ?_
  refine lv_iconst (v := iI (2)) hx hb d_LW_law_1204 rfl ?_
  refine di_add hx hb d_LW_law_1205 ?_
  refine lw_read hx hb hX hbl hn hwx.2.1 (i := i + 2) (by omega) (by omega) (by omega) e_u2 d_LW_law_1206 ?_
  refine lv_aload_n hx hb d_LW_law_1207 rfl (lv_at hl 3 rfl) ?_
  refine cs_LW_152 X hz hwx hl.1 (c_LW_encode l hlT G fx _ x o g T Y B Z hI ho u1 u2 h_u1 h_u2) ⟨by omega, by omega⟩ ⟨by omega, by omega⟩ (Nat.le_of_ble_eq_true rfl) d_LW_law_1208 (fun E ce q9 f9 H1 locs1 hp => hp.elim) (fun v f9 H locs hp hw1 hsz9 hkp9 hdm9 => ?_)
  rw [← e_r] at hp
  obtain ⟨rfl, hr3, fx1, g1, rfl, ho1, hI1, hout⟩ := hp
  obtain ⟨hwy1, dj3⟩ := hw1.side hwy dj hkp9 hdm9
  have hwx1 := hw1
  refine W.eq (g2 := F0 m 1211 ls [.int (iI (r.1))]) rfl ?_
  refine lv_istore (lv' := [(5, .int (iI (r.1))), (0, .ref bs), (1, .ref x), (2, .ref y), (3, .ref o), (4, .int (iI i))]) hx hb d_LW_law_1211 hl (by decide) rfl (fun ls hl => ?_)
  refine lv_aload_n hx hb d_LW_law_1213 rfl (lv_at hl 3 rfl) ?_
  refine lv_aload_n hx hb d_LW_law_1214 rfl (lv_at hl 1 rfl) ?_
  refine lv_iload hx hb d_LW_law_1215 (lv_at hl 5 rfl) ?_
  refine lv_iconst (v := iI (1)) hx hb d_LW_law_1217 rfl ?_
  refine di_add hx hb d_LW_law_1218 ?_
  refine lw_read hx hb hX hbl hn hwx1.2.1 (i := i + 1) (by omega) (by omega) (by omega) e_u1 d_LW_law_1219 ?_
  refine lv_aload_n hx hb d_LW_law_1220 rfl (lv_at hl 1 rfl) ?_
  refine lv_iload hx hb d_LW_law_1221 (lv_at hl 5 rfl) ?_
  refine lv_iconst (v := iI (2)) hx hb d_LW_law_1223 rfl ?_
  refine di_add hx hb d_LW_law_1224 ?_
  refine lw_read hx hb hX hbl hn hwx1.2.1 (i := i + 2) (by omega) (by omega) (by omega) e_u2 d_LW_law_1225 ?_
  refine cs_LW_154 X hz hwy1 hl.1 hey (c_MD_encode l G fy _ y th T Y B Z M C u1 u2 h_u1 h_u2 hL) ⟨by omega, by omega⟩ ⟨by omega, by omega⟩ (Nat.le_of_ble_eq_true rfl) d_LW_law_1226 (fun v fy1 H locs hp hw2 hsz9 hkp9 hdm9 => ?_)
  rw [← e_r] at hp
  obtain ⟨rfl, hm1⟩ := hp
  obtain ⟨hwx2, dj4⟩ := hw2.side hwx1 (dj_sw dj3) hkp9 hdm9
  obtain ⟨M1, C1, hL1⟩ := id hm1
  obtain ⟨si1, un1, bu1, ma1, bt1, so1, co1, gsi1, gun1, gbu1, gma1, gbt1, gso1, gco1, hM1, -⟩ := id hL1
  refine W.eq (g2 := F0 m 1229 ls [.int (iI (r.2.1))]) rfl ?_
  refine lv_istore (lv' := [(6, .int (iI (r.2.1))), (5, .int (iI (r.1))), (0, .ref bs), (1, .ref x), (2, .ref y), (3, .ref o), (4, .int (iI i))]) hx hb d_LW_law_1229 hl (by decide) rfl (fun ls hl => ?_)
  refine lv_aload_n hx hb d_LW_law_1231 rfl (lv_at hl 4 rfl) ?_
  refine cs_LW_95 X hz hw2 hl.1 hM1.1 (c_MD_thrown l G fy1 _ y _ _ _ _ _ M1 C1 hL1) ⟨by omega, by omega⟩ ⟨by omega, by omega⟩ (Nat.le_of_ble_eq_true rfl) d_LW_law_1232 (fun v fy2 H locs hp hw3 hsz9 hkp9 hdm9 => ?_)
  obtain ⟨hwx3, dj5⟩ := hw3.side hwx2 dj4 hkp9 hdm9
  obtain ⟨rfl, hfe⟩ := hp
  rw [hfe] at hw3 dj5
  refine W.eq (g2 := F0 m 1235 ls [.int (iI (r.1))]) rfl ?_
  refine lv_iload hx hb d_LW_law_1235 (lv_at hl 1 rfl) ?_
  refine lv_icmp_eq (tgt := 1242) hx hb d_LW_law_1237 (by decide) (fun _ => ?_) (fun q9 => absurd rfl q9)
  refine lv_iload hx hb d_LW_law_1242 (lv_at hl 1 rfl) ?_
  refine di_if_ne (tgt := 1259) hx hb d_LW_law_1244 (by decide) ⟨by omega, by omega⟩ (fun hr0 => ?_) (fun hr0 => ?_)
  · refine lv_goto (tgt := 1469) hx hb d_LW_law_1259 (by decide) ?_
    refine W.widen (k := cells + 130) (n := slots + 4500) (by omega) (by omega) ?_
    exact kk _ _ _ _ _ _ _ ⟨fx1, fy1, g1, _, hwx3, hw3, dj_sw dj5, ho1, hI1, hm1⟩ (lv_sub hl [2, 3, 4, 5, 6] rfl)
  · refine lv_aload_n hx hb d_LW_law_1247 rfl (lv_at hl 5 rfl) ?_
    refine lv_iconst (v := iI (0)) hx hb d_LW_law_1248 rfl ?_
    refine dw_lald hx hb X.K hwx3 4 (dw_up_self _ _ _) rfl (i := 0) (by decide) (by decide) (by decide) (hout hr0) d_LW_law_1249 ?_
    refine lv_iload hx hb d_LW_law_1250 (lv_at hl 0 rfl) ?_
    refine lv_i2l hx hb d_LW_law_1252 rfl ?_
    refine lv_lcmpE hx hb d_LW_law_1253 ?_
    refine di_if_eq (tgt := 1259) hx hb d_LW_law_1254 (by decide) ⟨by decide, by decide⟩ (fun _ => ?_) (fun q9 => absurd rfl q9)
    refine lv_goto (tgt := 1469) hx hb d_LW_law_1259 (by decide) ?_
    refine W.widen (k := cells + 130) (n := slots + 4500) (by omega) (by omega) ?_
    exact kk _ _ _ _ _ _ _ ⟨fx1, fy1, g1, _, hwx3, hw3, dj_sw dj5, ho1, hI1, hm1⟩ (lv_sub hl [2, 3, 4, 5, 6] rfl)
set_option maxRecDepth 100000 in
set_option maxHeartbeats 4000000 in
theorem lk_type {p : Program} {l : Launch} {e : Env} {R : Room} {s : State} {m : MethodId} {args : Array Value} {below : List Frame} {meth : Method} {c : Code} {H : Heap} {locs : List Loc} {cells slots : Nat} {Q : State → Prop} {ls : Array Slot} {G : ct_G} {A : Nat → Prop} {bs n x y o : Nat} {gs : Nat → Int32} {i : Int} {T Y : List (List Int)} {B Z : List Int} (X : cx G "TextDeskLaw" p s m args c b_LW_law 7) (hlT : l.stackTraces = false) (hz : ct_z G A s) (hX : va_X bs n gs s s.heap) (hbl : bs < s.heap.size) (hn : ¬ A bs) (hi0 : 0 ≤ i) (hi1 : i + 5 ≤ (n : Int)) (hi2 : (n : Int) < 2147483648) (hS : lwS G A s.heap x y o T Y B Z H locs) (hl : lv_has ls 7 [(0, .ref bs), (1, .ref x), (2, .ref y), (3, .ref o), (4, .int (iI i))]) (hR : 100 ≤ R.frames ∧ 3000 ≤ R.locals) (hf : cells + 130 ≤ R.cells ∧ slots + 4500 ≤ R.slots)
    (kk : ∀ (T Y : List (List Int)) (B Z : List Int) (H : Heap) (locs : List Loc) (ls : Array Slot), lwS G A s.heap x y o T Y B Z H locs → lv_has ls 7 [(0, .ref bs), (1, .ref x), (2, .ref y), (3, .ref o), (4, .int (iI i))] → W p l e R s m args below meth c H locs (cells + 130) (slots + 4500) Q (F0 m 1469 ls [])) : W p l e R s m args below meth c H locs cells slots Q (F0 m 1262 ls []) := by
  have hx := X.1
  have hb := X.2.1
  obtain ⟨fx, fy, g, th, hwx, hwy, dj, ho, hI, hm⟩ := hS
  obtain ⟨M, C, hL⟩ := id hm
  obtain ⟨si, un, bu, ma, bt, so, co, gsi, gun, gbu, gma, gbt, gso, gco, hM, -⟩ := id hL
  have hey := hM.1
  obtain ⟨u1, e_u1⟩ : ∃ u : Int, u = (gs (i + 1).toNat).toInt := ⟨_, rfl⟩
  have h_u1 : iR u1 := by rw [e_u1]; exact ⟨Int32.le_toInt _, Int32.toInt_lt _⟩
  obtain ⟨r, e_r⟩ : ∃ r : Rs, r = sp_type T Y B Z u1 := ⟨_, rfl⟩
  refine lv_aload_n hx hb d_LW_law_1262 rfl (lv_at hl 1 rfl) ?_
  refine lv_aload_n hx hb d_LW_law_1263 rfl (lv_at hl 0 rfl) ?_
  refine lv_iload hx hb d_LW_law_1264 (lv_at hl 4 rfl) ?_
  refine lv_iconst (v := iI (1)) hx hb d_LW_law_1266 rfl ?_
  refine di_add hx hb d_LW_law_1267 ?_
  refine lw_read hx hb hX hbl hn hwx.2.1 (i := i + 1) (by omega) (by omega) (by omega) e_u1 d_LW_law_1268 ?_
  refine lv_aload_n hx hb d_LW_law_1269 rfl (lv_at hl 3 rfl) ?_
  refine cs_LW_155 X hz hwx hl.1 (c_LW_type l hlT G fx _ x o g T Y B Z hI ho u1 h_u1) ⟨by omega, by omega⟩ ⟨by omega, by omega⟩ (Nat.le_of_ble_eq_true rfl) d_LW_law_1270 (fun E ce q9 f9 H1 locs1 hp => hp.elim) (fun v f9 H locs hp hw1 hsz9 hkp9 hdm9 => ?_)
  rw [← e_r] at hp
  obtain ⟨rfl, hr3, fx1, g1, rfl, ho1, hI1, hout⟩ := hp
  obtain ⟨hwy1, dj3⟩ := hw1.side hwy dj hkp9 hdm9
  have hwx1 := hw1
  refine W.eq (g2 := F0 m 1273 ls [.int (iI (r.1))]) rfl ?_
  refine lv_istore (lv' := [(5, .int (iI (r.1))), (0, .ref bs), (1, .ref x), (2, .ref y), (3, .ref o), (4, .int (iI i))]) hx hb d_LW_law_1273 hl (by decide) rfl (fun ls hl => ?_)
  refine lv_aload_n hx hb d_LW_law_1275 rfl (lv_at hl 3 rfl) ?_
  refine lv_aload_n hx hb d_LW_law_1276 rfl (lv_at hl 1 rfl) ?_
  refine lv_iload hx hb d_LW_law_1277 (lv_at hl 5 rfl) ?_
  refine lv_iconst (v := iI (1)) hx hb d_LW_law_1279 rfl ?_
  refine di_add hx hb d_LW_law_1280 ?_
  refine lw_read hx hb hX hbl hn hwx1.2.1 (i := i + 1) (by omega) (by omega) (by omega) e_u1 d_LW_law_1281 ?_
  refine cs_LW_157 X hz hwy1 hl.1 hey (c_MD_type l G fy _ y th T Y B Z M C u1 h_u1 hL) ⟨by omega, by omega⟩ ⟨by omega, by omega⟩ (Nat.le_of_ble_eq_true rfl) d_LW_law_1282 (fun v fy1 H locs hp hw2 hsz9 hkp9 hdm9 => ?_)
  rw [← e_r] at hp
  obtain ⟨rfl, hm1⟩ := hp
  obtain ⟨hwx2, dj4⟩ := hw2.side hwx1 (dj_sw dj3) hkp9 hdm9
  obtain ⟨M1, C1, hL1⟩ := id hm1
  obtain ⟨si1, un1, bu1, ma1, bt1, so1, co1, gsi1, gun1, gbu1, gma1, gbt1, gso1, gco1, hM1, -⟩ := id hL1
  refine W.eq (g2 := F0 m 1285 ls [.int (iI (r.2.1))]) rfl ?_
  refine lv_istore (lv' := [(6, .int (iI (r.2.1))), (5, .int (iI (r.1))), (0, .ref bs), (1, .ref x), (2, .ref y), (3, .ref o), (4, .int (iI i))]) hx hb d_LW_law_1285 hl (by decide) rfl (fun ls hl => ?_)
  refine lv_aload_n hx hb d_LW_law_1287 rfl (lv_at hl 4 rfl) ?_
  refine cs_LW_95 X hz hw2 hl.1 hM1.1 (c_MD_thrown l G fy1 _ y _ _ _ _ _ M1 C1 hL1) ⟨by omega, by omega⟩ ⟨by omega, by omega⟩ (Nat.le_of_ble_eq_true rfl) d_LW_law_1288 (fun v fy2 H locs hp hw3 hsz9 hkp9 hdm9 => ?_)
  obtain ⟨hwx3, dj5⟩ := hw3.side hwx2 dj4 hkp9 hdm9
  obtain ⟨rfl, hfe⟩ := hp
  rw [hfe] at hw3 dj5
  refine W.eq (g2 := F0 m 1291 ls [.int (iI (r.1))]) rfl ?_
  refine lv_iload hx hb d_LW_law_1291 (lv_at hl 1 rfl) ?_
  refine lv_icmp_eq (tgt := 1298) hx hb d_LW_law_1293 (by decide) (fun _ => ?_) (fun q9 => absurd rfl q9)
  refine lv_iload hx hb d_LW_law_1298 (lv_at hl 1 rfl) ?_
  refine di_if_ne (tgt := 1315) hx hb d_LW_law_1300 (by decide) ⟨by omega, by omega⟩ (fun hr0 => ?_) (fun hr0 => ?_)
  · refine lv_goto (tgt := 1469) hx hb d_LW_law_1315 (by decide) ?_
    refine W.widen (k := cells + 130) (n := slots + 4500) (by omega) (by omega) ?_
    exact kk _ _ _ _ _ _ _ ⟨fx1, fy1, g1, _, hwx3, hw3, dj_sw dj5, ho1, hI1, hm1⟩ (lv_sub hl [2, 3, 4, 5, 6] rfl)
  · refine lv_aload_n hx hb d_LW_law_1303 rfl (lv_at hl 5 rfl) ?_
    refine lv_iconst (v := iI (0)) hx hb d_LW_law_1304 rfl ?_
    refine dw_lald hx hb X.K hwx3 4 (dw_up_self _ _ _) rfl (i := 0) (by decide) (by decide) (by decide) (hout hr0) d_LW_law_1305 ?_
    refine lv_iload hx hb d_LW_law_1306 (lv_at hl 0 rfl) ?_
    refine lv_i2l hx hb d_LW_law_1308 rfl ?_
    refine lv_lcmpE hx hb d_LW_law_1309 ?_
    refine di_if_eq (tgt := 1315) hx hb d_LW_law_1310 (by decide) ⟨by decide, by decide⟩ (fun _ => ?_) (fun q9 => absurd rfl q9)
    refine lv_goto (tgt := 1469) hx hb d_LW_law_1315 (by decide) ?_
    refine W.widen (k := cells + 130) (n := slots + 4500) (by omega) (by omega) ?_
    exact kk _ _ _ _ _ _ _ ⟨fx1, fy1, g1, _, hwx3, hw3, dj_sw dj5, ho1, hI1, hm1⟩ (lv_sub hl [2, 3, 4, 5, 6] rfl)
set_option maxRecDepth 100000 in
set_option maxHeartbeats 4000000 in
theorem lk_decode {p : Program} {l : Launch} {e : Env} {R : Room} {s : State} {m : MethodId} {args : Array Value} {below : List Frame} {meth : Method} {c : Code} {H : Heap} {locs : List Loc} {cells slots : Nat} {Q : State → Prop} {ls : Array Slot} {G : ct_G} {A : Nat → Prop} {bs n x y o : Nat} {gs : Nat → Int32} {i : Int} {T Y : List (List Int)} {B Z : List Int} (X : cx G "TextDeskLaw" p s m args c b_LW_law 7) (hlT : l.stackTraces = false) (hz : ct_z G A s) (hX : va_X bs n gs s s.heap) (hbl : bs < s.heap.size) (hn : ¬ A bs) (hi0 : 0 ≤ i) (hi1 : i + 5 ≤ (n : Int)) (hi2 : (n : Int) < 2147483648) (hS : lwS G A s.heap x y o T Y B Z H locs) (hl : lv_has ls 7 [(0, .ref bs), (1, .ref x), (2, .ref y), (3, .ref o), (4, .int (iI i))]) (hR : 100 ≤ R.frames ∧ 3000 ≤ R.locals) (hf : cells + 130 ≤ R.cells ∧ slots + 4500 ≤ R.slots)
    (kk : ∀ (T Y : List (List Int)) (B Z : List Int) (H : Heap) (locs : List Loc) (ls : Array Slot), lwS G A s.heap x y o T Y B Z H locs → lv_has ls 7 [(0, .ref bs), (1, .ref x), (2, .ref y), (3, .ref o), (4, .int (iI i))] → W p l e R s m args below meth c H locs (cells + 130) (slots + 4500) Q (F0 m 1469 ls [])) : W p l e R s m args below meth c H locs cells slots Q (F0 m 1318 ls []) := by
  have hx := X.1
  have hb := X.2.1
  obtain ⟨fx, fy, g, th, hwx, hwy, dj, ho, hI, hm⟩ := hS
  obtain ⟨M, C, hL⟩ := id hm
  obtain ⟨si, un, bu, ma, bt, so, co, gsi, gun, gbu, gma, gbt, gso, gco, hM, -⟩ := id hL
  have hey := hM.1
  obtain ⟨u1, e_u1⟩ : ∃ u : Int, u = (gs (i + 1).toNat).toInt := ⟨_, rfl⟩
  have h_u1 : iR u1 := by rw [e_u1]; exact ⟨Int32.le_toInt _, Int32.toInt_lt _⟩
  obtain ⟨u2, e_u2⟩ : ∃ u : Int, u = (gs (i + 2).toNat).toInt := ⟨_, rfl⟩
  have h_u2 : iR u2 := by rw [e_u2]; exact ⟨Int32.le_toInt _, Int32.toInt_lt _⟩
  by_cases hq : u2 = 0
  · obtain ⟨r, e_r⟩ : ∃ r : Rs, r = sp_decode T Y B Z u1 false := ⟨_, rfl⟩
    refine lv_aload_n hx hb d_LW_law_1318 rfl (lv_at hl 1 rfl) ?_
    refine lv_aload_n hx hb d_LW_law_1319 rfl (lv_at hl 0 rfl) ?_
    refine lv_iload hx hb d_LW_law_1320 (lv_at hl 4 rfl) ?_
    refine lv_iconst (v := iI (1)) hx hb d_LW_law_1322 rfl ?_
    refine di_add hx hb d_LW_law_1323 ?_
    refine lw_read hx hb hX hbl hn hwx.2.1 (i := i + 1) (by omega) (by omega) (by omega) e_u1 d_LW_law_1324 ?_
    refine lv_aload_n hx hb d_LW_law_1325 rfl (lv_at hl 0 rfl) ?_
    refine lv_iload hx hb d_LW_law_1326 (lv_at hl 4 rfl) ?_
    refine lv_iconst (v := iI (2)) hx hb d_LW_law_1328 rfl ?_
    refine di_add hx hb d_LW_law_1329 ?_
    refine lw_read hx hb hX hbl hn hwx.2.1 (i := i + 2) (by omega) (by omega) (by omega) e_u2 d_LW_law_1330 ?_
    refine di_if_eq (tgt := 1338) hx hb d_LW_law_1331 (by decide) h_u2 (fun _ => ?_) (fun q9 => absurd hq q9)
    refine lv_iconst (v := iI (0)) hx hb d_LW_law_1338 rfl ?_
    refine W.eq (g2 := F0 m 1339 ls [.int (iI (b2 false)), .int (iI u1), .ref x]) rfl ?_
    refine lv_aload_n hx hb d_LW_law_1339 rfl (lv_at hl 3 rfl) ?_
    refine cs_LW_158 X hz hwx hl.1 (c_LW_decode l hlT G fx _ x o g T Y B Z hI ho u1 false h_u1) ⟨by omega, by omega⟩ ⟨by omega, by omega⟩ (Nat.le_of_ble_eq_true rfl) d_LW_law_1340 (fun E ce q9 f9 H1 locs1 hp => hp.elim) (fun v f9 H locs hp hw1 hsz9 hkp9 hdm9 => ?_)
    rw [← e_r] at hp
    obtain ⟨rfl, hr3, fx1, g1, rfl, ho1, hI1, hout⟩ := hp
    obtain ⟨hwy1, dj3⟩ := hw1.side hwy dj hkp9 hdm9
    have hwx1 := hw1
    refine W.eq (g2 := F0 m 1343 ls [.int (iI (r.1))]) rfl ?_
    refine lv_istore (lv' := [(5, .int (iI (r.1))), (0, .ref bs), (1, .ref x), (2, .ref y), (3, .ref o), (4, .int (iI i))]) hx hb d_LW_law_1343 hl (by decide) rfl (fun ls hl => ?_)
    refine lv_aload_n hx hb d_LW_law_1345 rfl (lv_at hl 3 rfl) ?_
    refine lv_aload_n hx hb d_LW_law_1346 rfl (lv_at hl 1 rfl) ?_
    refine lv_iload hx hb d_LW_law_1347 (lv_at hl 5 rfl) ?_
    refine lv_iconst (v := iI (1)) hx hb d_LW_law_1349 rfl ?_
    refine di_add hx hb d_LW_law_1350 ?_
    refine lw_read hx hb hX hbl hn hwx1.2.1 (i := i + 1) (by omega) (by omega) (by omega) e_u1 d_LW_law_1351 ?_
    refine lv_aload_n hx hb d_LW_law_1352 rfl (lv_at hl 1 rfl) ?_
    refine lv_iload hx hb d_LW_law_1353 (lv_at hl 5 rfl) ?_
    refine lv_iconst (v := iI (2)) hx hb d_LW_law_1355 rfl ?_
    refine di_add hx hb d_LW_law_1356 ?_
    refine lw_read hx hb hX hbl hn hwx1.2.1 (i := i + 2) (by omega) (by omega) (by omega) e_u2 d_LW_law_1357 ?_
    refine di_if_eq (tgt := 1365) hx hb d_LW_law_1358 (by decide) h_u2 (fun _ => ?_) (fun q9 => absurd hq q9)
    refine lv_iconst (v := iI (0)) hx hb d_LW_law_1365 rfl ?_
    refine W.eq (g2 := F0 m 1366 ls [.int (iI (b2 false)), .int (iI u1), .ref y]) rfl ?_
    refine cs_LW_161 X hz hwy1 hl.1 hey (c_MD_decode l G fy _ y th T Y B Z M C u1 h_u1 false hL) ⟨by omega, by omega⟩ ⟨by omega, by omega⟩ (Nat.le_of_ble_eq_true rfl) d_LW_law_1366 (fun v fy1 H locs hp hw2 hsz9 hkp9 hdm9 => ?_)
    rw [← e_r] at hp
    obtain ⟨rfl, hm1⟩ := hp
    obtain ⟨hwx2, dj4⟩ := hw2.side hwx1 (dj_sw dj3) hkp9 hdm9
    obtain ⟨M1, C1, hL1⟩ := id hm1
    obtain ⟨si1, un1, bu1, ma1, bt1, so1, co1, gsi1, gun1, gbu1, gma1, gbt1, gso1, gco1, hM1, -⟩ := id hL1
    refine W.eq (g2 := F0 m 1369 ls [.int (iI (r.2.1))]) rfl ?_
    refine lv_istore (lv' := [(6, .int (iI (r.2.1))), (5, .int (iI (r.1))), (0, .ref bs), (1, .ref x), (2, .ref y), (3, .ref o), (4, .int (iI i))]) hx hb d_LW_law_1369 hl (by decide) rfl (fun ls hl => ?_)
    refine lv_aload_n hx hb d_LW_law_1371 rfl (lv_at hl 4 rfl) ?_
    refine cs_LW_95 X hz hw2 hl.1 hM1.1 (c_MD_thrown l G fy1 _ y _ _ _ _ _ M1 C1 hL1) ⟨by omega, by omega⟩ ⟨by omega, by omega⟩ (Nat.le_of_ble_eq_true rfl) d_LW_law_1372 (fun v fy2 H locs hp hw3 hsz9 hkp9 hdm9 => ?_)
    obtain ⟨hwx3, dj5⟩ := hw3.side hwx2 dj4 hkp9 hdm9
    obtain ⟨rfl, hfe⟩ := hp
    rw [hfe] at hw3 dj5
    refine W.eq (g2 := F0 m 1375 ls [.int (iI (r.1))]) rfl ?_
    refine lv_iload hx hb d_LW_law_1375 (lv_at hl 1 rfl) ?_
    refine lv_icmp_eq (tgt := 1382) hx hb d_LW_law_1377 (by decide) (fun _ => ?_) (fun q9 => absurd rfl q9)
    refine lv_iload hx hb d_LW_law_1382 (lv_at hl 1 rfl) ?_
    refine di_if_ne (tgt := 1399) hx hb d_LW_law_1384 (by decide) ⟨by omega, by omega⟩ (fun hr0 => ?_) (fun hr0 => ?_)
    · refine lv_goto (tgt := 1469) hx hb d_LW_law_1399 (by decide) ?_
      refine W.widen (k := cells + 130) (n := slots + 4500) (by omega) (by omega) ?_
      exact kk _ _ _ _ _ _ _ ⟨fx1, fy1, g1, _, hwx3, hw3, dj_sw dj5, ho1, hI1, hm1⟩ (lv_sub hl [2, 3, 4, 5, 6] rfl)
    · refine lv_aload_n hx hb d_LW_law_1387 rfl (lv_at hl 5 rfl) ?_
      refine lv_iconst (v := iI (0)) hx hb d_LW_law_1388 rfl ?_
      refine dw_lald hx hb X.K hwx3 4 (dw_up_self _ _ _) rfl (i := 0) (by decide) (by decide) (by decide) (hout hr0) d_LW_law_1389 ?_
      refine lv_iload hx hb d_LW_law_1390 (lv_at hl 0 rfl) ?_
      refine lv_i2l hx hb d_LW_law_1392 rfl ?_
      refine lv_lcmpE hx hb d_LW_law_1393 ?_
      refine di_if_eq (tgt := 1399) hx hb d_LW_law_1394 (by decide) ⟨by decide, by decide⟩ (fun _ => ?_) (fun q9 => absurd rfl q9)
      refine lv_goto (tgt := 1469) hx hb d_LW_law_1399 (by decide) ?_
      refine W.widen (k := cells + 130) (n := slots + 4500) (by omega) (by omega) ?_
      exact kk _ _ _ _ _ _ _ ⟨fx1, fy1, g1, _, hwx3, hw3, dj_sw dj5, ho1, hI1, hm1⟩ (lv_sub hl [2, 3, 4, 5, 6] rfl)
  · obtain ⟨r, e_r⟩ : ∃ r : Rs, r = sp_decode T Y B Z u1 true := ⟨_, rfl⟩
    refine lv_aload_n hx hb d_LW_law_1318 rfl (lv_at hl 1 rfl) ?_
    refine lv_aload_n hx hb d_LW_law_1319 rfl (lv_at hl 0 rfl) ?_
    refine lv_iload hx hb d_LW_law_1320 (lv_at hl 4 rfl) ?_
    refine lv_iconst (v := iI (1)) hx hb d_LW_law_1322 rfl ?_
    refine di_add hx hb d_LW_law_1323 ?_
    refine lw_read hx hb hX hbl hn hwx.2.1 (i := i + 1) (by omega) (by omega) (by omega) e_u1 d_LW_law_1324 ?_
    refine lv_aload_n hx hb d_LW_law_1325 rfl (lv_at hl 0 rfl) ?_
    refine lv_iload hx hb d_LW_law_1326 (lv_at hl 4 rfl) ?_
    refine lv_iconst (v := iI (2)) hx hb d_LW_law_1328 rfl ?_
    refine di_add hx hb d_LW_law_1329 ?_
    refine lw_read hx hb hX hbl hn hwx.2.1 (i := i + 2) (by omega) (by omega) (by omega) e_u2 d_LW_law_1330 ?_
    refine di_if_eq (tgt := 1338) hx hb d_LW_law_1331 (by decide) h_u2 (fun q9 => absurd q9 hq) (fun _ => ?_)
    refine lv_iconst (v := iI (1)) hx hb d_LW_law_1334 rfl ?_
    refine W.eq (g2 := F0 m 1335 ls [.int (iI (b2 true)), .int (iI u1), .ref x]) rfl ?_
    refine lv_goto (tgt := 1339) hx hb d_LW_law_1335 (by decide) ?_
    refine lv_aload_n hx hb d_LW_law_1339 rfl (lv_at hl 3 rfl) ?_
    refine cs_LW_158 X hz hwx hl.1 (c_LW_decode l hlT G fx _ x o g T Y B Z hI ho u1 true h_u1) ⟨by omega, by omega⟩ ⟨by omega, by omega⟩ (Nat.le_of_ble_eq_true rfl) d_LW_law_1340 (fun E ce q9 f9 H1 locs1 hp => hp.elim) (fun v f9 H locs hp hw1 hsz9 hkp9 hdm9 => ?_)
    rw [← e_r] at hp
    obtain ⟨rfl, hr3, fx1, g1, rfl, ho1, hI1, hout⟩ := hp
    obtain ⟨hwy1, dj3⟩ := hw1.side hwy dj hkp9 hdm9
    have hwx1 := hw1
    refine W.eq (g2 := F0 m 1343 ls [.int (iI (r.1))]) rfl ?_
    refine lv_istore (lv' := [(5, .int (iI (r.1))), (0, .ref bs), (1, .ref x), (2, .ref y), (3, .ref o), (4, .int (iI i))]) hx hb d_LW_law_1343 hl (by decide) rfl (fun ls hl => ?_)
    refine lv_aload_n hx hb d_LW_law_1345 rfl (lv_at hl 3 rfl) ?_
    refine lv_aload_n hx hb d_LW_law_1346 rfl (lv_at hl 1 rfl) ?_
    refine lv_iload hx hb d_LW_law_1347 (lv_at hl 5 rfl) ?_
    refine lv_iconst (v := iI (1)) hx hb d_LW_law_1349 rfl ?_
    refine di_add hx hb d_LW_law_1350 ?_
    refine lw_read hx hb hX hbl hn hwx1.2.1 (i := i + 1) (by omega) (by omega) (by omega) e_u1 d_LW_law_1351 ?_
    refine lv_aload_n hx hb d_LW_law_1352 rfl (lv_at hl 1 rfl) ?_
    refine lv_iload hx hb d_LW_law_1353 (lv_at hl 5 rfl) ?_
    refine lv_iconst (v := iI (2)) hx hb d_LW_law_1355 rfl ?_
    refine di_add hx hb d_LW_law_1356 ?_
    refine lw_read hx hb hX hbl hn hwx1.2.1 (i := i + 2) (by omega) (by omega) (by omega) e_u2 d_LW_law_1357 ?_
    refine di_if_eq (tgt := 1365) hx hb d_LW_law_1358 (by decide) h_u2 (fun q9 => absurd q9 hq) (fun _ => ?_)
    refine lv_iconst (v := iI (1)) hx hb d_LW_law_1361 rfl ?_
    refine W.eq (g2 := F0 m 1362 ls [.int (iI (b2 true)), .int (iI u1), .ref y]) rfl ?_
    refine lv_goto (tgt := 1366) hx hb d_LW_law_1362 (by decide) ?_
    refine cs_LW_161 X hz hwy1 hl.1 hey (c_MD_decode l G fy _ y th T Y B Z M C u1 h_u1 true hL) ⟨by omega, by omega⟩ ⟨by omega, by omega⟩ (Nat.le_of_ble_eq_true rfl) d_LW_law_1366 (fun v fy1 H locs hp hw2 hsz9 hkp9 hdm9 => ?_)
    rw [← e_r] at hp
    obtain ⟨rfl, hm1⟩ := hp
    obtain ⟨hwx2, dj4⟩ := hw2.side hwx1 (dj_sw dj3) hkp9 hdm9
    obtain ⟨M1, C1, hL1⟩ := id hm1
    obtain ⟨si1, un1, bu1, ma1, bt1, so1, co1, gsi1, gun1, gbu1, gma1, gbt1, gso1, gco1, hM1, -⟩ := id hL1
    refine W.eq (g2 := F0 m 1369 ls [.int (iI (r.2.1))]) rfl ?_
    refine lv_istore (lv' := [(6, .int (iI (r.2.1))), (5, .int (iI (r.1))), (0, .ref bs), (1, .ref x), (2, .ref y), (3, .ref o), (4, .int (iI i))]) hx hb d_LW_law_1369 hl (by decide) rfl (fun ls hl => ?_)
    refine lv_aload_n hx hb d_LW_law_1371 rfl (lv_at hl 4 rfl) ?_
    refine cs_LW_95 X hz hw2 hl.1 hM1.1 (c_MD_thrown l G fy1 _ y _ _ _ _ _ M1 C1 hL1) ⟨by omega, by omega⟩ ⟨by omega, by omega⟩ (Nat.le_of_ble_eq_true rfl) d_LW_law_1372 (fun v fy2 H locs hp hw3 hsz9 hkp9 hdm9 => ?_)
    obtain ⟨hwx3, dj5⟩ := hw3.side hwx2 dj4 hkp9 hdm9
    obtain ⟨rfl, hfe⟩ := hp
    rw [hfe] at hw3 dj5
    refine W.eq (g2 := F0 m 1375 ls [.int (iI (r.1))]) rfl ?_
    refine lv_iload hx hb d_LW_law_1375 (lv_at hl 1 rfl) ?_
    refine lv_icmp_eq (tgt := 1382) hx hb d_LW_law_1377 (by decide) (fun _ => ?_) (fun q9 => absurd rfl q9)
    refine lv_iload hx hb d_LW_law_1382 (lv_at hl 1 rfl) ?_
    refine di_if_ne (tgt := 1399) hx hb d_LW_law_1384 (by decide) ⟨by omega, by omega⟩ (fun hr0 => ?_) (fun hr0 => ?_)
    · refine lv_goto (tgt := 1469) hx hb d_LW_law_1399 (by decide) ?_
      refine W.widen (k := cells + 130) (n := slots + 4500) (by omega) (by omega) ?_
      exact kk _ _ _ _ _ _ _ ⟨fx1, fy1, g1, _, hwx3, hw3, dj_sw dj5, ho1, hI1, hm1⟩ (lv_sub hl [2, 3, 4, 5, 6] rfl)
    · refine lv_aload_n hx hb d_LW_law_1387 rfl (lv_at hl 5 rfl) ?_
      refine lv_iconst (v := iI (0)) hx hb d_LW_law_1388 rfl ?_
      refine dw_lald hx hb X.K hwx3 4 (dw_up_self _ _ _) rfl (i := 0) (by decide) (by decide) (by decide) (hout hr0) d_LW_law_1389 ?_
      refine lv_iload hx hb d_LW_law_1390 (lv_at hl 0 rfl) ?_
      refine lv_i2l hx hb d_LW_law_1392 rfl ?_
      refine lv_lcmpE hx hb d_LW_law_1393 ?_
      refine di_if_eq (tgt := 1399) hx hb d_LW_law_1394 (by decide) ⟨by decide, by decide⟩ (fun _ => ?_) (fun q9 => absurd rfl q9)
      refine lv_goto (tgt := 1469) hx hb d_LW_law_1399 (by decide) ?_
      refine W.widen (k := cells + 130) (n := slots + 4500) (by omega) (by omega) ?_
      exact kk _ _ _ _ _ _ _ ⟨fx1, fy1, g1, _, hwx3, hw3, dj_sw dj5, ho1, hI1, hm1⟩ (lv_sub hl [2, 3, 4, 5, 6] rfl)
set_option maxRecDepth 100000 in
set_option maxHeartbeats 4000000 in
theorem lk_octet {p : Program} {l : Launch} {e : Env} {R : Room} {s : State} {m : MethodId} {args : Array Value} {below : List Frame} {meth : Method} {c : Code} {H : Heap} {locs : List Loc} {cells slots : Nat} {Q : State → Prop} {ls : Array Slot} {G : ct_G} {A : Nat → Prop} {bs n x y o : Nat} {gs : Nat → Int32} {i : Int} {T Y : List (List Int)} {B Z : List Int} (X : cx G "TextDeskLaw" p s m args c b_LW_law 7) (hlT : l.stackTraces = false) (hz : ct_z G A s) (hX : va_X bs n gs s s.heap) (hbl : bs < s.heap.size) (hn : ¬ A bs) (hi0 : 0 ≤ i) (hi1 : i + 5 ≤ (n : Int)) (hi2 : (n : Int) < 2147483648) (hS : lwS G A s.heap x y o T Y B Z H locs) (hl : lv_has ls 7 [(0, .ref bs), (1, .ref x), (2, .ref y), (3, .ref o), (4, .int (iI i))]) (hR : 100 ≤ R.frames ∧ 3000 ≤ R.locals) (hf : cells + 130 ≤ R.cells ∧ slots + 4500 ≤ R.slots)
    (kk : ∀ (T Y : List (List Int)) (B Z : List Int) (H : Heap) (locs : List Loc) (ls : Array Slot), lwS G A s.heap x y o T Y B Z H locs → lv_has ls 7 [(0, .ref bs), (1, .ref x), (2, .ref y), (3, .ref o), (4, .int (iI i))] → W p l e R s m args below meth c H locs (cells + 130) (slots + 4500) Q (F0 m 1469 ls [])) : W p l e R s m args below meth c H locs cells slots Q (F0 m 1402 ls []) := by
  have hx := X.1
  have hb := X.2.1
  obtain ⟨fx, fy, g, th, hwx, hwy, dj, ho, hI, hm⟩ := hS
  obtain ⟨M, C, hL⟩ := id hm
  obtain ⟨si, un, bu, ma, bt, so, co, gsi, gun, gbu, gma, gbt, gso, gco, hM, -⟩ := id hL
  have hey := hM.1
  obtain ⟨u1, e_u1⟩ : ∃ u : Int, u = (gs (i + 1).toNat).toInt := ⟨_, rfl⟩
  have h_u1 : iR u1 := by rw [e_u1]; exact ⟨Int32.le_toInt _, Int32.toInt_lt _⟩
  obtain ⟨r, e_r⟩ : ∃ r : Rs, r = sp_octet T Y B Z u1 := ⟨_, rfl⟩
  refine lv_aload_n hx hb d_LW_law_1402 rfl (lv_at hl 1 rfl) ?_
  refine lv_aload_n hx hb d_LW_law_1403 rfl (lv_at hl 0 rfl) ?_
  refine lv_iload hx hb d_LW_law_1404 (lv_at hl 4 rfl) ?_
  refine lv_iconst (v := iI (1)) hx hb d_LW_law_1406 rfl ?_
  refine di_add hx hb d_LW_law_1407 ?_
  refine lw_read hx hb hX hbl hn hwx.2.1 (i := i + 1) (by omega) (by omega) (by omega) e_u1 d_LW_law_1408 ?_
  refine lv_aload_n hx hb d_LW_law_1409 rfl (lv_at hl 3 rfl) ?_
  refine cs_LW_162 X hz hwx hl.1 (c_LW_octet l hlT G fx _ x o g T Y B Z hI ho u1 h_u1) ⟨by omega, by omega⟩ ⟨by omega, by omega⟩ (Nat.le_of_ble_eq_true rfl) d_LW_law_1410 (fun E ce q9 f9 H1 locs1 hp => hp.elim) (fun v f9 H locs hp hw1 hsz9 hkp9 hdm9 => ?_)
  rw [← e_r] at hp
  obtain ⟨rfl, hr3, fx1, g1, rfl, ho1, hI1, hout⟩ := hp
  obtain ⟨hwy1, dj3⟩ := hw1.side hwy dj hkp9 hdm9
  have hwx1 := hw1
  refine W.eq (g2 := F0 m 1413 ls [.int (iI (r.1))]) rfl ?_
  refine lv_istore (lv' := [(5, .int (iI (r.1))), (0, .ref bs), (1, .ref x), (2, .ref y), (3, .ref o), (4, .int (iI i))]) hx hb d_LW_law_1413 hl (by decide) rfl (fun ls hl => ?_)
  refine lv_aload_n hx hb d_LW_law_1415 rfl (lv_at hl 3 rfl) ?_
  refine lv_aload_n hx hb d_LW_law_1416 rfl (lv_at hl 1 rfl) ?_
  refine lv_iload hx hb d_LW_law_1417 (lv_at hl 5 rfl) ?_
  refine lv_iconst (v := iI (1)) hx hb d_LW_law_1419 rfl ?_
  refine di_add hx hb d_LW_law_1420 ?_
  refine lw_read hx hb hX hbl hn hwx1.2.1 (i := i + 1) (by omega) (by omega) (by omega) e_u1 d_LW_law_1421 ?_
  refine cs_LW_164 X hz hwy1 hl.1 hey (c_MD_octet l G fy _ y th T Y B Z M C u1 h_u1 hL) ⟨by omega, by omega⟩ ⟨by omega, by omega⟩ (Nat.le_of_ble_eq_true rfl) d_LW_law_1422 (fun v fy1 H locs hp hw2 hsz9 hkp9 hdm9 => ?_)
  rw [← e_r] at hp
  obtain ⟨rfl, hm1⟩ := hp
  obtain ⟨hwx2, dj4⟩ := hw2.side hwx1 (dj_sw dj3) hkp9 hdm9
  obtain ⟨M1, C1, hL1⟩ := id hm1
  obtain ⟨si1, un1, bu1, ma1, bt1, so1, co1, gsi1, gun1, gbu1, gma1, gbt1, gso1, gco1, hM1, -⟩ := id hL1
  refine W.eq (g2 := F0 m 1425 ls [.int (iI (r.2.1))]) rfl ?_
  refine lv_istore (lv' := [(6, .int (iI (r.2.1))), (5, .int (iI (r.1))), (0, .ref bs), (1, .ref x), (2, .ref y), (3, .ref o), (4, .int (iI i))]) hx hb d_LW_law_1425 hl (by decide) rfl (fun ls hl => ?_)
  refine lv_aload_n hx hb d_LW_law_1427 rfl (lv_at hl 4 rfl) ?_
  refine cs_LW_95 X hz hw2 hl.1 hM1.1 (c_MD_thrown l G fy1 _ y _ _ _ _ _ M1 C1 hL1) ⟨by omega, by omega⟩ ⟨by omega, by omega⟩ (Nat.le_of_ble_eq_true rfl) d_LW_law_1428 (fun v fy2 H locs hp hw3 hsz9 hkp9 hdm9 => ?_)
  obtain ⟨hwx3, dj5⟩ := hw3.side hwx2 dj4 hkp9 hdm9
  obtain ⟨rfl, hfe⟩ := hp
  rw [hfe] at hw3 dj5
  refine W.eq (g2 := F0 m 1431 ls [.int (iI (r.1))]) rfl ?_
  refine lv_iload hx hb d_LW_law_1431 (lv_at hl 1 rfl) ?_
  refine lv_icmp_eq (tgt := 1438) hx hb d_LW_law_1433 (by decide) (fun _ => ?_) (fun q9 => absurd rfl q9)
  refine lv_iload hx hb d_LW_law_1438 (lv_at hl 1 rfl) ?_
  refine di_if_ne (tgt := 1455) hx hb d_LW_law_1440 (by decide) ⟨by omega, by omega⟩ (fun hr0 => ?_) (fun hr0 => ?_)
  · refine lv_goto (tgt := 1469) hx hb d_LW_law_1455 (by decide) ?_
    refine W.widen (k := cells + 130) (n := slots + 4500) (by omega) (by omega) ?_
    exact kk _ _ _ _ _ _ _ ⟨fx1, fy1, g1, _, hwx3, hw3, dj_sw dj5, ho1, hI1, hm1⟩ (lv_sub hl [2, 3, 4, 5, 6] rfl)
  · refine lv_aload_n hx hb d_LW_law_1443 rfl (lv_at hl 5 rfl) ?_
    refine lv_iconst (v := iI (0)) hx hb d_LW_law_1444 rfl ?_
    refine dw_lald hx hb X.K hwx3 4 (dw_up_self _ _ _) rfl (i := 0) (by decide) (by decide) (by decide) (hout hr0) d_LW_law_1445 ?_
    refine lv_iload hx hb d_LW_law_1446 (lv_at hl 0 rfl) ?_
    refine lv_i2l hx hb d_LW_law_1448 rfl ?_
    refine lv_lcmpE hx hb d_LW_law_1449 ?_
    refine di_if_eq (tgt := 1455) hx hb d_LW_law_1450 (by decide) ⟨by decide, by decide⟩ (fun _ => ?_) (fun q9 => absurd rfl q9)
    refine lv_goto (tgt := 1469) hx hb d_LW_law_1455 (by decide) ?_
    refine W.widen (k := cells + 130) (n := slots + 4500) (by omega) (by omega) ?_
    exact kk _ _ _ _ _ _ _ ⟨fx1, fy1, g1, _, hwx3, hw3, dj_sw dj5, ho1, hI1, hm1⟩ (lv_sub hl [2, 3, 4, 5, 6] rfl)
set_option maxRecDepth 100000 in
set_option maxHeartbeats 4000000 in
theorem lk_clear {p : Program} {l : Launch} {e : Env} {R : Room} {s : State} {m : MethodId} {args : Array Value} {below : List Frame} {meth : Method} {c : Code} {H : Heap} {locs : List Loc} {cells slots : Nat} {Q : State → Prop} {ls : Array Slot} {G : ct_G} {A : Nat → Prop} {bs n x y o : Nat} {gs : Nat → Int32} {i : Int} {T Y : List (List Int)} {B Z : List Int} (X : cx G "TextDeskLaw" p s m args c b_LW_law 7) (hlT : l.stackTraces = false) (hz : ct_z G A s) (hX : va_X bs n gs s s.heap) (hbl : bs < s.heap.size) (hn : ¬ A bs) (hi0 : 0 ≤ i) (hi1 : i + 5 ≤ (n : Int)) (hi2 : (n : Int) < 2147483648) (hS : lwS G A s.heap x y o T Y B Z H locs) (hl : lv_has ls 7 [(0, .ref bs), (1, .ref x), (2, .ref y), (3, .ref o), (4, .int (iI i))]) (hR : 100 ≤ R.frames ∧ 3000 ≤ R.locals) (hf : cells + 130 ≤ R.cells ∧ slots + 4500 ≤ R.slots)
    (kk : ∀ (T Y : List (List Int)) (B Z : List Int) (H : Heap) (locs : List Loc) (ls : Array Slot), lwS G A s.heap x y o T Y B Z H locs → lv_has ls 7 [(0, .ref bs), (1, .ref x), (2, .ref y), (3, .ref o), (4, .int (iI i))] → W p l e R s m args below meth c H locs (cells + 130) (slots + 4500) Q (F0 m 1469 ls [])) : W p l e R s m args below meth c H locs cells slots Q (F0 m 1458 ls []) := by
  have hx := X.1
  have hb := X.2.1
  obtain ⟨fx, fy, g, th, hwx, hwy, dj, ho, hI, hm⟩ := hS
  obtain ⟨M, C, hL⟩ := id hm
  obtain ⟨si, un, bu, ma, bt, so, co, gsi, gun, gbu, gma, gbt, gso, gco, hM, -⟩ := id hL
  have hey := hM.1
  obtain ⟨ta, sa, yr, dc, bu2, dr, qy, qb, qd, gT, gS, c0, w0, D, sB, sZ, sD, hd⟩ := id hI
  refine lv_aload_n hx hb d_LW_law_1458 rfl (lv_at hl 1 rfl) ?_
  refine cs_LW_165 X hz (hwx.fst ho) hl.1 hd.1 (c_DK_clear l G fx _ x T Y B Z hI) ⟨by omega, by omega⟩ ⟨by omega, by omega⟩ (Nat.le_of_ble_eq_true rfl) d_LW_law_1459 (fun v fx1 H locs hp hw1 hsz9 hkp9 hdm9 => ?_)
  obtain ⟨rfl, hI1⟩ := hp
  obtain ⟨hwo1, dj1⟩ := hw1.side hwx.snd (dj_one ho) hkp9 hdm9
  obtain ⟨hwy1, dj2⟩ := hw1.side hwy (dj_fst ho dj) hkp9 hdm9
  have hwx1 := hw1.both hwo1
  have ho1 := dj_one' dj1
  have dj3 := dj_up (c := lcl G g) (dj_o dj) dj2
  refine W.eq (g2 := F0 m 1462 ls []) rfl ?_
  refine lv_aload_n hx hb d_LW_law_1462 rfl (lv_at hl 2 rfl) ?_
  refine cs_LW_168 X hz hwy1 hl.1 hey (c_MD_clear l G fy _ y th T Y B Z M C hL) ⟨by omega, by omega⟩ ⟨by omega, by omega⟩ (Nat.le_of_ble_eq_true rfl) d_LW_law_1463 (fun v fy1 H locs hp hw2 hsz9 hkp9 hdm9 => ?_)
  obtain ⟨rfl, hm1⟩ := hp
  obtain ⟨hwx2, dj4⟩ := hw2.side hwx1 (dj_sw dj3) hkp9 hdm9
  refine W.eq (g2 := F0 m 1466 ls []) rfl ?_
  refine lv_goto (tgt := 1469) hx hb d_LW_law_1466 (by decide) ?_
  refine W.widen (k := cells + 130) (n := slots + 4500) (by omega) (by omega) ?_
  exact kk _ _ _ _ _ _ _ ⟨fx1, fy1, g, _, hwx2, hw2, dj_sw dj4, ho1, hI1, hm1⟩ (lv_sub hl [0, 1, 2, 3, 4] rfl)
