theorem lw_arr {s : State} {args : Array Value} {ty : FieldType} (h : (Cond.arrayClass ty).before args s = true) : ∃ cA : ClassId, ArrOfT s cA ty ∧ s.vm.findClass ("[" ++ ty.toString) = some cA := by
  obtain ⟨cA, kA, comp, h1, h2, h3⟩ := Cond.arrayClass_spec h
  exact ⟨cA, fun n z => ⟨fun k h => (by cases h), kA, h2, comp, h3⟩, h1⟩
theorem lw_arrO {s : State} {args : Array Value} {C : String} (h : (Cond.arrayOver (.object C)).before args s = true) : ∃ cA : ClassId, ArrOfT s cA (.object C) ∧ va_RA s cA (.object C) := by
  obtain ⟨comp, c, k, h1, h2, h3, h4, h5⟩ := Cond.arrayOver_spec h
  exact ⟨c, fun n z => ⟨fun k h => (by cases h), k, h3, comp, h4⟩, k, comp, h3, h4, h1, h5⟩
theorem lw_strs_in : ∀ q ∈ dk_strs, q.1 = "TextDesk" ∧ Cond.stringRef q.1 q.2.1 q.2.2 ∈ lw_tbl := by decide +kernel
theorem lw_nst_in : ∀ q ∈ dk_nst, Cond.methodLinkNest q.1 q.2.1 q.2.2.1 q.2.2.2 ∈ lw_tbl := by decide +kernel
theorem lw_dcl_in : ∀ x ∈ dk_dcl, Cond.declares x ∈ lw_tbl := by decide +kernel
theorem lw_cst_in : ∀ q ∈ dk_cst, Cond.castable q.1 q.2 ∈ lw_tbl := by decide +kernel
theorem lw_aos_in : ∀ C ∈ dk_aos, Cond.arrayOver (.object C) ∈ lw_tbl := by decide +kernel
theorem lw_ncs_in : ∀ q ∈ dk_ncs, Cond.not (.castable q.1 q.2) ∈ flatC (Jvm.Cond.and given_1 narrow_1) := by decide +kernel
set_option maxRecDepth 100000 in
set_option maxHeartbeats 4000000 in
/-- what every walk needs, out of the claim's premises -/
theorem lw_G {s : State} {bs : Nat} (hts : ∀ w ∈ lw_tbl, w.before #[Value.ref bs] s = true) (hgv : (Jvm.Cond.and given_1 narrow_1).before #[Value.ref bs] s = true) : ∃ G : ct_G, G.2.2 = s.heap.size ∧ ct_E G s := by
  have hd : ∀ w ∈ dk_all, w.before #[Value.ref bs] s = true := fun w h => hts w (List.mem_filter.mp h).1
  have hs := flat_of_before _ hgv
  obtain ⟨c0, i0, h0⟩ := u_known (C := "TextDesk$Decoder") (T := F_DC) (N := 2) (n := 2) hd i_DC (hd _ mw_53)
  obtain ⟨c1, i1, h1⟩ := u_known (C := "TextDesk$NarrowText") (T := F_NT) (N := 3) (n := 3) hd i_NT (hd _ mw_302)
  obtain ⟨c2, i2, h2⟩ := u_known (C := "TextDesk$WideText") (T := F_WT) (N := 3) (n := 3) hd i_WT (hd _ mw_280)
  obtain ⟨c3, i3, h3⟩ := u_known (C := "TextDesk$JoinedText") (T := F_JT) (N := 5) (n := 5) hd i_JT (hd _ mw_403)
  obtain ⟨c4, i4, h4⟩ := u_known (C := "TextDesk$Row") (T := F_RW) (N := 3) (n := 3) hd i_RW (hd _ mw_30)
  obtain ⟨c5, i5, h5⟩ := u_known (C := "TextDesk") (T := F_DK) (N := 6) (n := 6) hd i_DK (hd _ mw_20)
  obtain ⟨c6, i6, h6⟩ := u_known (C := "TextDeskModel") (T := F_MD) (N := 14) (n := 14) hd i_MD (hd _ mw_641)
  obtain ⟨a0, A0, N0⟩ := lw_arr (hd _ mw_51)
  obtain ⟨a1, A1, N1⟩ := lw_arr (hd _ mw_202)
  obtain ⟨a2, A2, N2⟩ := lw_arr (hd _ mw_300)
  obtain ⟨a4, A4, N4⟩ := lw_arr (hd _ mw_874)
  obtain ⟨a3, A3, N3⟩ := lw_arrO (hts _ (lw_aos_in "TextDesk$Text" (by decide +kernel)))
  have hA : ∀ a : Nat, a < s.heap.size → ¬ s.heap.size ≤ a := fun a h => Nat.not_le.mpr h
  refine ⟨((fun k => match k with | 0 => c0 | 1 => c1 | 2 => c2 | 3 => c3 | 4 => c4 | 5 => c5 | _ => c6, fun k => match k with | 0 => i0 | 1 => i1 | 2 => i2 | 3 => i3 | 4 => i4 | 5 => i5 | _ => i6), (fun k => match k with | 0 => a0 | 1 => a1 | 2 => a2 | 3 => a3 | _ => a4), s.heap.size), rfl, ⟨fun k q hq => ?_, fun k q hq => ?_⟩, ⟨vx_Zqof (hts (.laysStatic Bundle.tN "UNASSIGNED_STACK" Bundle.steD) (by decide +kernel)) (hd _ mw_7) (hs (.isRef (.static Bundle.tN "UNASSIGNED_STACK" Bundle.steD)) (by decide +kernel)) hA, vx_Zqof (hts (.laysStatic Bundle.tN "SUPPRESSED_SENTINEL" Bundle.listD) (by decide +kernel)) (hd _ mw_7) (hs (.isRef (.static Bundle.tN "SUPPRESSED_SENTINEL" Bundle.listD)) (by decide +kernel)) hA⟩, fun q hq => ?_, fun q hq => va_Nw.of rfl (hts _ (lw_nst_in q hq)), fun x hx => va_Nw.of rfl (hts _ (lw_dcl_in x hx)), fun q hq => va_Nw.of rfl (hts _ (lw_cst_in q hq)), fun C hC => va_AO.of (hts _ (lw_aos_in C hC)), fun q hq => va_Nc.of (hs _ (lw_ncs_in q hq))⟩
  · match k, hq with
    | 0, hq => cases hq; exact h0
    | 1, hq => cases hq; exact h1
    | 2, hq => cases hq; exact h2
    | 3, hq => cases hq; exact h3
    | 4, hq => cases hq; exact h4
    | 5, hq => cases hq; exact h5
    | 6, hq => cases hq; exact h6
    | k + 7, hq => simp [dk_cl] at hq
  · match k, hq with
    | 0, hq => cases hq; exact ⟨A0, N0⟩
    | 1, hq => cases hq; exact ⟨A1, N1⟩
    | 2, hq => cases hq; exact ⟨A2, N2⟩
    | 3, hq => cases hq; exact ⟨A3, N3⟩
    | 4, hq => cases hq; exact ⟨A4, N4⟩
    | k + 5, hq => simp [dk_tys] at hq
  · obtain ⟨e1, e2⟩ := lw_strs_in q hq
    have h9 := hts _ e2
    rw [e1] at h9 ⊢
    obtain ⟨_, _, _, a, -, -, -, -, -, h8⟩ := Cond.stringRef_spec h5.2.1 h9
    exact ⟨a, vk_R.of h9 h8⟩
set_option maxRecDepth 100000 in
set_option maxHeartbeats 4000000 in
/-- THE LAW, from its entry -/
theorem whole_start {p : Program} {e : Env} {s : State} {m : MethodId} {below : List Frame} {meth : Method} {c : Code} (l : Launch) (hlT : l.stackTraces = false) {bs n : Nat} {gs : Nat → Int32} (hL : n ≤ 2560) (C0 : lw_At p s m meth c bs n gs) : W p l e room_1 s m #[Value.ref bs] below meth c s.heap [] 0 0 (lw_Z below #[Value.ref bs] s) (entryFrame m ([Value.ref bs] : List Value).toArray 7) := by
  obtain ⟨hx, hb, hr, hml, hown, hts, hX, hbl, hlocks, hgv⟩ := id C0
  obtain ⟨G, hG, hE⟩ := lw_G hts hgv
  have hC : 100 ≤ room_1.cells := Nat.le_of_ble_eq_true rfl
  have hSl : 4000 ≤ room_1.slots := Nat.le_of_ble_eq_true rfl
  have X : cx G "TextDeskLaw" p s m #[Value.ref bs] c b_LW_law 7 := ⟨hx, hb, hml, hown, fun w h => hts w (List.mem_filter.mp h).1, hE⟩
  have hz : ct_z G (fun q : Nat => s.heap.size ≤ q) s := ⟨fun q h => by rw [hG]; exact h, by rw [hG]; exact Nat.le_refl _⟩
  have hw : dw G.1 dk_cl (fun q : Nat => s.heap.size ≤ q) s.heap (fun _ => none) s.heap [] := ⟨fun a x h => (by cases h), va_S.rf, fun q h => h⟩
  have hl := lv_entry ([.ref bs]) (n := 7) (Nat.le_of_ble_eq_true rfl)
  rw [lg_entry_eq]
  generalize (lg_sl ([.ref bs]) ++ List.replicate (7 - (lg_sl ([.ref bs])).length) Slot.unset).toArray = ls at hl ⊢
  have hl : lv_has ls 7 [(0, .ref bs)] := hl
  refine nw_LW_8 X hw (by show 0 + 1 ≤ room_1.cells; omega) (by show 0 + 6 ≤ room_1.slots; omega) d_LW_law_0 (fun x H hq_x hw => ?_)
  refine lv_dup hx hb d_LW_law_3 rfl ?_
  refine cs_LW_85 X hz hw hl.1 (c_DK_init l G _ _ x (dw_up_self _ _ _)) ⟨Nat.le_of_ble_eq_true rfl, Nat.le_of_ble_eq_true rfl⟩ ⟨by show 0 + 1 + 9 ≤ room_1.cells; omega, by show 0 + 6 + 371 ≤ room_1.slots; omega⟩ (Nat.le_of_ble_eq_true rfl) d_LW_law_4 (fun v fx H locs hp hwx hsz9 hkp9 hdm9 => ?_)
  obtain ⟨rfl, hI, -⟩ := hp
  refine W.eq (g2 := F0 m 7 ls [.ref x]) rfl ?_
  refine lv_astore_n (lv' := [(1, .ref x), (0, .ref bs)]) hx hb d_LW_law_7 rfl hl (by decide) rfl (fun ls hl => ?_)
  refine nw_LW_86 X hwx (by show 0 + 1 + 9 + 1 ≤ room_1.cells; omega) (by show 0 + 6 + 371 + 14 ≤ room_1.slots; omega) d_LW_law_8 (fun y H hq_y hw => ?_)
  have hwx := hw.fst hq_y
  have hwy := hw.snd
  have dj := dj_one (c := (.inr (6, [.int (iI 0), .int (iI 0), .null, .null, .int (iI 0), .null, .int (iI 0), .null, .int (iI 0), .null, .int (iI 0), .null, .int (iI 0), .null]) : va_E)) hq_y
  refine lv_dup hx hb d_LW_law_11 rfl ?_
  refine cs_LW_88 X hz hwy hl.1 (c_MD_init l G _ _ y (dw_one_self _ _)) ⟨Nat.le_of_ble_eq_true rfl, Nat.le_of_ble_eq_true rfl⟩ ⟨by show 0 + 1 + 9 + 1 + 7 ≤ room_1.cells; omega, by show 0 + 6 + 371 + 14 + 1944 ≤ room_1.slots; omega⟩ (Nat.le_of_ble_eq_true rfl) d_LW_law_12 (fun v fy H locs hp hwy hsz9 hkp9 hdm9 => ?_)
  obtain ⟨rfl, hm⟩ := hp
  obtain ⟨hwx, dj⟩ := hwy.side hwx (dj_sw dj) hkp9 hdm9
  refine W.eq (g2 := F0 m 15 ls [.ref y]) rfl ?_
  refine lv_astore_n (lv' := [(2, .ref y), (1, .ref x), (0, .ref bs)]) hx hb d_LW_law_15 rfl hl (by decide) rfl (fun ls hl => ?_)
  refine lv_iconst (v := iI (1)) hx hb d_LW_law_16 rfl ?_
  have hwj := hwx.join hwy
  refine na_long X hwj (N := 1) rfl (by omega) (by show 0 + 1 + 9 + 1 + 7 + 1 ≤ room_1.cells; omega) (by show 0 + 6 + 371 + 14 + 1944 + 1 ≤ room_1.slots; omega) d_LW_law_17 (fun o H hq_o hw => ?_)
  have hox := dw_or_l hq_o
  have hoy := dw_or_r hq_o
  have hwx := hw.orl
  have hwy := hw.orr hq_o dj
  refine lv_astore_n (lv' := [(3, .ref o), (2, .ref y), (1, .ref x), (0, .ref bs)]) hx hb d_LW_law_19 rfl hl (by decide) rfl (fun ls hl => ?_)
  refine lv_iconst (v := iI (0)) hx hb d_LW_law_20 rfl ?_
  refine lv_istore (lv' := [(4, .int (iI 0)), (3, .ref o), (2, .ref y), (1, .ref x), (0, .ref bs)]) hx hb d_LW_law_21 hl (by decide) rfl (fun ls hl => ?_)
  refine W.widen (k := 30 + 130 * 0) (n := 3000 + 4500 * 0) (by omega) (by omega) ?_
  exact law_loop hL C0 X hlT hz (n + 6) 0 0 [] [] [] [] _ _ _ (by omega) (by omega) (by omega) ⟨fx, fy, _, _, hwx, hwy, dj_up hoy (dj_sw dj), hox, hI, hm⟩ (lv_sub hl [4, 3, 2, 1, 0] rfl)
set_option maxHeartbeats 4000000 in
theorem lw_walk (l : Launch) (hlT : l.stackTraces = false) (b : Addr) (xs : List Int32) : MetFree l x (headSpec (Jvm.Cond.code x code maxLocals ret :: tables_1) room_1) (lw_P b xs) (fun _ _ _ _ _ => True) lw_Q := by
  refine MetFree.of_bodyS (code := code) (maxLocals := maxLocals) (ret := ret) (by decide) ?_ ?_
  · intro args s m h hn
    obtain ⟨meth, c, h1, h2, h3, h4, h5, h6, -, -⟩ := Cond.code_spec hn (atoms_spec (ws := Jvm.Cond.code x code maxLocals ret :: tables_1) h _ List.mem_cons_self)
    exact ⟨meth, c, h1, h2, h3, h4, h5, h6⟩
  · intro p e s m args below meth c s₁ B hml0 hP _
    obtain ⟨rfl, hx, hbd, hgv⟩ := hP
    obtain ⟨scr, harrAt, hlist, hof, hsmall⟩ := hx
    obtain ⟨hcb, hkn, -, -⟩ := State.arrayAt?_spec harrAt
    have hown : s.vm.findClass R_law = some m.cls := findClass_of_methodNamed B.named
    have hts0 : ∀ c ∈ (Jvm.Cond.code x code maxLocals ret :: tables_1), c.before #[Value.ref b] s = true := atoms_spec (ws := Jvm.Cond.code x code maxLocals ret :: tables_1) B.pre
    have hts : ∀ w ∈ lw_tbl, w.before #[Value.ref b] s = true := k2_hts_sels lw_privs (fun w hw => hts0 w (List.mem_cons_of_mem _ hw)) lw_privs_ok
    have hml : c.maxLocals = 7 := B.maxLocals_eq (hts0 _ List.mem_cons_self)
    have X₀ : Stand p l e room_1 s m #[Value.ref b] below meth c s₁ [] 0 0 := Stand.of_body B
    have hh0 : s₁.heap = s.heap := by rw [B.state]; rfl
    have hsz : scr.slots.size = xs.length := by rw [← Array.length_toList, hlist, List.length_map]
    have hval : ∀ j : Nat, j < xs.length → scr.slots[j]? = some (.int (xs.getD j 0)) := fun j hj => by
      rw [← Array.getElem?_toList, hlist]
      simp [hj]
    have hbl : b < s.heap.size := (Array.getElem?_eq_some_iff.mp hcb).1
    have hX : va_X b xs.length (fun j => xs.getD j 0) s s.heap := ⟨scr, hcb, hof, hkn, hsz, hval⟩
    have K : W p l e room_1 s m #[Value.ref b] below meth c s₁.heap [] 0 0 (lw_Z below #[Value.ref b] s) (entryFrame m ([Value.ref b] : List Value).toArray 7) := by
      rw [hh0]
      exact whole_start l hlT hbd ⟨B.exec, B.bytes, B.returns, hml, hown, hts, hX, hbl, B.notSynchronized, hgv⟩
    obtain ⟨t, a1, o, b1, b2, b3⟩ := K s₁ rfl X₀
    exact ⟨t, o, a1, b1, b2, b3⟩
theorem lw_pre_spec {args : Array Value} {s : State} (h : (Jvm.Cond.and given_1 narrow_1).before args s = true) (hr : rest_1_c.before args s = true) : ∃ (b : Addr) (xs : List Int32), lw_P b xs args s := by
  have hs := flat_of_before _ h
  have hq := flat_of_before _ hr
  have hc : (Cond.count 1).before args s = true := hs _ (by decide +kernel)
  have harr : (Cond.arrayOf (.arg 0) .int).before args s = true := hs _ (by decide +kernel)
  have hle : (Cond.le (.length (.arg 0)) (.int 2560)).before args s = true := hs _ (by decide +kernel)
  have hlen : (Cond.isInt (.length (.arg 0))).before args s = true := hq _ (by decide +kernel)
  have hall : (Cond.all (.arg 0) (.isInt (.elem (.arg 0) (.index 0)))).before args s = true := hq _ (by decide +kernel)
  obtain ⟨b, xs, hb, hx⟩ := State.ints_of_pre rfl harr hlen hall
  have hsm : xs.length < 2 ^ 31 := hx.choose_spec.2.2.2
  have hev : (Term.length (.arg 0)).eval args s none [] s = some (.int xs.length.toInt32) := hx.length_eval hb
  have hv := Cond.le_ints hev (show (Term.int 2560).eval args s none [] s = some (.int 2560) from rfl)
  have hd : xs.length.toInt32 ≤ 2560 := by
    simpa [Cond.before, Cond.holds, hv] using hle
  have hN : xs.length ≤ 2560 := (Int32.ofNat_le_ofNat hsm (by decide)).mp (show Int32.ofNat xs.length ≤ Int32.ofNat 2560 from hd)
  exact ⟨b, xs, Cond.one_arg hc (show args[0]? = some (.ref b) from hb), hx, hN, h⟩
theorem lw_comes (l : Launch) (hlT : l.stackTraces = false) : Comes l x (Jvm.Cond.code x code maxLocals ret :: tables_1) room_1 (fun tb e args s => Calls_1 tb e args s ∧ rest_1 tb e args s ∧ Pre_1 tb e args s)
    (fun _ _ args s o t => lw_Q args s o t) := by
  intro p e ha hc hk s m args below hf hfit hheap happ hpre
  obtain ⟨b, xs, hP⟩ := lw_pre_spec hpre.2.2 hpre.2.1
  obtain ⟨k, o, h1, h2, h3, hQ⟩ := lw_walk l hlT b xs p e ha hc hk s m args below hf ((Spec.applies_iff_loose hf).mp happ).1 hP trivial
  exact ⟨k, o, h1, h2, h3, hQ⟩
theorem lw_frame {s t : State} {o : Outcome} {args : Array Value} (h : Framed s o t [] room_1.cells room_1.slots) :
    Framed s o t (fieldLocs frame_1_writes args s ++ arrayLocs frame_1_arrays args s ++ staticLocs frame_1_statics s) room_1.cells room_1.slots := h
theorem lw_limb (L : Cond) (hL : ∀ (args : Array Value) (s t : State), L.after args s (.returned (some (.int 1))) t = true) :
    ArmFor flags0 classFile x code maxLocals ret World_1 tables_1 room_1 Calls_1 rest_1 Pre_1
      (fun tb e a s o t => postC L tb e a s o t ∧ Framed s o t (fieldLocs frame_1_writes a s ++ arrayLocs frame_1_arrays a s ++ staticLocs frame_1_statics s) room_1.cells room_1.slots) := by
  intro l hfl _ _ p e ha hc hk s m args below hf hfit hheap happ hpre
  obtain ⟨k, o, h1, h2, h3, rfl, hF⟩ := lw_comes l (by unfold Launch.stackTraces; rw [hfl]; decide +kernel) p e ha hc hk s m args below hf hfit hheap happ hpre
  exact ⟨k, _, h1, h2, h3, hL args s _, lw_frame hF⟩
theorem i_vc : Claimed_1_1 ∧ Claimed_1_2 := ⟨lw_limb limb_1_1 (fun args s t => by simp [limb_1_1, Cond.after, Cond.holds, Cond.value]), lw_limb limb_1_2 (fun args s t => Cond.after_iff.mpr (by
  first | (rw [show limb_1_2 = Cond.eq .result (.int 1) from rfl, Cond.eq_ints (x := 1) (y := 1) rfl rfl]; simp; done) | (simp [limb_1_2, Cond.value, Term.eval]; done)))⟩
