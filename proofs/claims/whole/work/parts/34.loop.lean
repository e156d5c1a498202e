/-! THE CLAIM OUT OF ONE WALK OF THE LAW'S BODY. Your part is whole_start (and what it stands on); all else here is the same for every law, but numbers. -/
def R_law : String := "TextDeskLaw"
def lw_P (b : Addr) (xs : List Int32) (args : Array Value) (s : State) : Prop := args = #[.ref b] ∧ s.IntsAt b xs ∧ xs.length ≤ 2560 ∧ (Jvm.Cond.and given_1 narrow_1).before args s = true
def lw_Q (_ : Array Value) (s : State) (o : Outcome) (t : State) : Prop := o = .returned (some (.int 1)) ∧ Framed s o t [] room_1.cells room_1.slots
def lw_Z (below : List Frame) (a : Array Value) (s : State) : State → Prop := fun t => ∃ o, t.status = .running ∧ Ended t below o ∧ lw_Q a s o t
/-- the law's own end, with 1 on the stack, nothing written that was there before, its room as the claim has it -/
theorem lw_ret {p : Program} {l : Launch} {e : Env} {s : State} {m : MethodId} {below : List Frame} {meth : Method} {c : Code} {b : Nat} (hx : p.tables.exec = Jvm.exec) (hb : c.code = code) (hr : meth.sig.returnType = ret) (hlocks : meth.locks = false) {pc : Nat} {H : Heap} {ls : Array Slot} (hdg : decode code pc = .ok (.ireturn, 1)) : W p l e room_1 s m #[Value.ref b] below meth c H [] room_1.cells room_1.slots (lw_Z below #[Value.ref b] s) (F0 m pc ls [.int 1]) := by
  intro T hT X
  obtain ⟨fs, hret, hrun, hended, hW, hframe⟩ := X.leave (v := some (.int 1)) (hlocks := hlocks) (fun h => by rw [hr] at h; cases h)
  have hmeth' : T.vm.method? m = some meth := X.method'
  refine ⟨T.setFrames fs, ?_, .returned (some (.int 1)), hrun, hended, rfl, ⟨_, rfl⟩, hW, hframe⟩
  jvm_step X.here [X.here.top, hx, hb, hdg, hmeth', hr, ret, narrow_b1]
  (try refine ⟨rfl, ?_⟩); (try refine ⟨rfl, ?_⟩)
  first | (intro acts; rw [hret _ acts rfl rfl rfl]) | rw [hret _ _ rfl rfl rfl]
  exact Steps.refl _
/-- what holds at the law's entry: the machine, the code, the tables' words (any of lw_tbl by 'hts w (by decide +kernel)'), the script of L ints xs at the cell b, what the Statement gives of the start (any of its parts by flat_of_before) -/
def lw_At (p : Program) (s : State) (m : MethodId) (meth : Method) (c : Code) (b L : Nat) (xs : Nat → Int32) : Prop :=
  p.tables.exec = Jvm.exec ∧ c.code = code ∧ meth.sig.returnType = ret ∧ c.maxLocals = 7 ∧ s.vm.findClass R_law = some m.cls ∧ (∀ w ∈ lw_tbl, w.before #[Value.ref b] s = true) ∧ va_X b L xs s s.heap ∧ b < s.heap.size ∧ meth.locks = false ∧ (Jvm.Cond.and given_1 narrow_1).before #[Value.ref b] s = true
set_option maxRecDepth 100000 in
set_option maxHeartbeats 4000000 in
/-- THE LAW'S LOOP -/
theorem law_loop {p : Program} {l : Launch} {e : Env} {s : State} {m : MethodId} {below : List Frame} {meth : Method} {c : Code} {G : ct_G} {bs n x y o : Nat} {gs : Nat → Int32} (hL : n ≤ 2560) (C0 : lw_At p s m meth c bs n gs) (X : cx G "TextDeskLaw" p s m #[Value.ref bs] c b_LW_law 7) (hlT : l.stackTraces = false) (hz : ct_z G (fun q : Nat => s.heap.size ≤ q) s) : ∀ (N j : Nat) (i : Int) (T Y : List (List Int)) (B Z : List Int) (H : Heap) (locs : List Loc) (ls : Array Slot), i = 5 * (j : Int) → (n : Int) + 5 < i + (N : Int) → i ≤ (n : Int) → lwS G (fun q : Nat => s.heap.size ≤ q) s.heap x y o T Y B Z H locs → lv_has ls 7 [(0, .ref bs), (1, .ref x), (2, .ref y), (3, .ref o), (4, .int (iI i))] → W p l e room_1 s m #[Value.ref bs] below meth c H locs (30 + 130 * j) (3000 + 4500 * j) (lw_Z below #[Value.ref bs] s) (F0 m 23 ls []) := by
  obtain ⟨hx, hb, hr, hml, hown, hts, hX, hbl, hlocks, hgv⟩ := C0
  have hn : ¬ (fun q : Nat => s.heap.size ≤ q) bs := Nat.not_le.mpr hbl
  have hC : 30 + 130 * 513 ≤ room_1.cells := Nat.le_of_ble_eq_true rfl
  have hSl : 3000 + 4500 * 513 ≤ room_1.slots := Nat.le_of_ble_eq_true rfl
  intro N
  induction N with
  | zero => intros; omega
  | succ N ih =>
    intro j i T Y B Z H locs ls hij hN hi hS hl
    obtain ⟨fx, fy, g, th, hwx, hwr⟩ := id hS
    refine lv_iload hx hb d_LW_law_23 (lv_at hl 4 rfl) ?_
    refine lv_aload_n hx hb d_LW_law_25 rfl (lv_at hl 0 rfl) ?_
    refine lw_len hx hb hX hbl hn hwx.2.1 d_LW_law_26 ?_
    refine lv_iconst (v := iI (5)) hx hb d_LW_law_27 rfl ?_
    refine di_sub hx hb d_LW_law_28 ?_
    refine di_icmp_gt (tgt := 1475) hx hb d_LW_law_29 (by decide) ⟨by omega, by omega⟩ ⟨by omega, by omega⟩ (fun hq => ?_) (fun hq => ?_)
    · refine lv_iconst (v := 1) hx hb d_LW_law_1475 (by decide) ?_
      refine va_forget (fun q hq => hwx.2.1.2.2 q hq) ?_
      refine W.widen (k := room_1.cells) (n := room_1.slots) (by omega) (by omega) ?_
      exact lw_ret hx hb hr hlocks d_LW_law_1476
    · have hK : ∀ (T Y : List (List Int)) (B Z : List Int) (H : Heap) (locs : List Loc) (ls : Array Slot), lwS G (fun q : Nat => s.heap.size ≤ q) s.heap x y o T Y B Z H locs → lv_has ls 7 [(0, .ref bs), (1, .ref x), (2, .ref y), (3, .ref o), (4, .int (iI i))] → W p l e room_1 s m #[Value.ref bs] below meth c H locs (30 + 130 * j + 130) (3000 + 4500 * j + 4500) (lw_Z below #[Value.ref bs] s) (F0 m 1469 ls []) := by
        intro T Y B Z H locs ls hS hl
        refine lv_iinc (v := iI (i + 5)) (lv' := [(4, .int (iI (i + 5))), (0, .ref bs), (1, .ref x), (2, .ref y), (3, .ref o)]) hx hb d_LW_law_1469 hl (k := 4) rfl (iI_add _ _) (by decide) rfl (fun ls hl => ?_)
        refine lv_goto (tgt := 23) hx hb d_LW_law_1472 (by decide) ?_
        refine W.widen (k := 30 + 130 * (j + 1)) (n := 3000 + 4500 * (j + 1)) (by omega) (by omega) ?_
        exact ih (j + 1) (i + 5) T Y B Z H locs _ (by omega) (by omega) (by omega) hS (lv_sub hl [1, 2, 3, 4, 0] rfl)
      obtain ⟨u0, e_u0⟩ : ∃ u : Int, u = (gs i.toNat).toInt := ⟨_, rfl⟩
      refine lv_aload_n hx hb d_LW_law_32 rfl (lv_at hl 0 rfl) ?_
      refine lv_iload hx hb d_LW_law_33 (lv_at hl 4 rfl) ?_
      refine lw_read hx hb hX hbl hn hwx.2.1 (i := i) (by omega) (by omega) (by omega) e_u0 d_LW_law_35 ?_
      refine lv_bipush (v := iI (31)) hx hb d_LW_law_36 rfl ?_
      refine lv_iand hx hb d_LW_law_38 ?_
      obtain ⟨z, hz1, hz2, ez⟩ := iI_of (iI u0 &&& iI 31)
      rw [ez]
      have hR : 100 ≤ room_1.frames ∧ 3000 ≤ room_1.locals := ⟨Nat.le_of_ble_eq_true rfl, Nat.le_of_ble_eq_true rfl⟩
      have hf : 30 + 130 * j + 130 ≤ room_1.cells ∧ 3000 + 4500 * j + 4500 ≤ room_1.slots := ⟨by omega, by omega⟩
      clear ez
      rcases (show (z < 0 ∨ 21 < z) ∨ z = 0 ∨ z = 1 ∨ z = 2 ∨ z = 3 ∨ z = 4 ∨ z = 5 ∨ z = 6 ∨ z = 7 ∨ z = 8 ∨ z = 9 ∨ z = 10 ∨ z = 11 ∨ z = 12 ∨ z = 13 ∨ z = 14 ∨ z = 15 ∨ z = 16 ∨ z = 17 ∨ z = 18 ∨ z = 19 ∨ z = 20 ∨ z = 21 by omega) with hq9 | rfl | rfl | rfl | rfl | rfl | rfl | rfl | rfl | rfl | rfl | rfl | rfl | rfl | rfl | rfl | rfl | rfl | rfl | rfl | rfl | rfl | rfl
      · refine lv_tableOut (tgt := 1469) hx hb d_LW_law_39 (by rw [iI_T hz1 hz2]; omega) (by decide) ?_
        refine W.widen (k := 30 + 130 * j + 130) (n := 3000 + 4500 * j + 4500) (by omega) (by omega) ?_
        exact hK T Y B Z H locs ls hS hl
      · refine lv_tableIn (off := 101) (tgt := 140) hx hb d_LW_law_39 (by decide) (by decide) rfl (by decide) ?_
        exact lk_unit X hlT hz hX hbl hn (by omega) (by omega) (by omega) hS hl hR hf hK
      · refine lv_tableIn (off := 157) (tgt := 196) hx hb d_LW_law_39 (by decide) (by decide) rfl (by decide) ?_
        exact lk_insert X hlT hz hX hbl hn (by omega) (by omega) (by omega) hS hl hR hf hK
      · refine lv_tableIn (off := 225) (tgt := 264) hx hb d_LW_law_39 (by decide) (by decide) rfl (by decide) ?_
        exact lk_delete X hlT hz hX hbl hn (by omega) (by omega) (by omega) hS hl hR hf hK
      · refine lv_tableIn (off := 273) (tgt := 312) hx hb d_LW_law_39 (by decide) (by decide) rfl (by decide) ?_
        exact lk_reverse X hlT hz hX hbl hn (by omega) (by omega) (by omega) hS hl hR hf hK
      · refine lv_tableIn (off := 284) (tgt := 323) hx hb d_LW_law_39 (by decide) (by decide) rfl (by decide) ?_
        exact lk_built X hlT hz hX hbl hn (by omega) (by omega) (by omega) hS hl hR hf hK
      · refine lv_tableIn (off := 340) (tgt := 379) hx hb d_LW_law_39 (by decide) (by decide) rfl (by decide) ?_
        exact lk_take X hlT hz hX hbl hn (by omega) (by omega) (by omega) hS hl hR hf hK
      · refine lv_tableIn (off := 384) (tgt := 423) hx hb d_LW_law_39 (by decide) (by decide) rfl (by decide) ?_
        exact lk_join X hlT hz hX hbl hn (by omega) (by omega) (by omega) hS hl hR hf hK
      · refine lv_tableIn (off := 452) (tgt := 491) hx hb d_LW_law_39 (by decide) (by decide) rfl (by decide) ?_
        exact lk_part X hlT hz hX hbl hn (by omega) (by omega) (by omega) hS hl hR hf hK
      · refine lv_tableIn (off := 532) (tgt := 571) hx hb d_LW_law_39 (by decide) (by decide) rfl (by decide) ?_
        exact lk_replace X hlT hz hX hbl hn (by omega) (by omega) (by omega) hS hl hR hf hK
      · refine lv_tableIn (off := 612) (tgt := 651) hx hb d_LW_law_39 (by decide) (by decide) rfl (by decide) ?_
        exact lk_strip X hlT hz hX hbl hn (by omega) (by omega) (by omega) hS hl hR hf hK
      · refine lv_tableIn (off := 668) (tgt := 707) hx hb d_LW_law_39 (by decide) (by decide) rfl (by decide) ?_
        exact lk_at X hlT hz hX hbl hn (by omega) (by omega) (by omega) hS hl hR hf hK
      · refine lv_tableIn (off := 736) (tgt := 775) hx hb d_LW_law_39 (by decide) (by decide) rfl (by decide) ?_
        exact lk_character X hlT hz hX hbl hn (by omega) (by omega) (by omega) hS hl hR hf hK
      · refine lv_tableIn (off := 804) (tgt := 843) hx hb d_LW_law_39 (by decide) (by decide) rfl (by decide) ?_
        exact lk_narrow X hlT hz hX hbl hn (by omega) (by omega) (by omega) hS hl hR hf hK
      · refine lv_tableIn (off := 867) (tgt := 906) hx hb d_LW_law_39 (by decide) (by decide) rfl (by decide) ?_
        exact lk_hash X hlT hz hX hbl hn (by omega) (by omega) (by omega) hS hl hR hf hK
      · refine lv_tableIn (off := 923) (tgt := 962) hx hb d_LW_law_39 (by decide) (by decide) rfl (by decide) ?_
        exact lk_compare X hlT hz hX hbl hn (by omega) (by omega) (by omega) hS hl hR hf hK
      · refine lv_tableIn (off := 991) (tgt := 1030) hx hb d_LW_law_39 (by decide) (by decide) rfl (by decide) ?_
        exact lk_find X hlT hz hX hbl hn (by omega) (by omega) (by omega) hS hl hR hf hK
      · refine lv_tableIn (off := 1099) (tgt := 1138) hx hb d_LW_law_39 (by decide) (by decide) rfl (by decide) ?_
        exact lk_symbol X hlT hz hX hbl hn (by omega) (by omega) (by omega) hS hl hR hf hK
      · refine lv_tableIn (off := 1155) (tgt := 1194) hx hb d_LW_law_39 (by decide) (by decide) rfl (by decide) ?_
        exact lk_encode X hlT hz hX hbl hn (by omega) (by omega) (by omega) hS hl hR hf hK
      · refine lv_tableIn (off := 1223) (tgt := 1262) hx hb d_LW_law_39 (by decide) (by decide) rfl (by decide) ?_
        exact lk_type X hlT hz hX hbl hn (by omega) (by omega) (by omega) hS hl hR hf hK
      · refine lv_tableIn (off := 1279) (tgt := 1318) hx hb d_LW_law_39 (by decide) (by decide) rfl (by decide) ?_
        exact lk_decode X hlT hz hX hbl hn (by omega) (by omega) (by omega) hS hl hR hf hK
      · refine lv_tableIn (off := 1363) (tgt := 1402) hx hb d_LW_law_39 (by decide) (by decide) rfl (by decide) ?_
        exact lk_octet X hlT hz hX hbl hn (by omega) (by omega) (by omega) hS hl hR hf hK
      · refine lv_tableIn (off := 1419) (tgt := 1458) hx hb d_LW_law_39 (by decide) (by decide) rfl (by decide) ?_
        exact lk_clear X hlT hz hX hbl hn (by omega) (by omega) (by omega) hS hl hR hf hK
