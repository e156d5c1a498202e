def L_IAE : List Cond := vx_atS "TextDesk" 45 "java/lang/IllegalArgumentException" ["java/lang/RuntimeException", "java/lang/Exception"]
theorem L_IAE_in : ∀ w ∈ L_IAE.filter goodWord, w ∈ lw_tbl := by decide +kernel
theorem L_IAE_x : ∀ w ∈ L_IAE.filter (fun w => !goodWord w), w ∈ Cond.castable "java/lang/IllegalArgumentException" "java/lang/IllegalArgumentException" :: dk_dcl.map Cond.declares := by decide +kernel
theorem L_IAE_g : ∀ w ∈ Cond.classLink "TextDesk" 41 "java/lang/IllegalArgumentException" :: Cond.initialized "java/lang/IllegalArgumentException" :: L_IAE, vx_ot w = true := by decide +kernel
def L_ISE : List Cond := vx_atS "TextDesk" 56 "java/lang/IllegalStateException" ["java/lang/RuntimeException", "java/lang/Exception"]
theorem L_ISE_in : ∀ w ∈ L_ISE.filter goodWord, w ∈ lw_tbl := by decide +kernel
theorem L_ISE_x : ∀ w ∈ L_ISE.filter (fun w => !goodWord w), w ∈ Cond.castable "java/lang/IllegalStateException" "java/lang/IllegalStateException" :: dk_dcl.map Cond.declares := by decide +kernel
theorem L_ISE_g : ∀ w ∈ Cond.classLink "TextDesk" 52 "java/lang/IllegalStateException" :: Cond.initialized "java/lang/IllegalStateException" :: L_ISE, vx_ot w = true := by decide +kernel
def L_IOB : List Cond := vx_atS "TextDesk" 130 "java/lang/IndexOutOfBoundsException" ["java/lang/RuntimeException", "java/lang/Exception"]
theorem L_IOB_in : ∀ w ∈ L_IOB.filter goodWord, w ∈ lw_tbl := by decide +kernel
theorem L_IOB_x : ∀ w ∈ L_IOB.filter (fun w => !goodWord w), w ∈ Cond.castable "java/lang/IndexOutOfBoundsException" "java/lang/IndexOutOfBoundsException" :: dk_dcl.map Cond.declares := by decide +kernel
theorem L_IOB_g : ∀ w ∈ Cond.classLink "TextDesk" 126 "java/lang/IndexOutOfBoundsException" :: Cond.initialized "java/lang/IndexOutOfBoundsException" :: L_IOB, vx_ot w = true := by decide +kernel
def L_UOE : List Cond := vx_atS "TextDesk" 168 "java/lang/UnsupportedOperationException" ["java/lang/RuntimeException", "java/lang/Exception"]
theorem L_UOE_in : ∀ w ∈ L_UOE.filter goodWord, w ∈ lw_tbl := by decide +kernel
theorem L_UOE_x : ∀ w ∈ L_UOE.filter (fun w => !goodWord w), w ∈ Cond.castable "java/lang/UnsupportedOperationException" "java/lang/UnsupportedOperationException" :: dk_dcl.map Cond.declares := by decide +kernel
theorem L_UOE_g : ∀ w ∈ Cond.classLink "TextDesk" 164 "java/lang/UnsupportedOperationException" :: Cond.initialized "java/lang/UnsupportedOperationException" :: L_UOE, vx_ot w = true := by decide +kernel
section TH
variable {p : Program} {l : Launch} {e : Env} {R : Room} {s : State} {m : MethodId} {args : Array Value} {below : List Frame} {meth : Method} {c : Code} {H : Heap} {locs : List Loc} {cells slots : Nat} {Q : State → Prop}
variable {cc : ByteArray} {pc nL : Nat} {ls : Array Slot} {rest : List Value} {G : ct_G} {A : Nat → Prop} {a b : Nat} {f : dw_M} {H0 : Heap} {fr lo mc ms : Nat} {post : Option Value → dw_M → Prop} {px : String → dw_M → Prop}
variable {f0 : dw_M} {sz : Nat}
theorem th_IAE (X : cx G "TextDesk" p s m args c cc nL) (hlT : l.stackTraces = false) (hz : ct_z G (dw_A f0 sz) s) {is : Nat} {text : String} (hstr : ("TextDesk", is, text) ∈ dk_strs) (hw : dw G.1 dk_cl (dw_A f0 sz) s.heap f H locs) (hls : ls.size = nL) (hout : ∀ x ∈ c.exceptionTable.toList, False) (hlk : meth.locks = false) (hp : px "java/lang/IllegalArgumentException" f) (hR : 8 ≤ R.frames ∧ 120 ≤ R.locals) (hRc : cells + 1 ≤ R.cells ∧ slots + 6 ≤ R.slots) (hc : cells + 1 ≤ mc ∧ slots + 6 ≤ ms) (hW : (rest.map fun v => v.category).sum ≤ 8)
    (d0 : decode cc pc = .ok (.new 41, 3)) (d3 : decode cc (pc + 3) = .ok (.dup, 1)) (d4 : decode cc (pc + 4) = .ok (.ldc is, 2)) (d6 : decode cc (pc + 6) = .ok (.invokespecial 45, 3)) (d9 : decode cc (pc + 9) = .ok (.athrow, 1)) :
    W p l e R s m args below meth c H locs cells slots (vx_MQ below (ct_Q G f0 sz post) (ct_X G f0 sz px) args s mc ms (dw_A f0 sz)) (F0 m pc ls rest) := by
  obtain ⟨sa, hsa⟩ := X.E.2.2.1 _ hstr
  have hat : ∀ w ∈ L_IAE, w.before args s = true := vx_hat (fun w hw9 => X.hts w (List.mem_filter.mpr ⟨L_IAE_in w hw9, (List.mem_filter.mp hw9).2⟩)) L_IAE_x (fun w hw9 => by
    rcases List.mem_cons.mp hw9 with rfl | h9
    · exact va_Nw.use rfl (X.E.2.2.2.2.2.1 ("java/lang/IllegalArgumentException", "java/lang/IllegalArgumentException") (by decide +kernel))
    · obtain ⟨x9, hx9, rfl⟩ := List.mem_map.mp h9
      exact va_Nw.use rfl (X.E.2.2.2.2.1 x9 hx9))
  refine vx_throwS (names := ["java/lang/RuntimeException", "java/lang/Exception"]) (sa := sa) X.1 X.2.1 hlT X.own (by decide +kernel) (by decide +kernel) (X.hts _ mw_134) (X.hts _ mw_10) hsa hat L_IAE_g (X.E.2.1.1.narrow hz.1) (X.E.2.1.2.narrow hz.1) hw.2.1 (hls.trans X.2.2.1.symm) d0 d3 d4 d6 d9 (fun x hx => (hout x hx).elim) (by show 2 + 3 < _; omega) (by show _ + (13 * (2 + 1) + 43) ≤ _; omega) hRc.1 hRc.2 hlk (fun t ht h1 h2 => ⟨f, hp, fun a x h => ⟨(hw.1 a x h).1.kept (h2 a (hw.lt h)), (hw.1 a x h).2⟩, ?_⟩) hw.2.1.2.2 hc.1 hc.2
  exact ⟨Nat.le_trans hw.2.1.1 h1, fun q h8 h9 => (h2 q (Nat.lt_of_lt_of_le h8 hw.2.1.1)).trans (hw.2.1.2.1 q h8 h9)⟩
theorem th_ISE (X : cx G "TextDesk" p s m args c cc nL) (hlT : l.stackTraces = false) (hz : ct_z G (dw_A f0 sz) s) {is : Nat} {text : String} (hstr : ("TextDesk", is, text) ∈ dk_strs) (hw : dw G.1 dk_cl (dw_A f0 sz) s.heap f H locs) (hls : ls.size = nL) (hout : ∀ x ∈ c.exceptionTable.toList, False) (hlk : meth.locks = false) (hp : px "java/lang/IllegalStateException" f) (hR : 8 ≤ R.frames ∧ 120 ≤ R.locals) (hRc : cells + 1 ≤ R.cells ∧ slots + 6 ≤ R.slots) (hc : cells + 1 ≤ mc ∧ slots + 6 ≤ ms) (hW : (rest.map fun v => v.category).sum ≤ 8)
    (d0 : decode cc pc = .ok (.new 52, 3)) (d3 : decode cc (pc + 3) = .ok (.dup, 1)) (d4 : decode cc (pc + 4) = .ok (.ldc is, 2)) (d6 : decode cc (pc + 6) = .ok (.invokespecial 56, 3)) (d9 : decode cc (pc + 9) = .ok (.athrow, 1)) :
    W p l e R s m args below meth c H locs cells slots (vx_MQ below (ct_Q G f0 sz post) (ct_X G f0 sz px) args s mc ms (dw_A f0 sz)) (F0 m pc ls rest) := by
  obtain ⟨sa, hsa⟩ := X.E.2.2.1 _ hstr
  have hat : ∀ w ∈ L_ISE, w.before args s = true := vx_hat (fun w hw9 => X.hts w (List.mem_filter.mpr ⟨L_ISE_in w hw9, (List.mem_filter.mp hw9).2⟩)) L_ISE_x (fun w hw9 => by
    rcases List.mem_cons.mp hw9 with rfl | h9
    · exact va_Nw.use rfl (X.E.2.2.2.2.2.1 ("java/lang/IllegalStateException", "java/lang/IllegalStateException") (by decide +kernel))
    · obtain ⟨x9, hx9, rfl⟩ := List.mem_map.mp h9
      exact va_Nw.use rfl (X.E.2.2.2.2.1 x9 hx9))
  refine vx_throwS (names := ["java/lang/RuntimeException", "java/lang/Exception"]) (sa := sa) X.1 X.2.1 hlT X.own (by decide +kernel) (by decide +kernel) (X.hts _ mw_207) (X.hts _ mw_11) hsa hat L_ISE_g (X.E.2.1.1.narrow hz.1) (X.E.2.1.2.narrow hz.1) hw.2.1 (hls.trans X.2.2.1.symm) d0 d3 d4 d6 d9 (fun x hx => (hout x hx).elim) (by show 2 + 3 < _; omega) (by show _ + (13 * (2 + 1) + 43) ≤ _; omega) hRc.1 hRc.2 hlk (fun t ht h1 h2 => ⟨f, hp, fun a x h => ⟨(hw.1 a x h).1.kept (h2 a (hw.lt h)), (hw.1 a x h).2⟩, ?_⟩) hw.2.1.2.2 hc.1 hc.2
  exact ⟨Nat.le_trans hw.2.1.1 h1, fun q h8 h9 => (h2 q (Nat.lt_of_lt_of_le h8 hw.2.1.1)).trans (hw.2.1.2.1 q h8 h9)⟩
theorem th_IOB (X : cx G "TextDesk" p s m args c cc nL) (hlT : l.stackTraces = false) (hz : ct_z G (dw_A f0 sz) s) {is : Nat} {text : String} (hstr : ("TextDesk", is, text) ∈ dk_strs) (hw : dw G.1 dk_cl (dw_A f0 sz) s.heap f H locs) (hls : ls.size = nL) (hout : ∀ x ∈ c.exceptionTable.toList, False) (hlk : meth.locks = false) (hp : px "java/lang/IndexOutOfBoundsException" f) (hR : 8 ≤ R.frames ∧ 120 ≤ R.locals) (hRc : cells + 1 ≤ R.cells ∧ slots + 6 ≤ R.slots) (hc : cells + 1 ≤ mc ∧ slots + 6 ≤ ms) (hW : (rest.map fun v => v.category).sum ≤ 8)
    (d0 : decode cc pc = .ok (.new 126, 3)) (d3 : decode cc (pc + 3) = .ok (.dup, 1)) (d4 : decode cc (pc + 4) = .ok (.ldc is, 2)) (d6 : decode cc (pc + 6) = .ok (.invokespecial 130, 3)) (d9 : decode cc (pc + 9) = .ok (.athrow, 1)) :
    W p l e R s m args below meth c H locs cells slots (vx_MQ below (ct_Q G f0 sz post) (ct_X G f0 sz px) args s mc ms (dw_A f0 sz)) (F0 m pc ls rest) := by
  obtain ⟨sa, hsa⟩ := X.E.2.2.1 _ hstr
  have hat : ∀ w ∈ L_IOB, w.before args s = true := vx_hat (fun w hw9 => X.hts w (List.mem_filter.mpr ⟨L_IOB_in w hw9, (List.mem_filter.mp hw9).2⟩)) L_IOB_x (fun w hw9 => by
    rcases List.mem_cons.mp hw9 with rfl | h9
    · exact va_Nw.use rfl (X.E.2.2.2.2.2.1 ("java/lang/IndexOutOfBoundsException", "java/lang/IndexOutOfBoundsException") (by decide +kernel))
    · obtain ⟨x9, hx9, rfl⟩ := List.mem_map.mp h9
      exact va_Nw.use rfl (X.E.2.2.2.2.1 x9 hx9))
  refine vx_throwS (names := ["java/lang/RuntimeException", "java/lang/Exception"]) (sa := sa) X.1 X.2.1 hlT X.own (by decide +kernel) (by decide +kernel) (X.hts _ mw_349) (X.hts _ mw_15) hsa hat L_IOB_g (X.E.2.1.1.narrow hz.1) (X.E.2.1.2.narrow hz.1) hw.2.1 (hls.trans X.2.2.1.symm) d0 d3 d4 d6 d9 (fun x hx => (hout x hx).elim) (by show 2 + 3 < _; omega) (by show _ + (13 * (2 + 1) + 43) ≤ _; omega) hRc.1 hRc.2 hlk (fun t ht h1 h2 => ⟨f, hp, fun a x h => ⟨(hw.1 a x h).1.kept (h2 a (hw.lt h)), (hw.1 a x h).2⟩, ?_⟩) hw.2.1.2.2 hc.1 hc.2
  exact ⟨Nat.le_trans hw.2.1.1 h1, fun q h8 h9 => (h2 q (Nat.lt_of_lt_of_le h8 hw.2.1.1)).trans (hw.2.1.2.1 q h8 h9)⟩
theorem th_UOE (X : cx G "TextDesk" p s m args c cc nL) (hlT : l.stackTraces = false) (hz : ct_z G (dw_A f0 sz) s) {is : Nat} {text : String} (hstr : ("TextDesk", is, text) ∈ dk_strs) (hw : dw G.1 dk_cl (dw_A f0 sz) s.heap f H locs) (hls : ls.size = nL) (hout : ∀ x ∈ c.exceptionTable.toList, False) (hlk : meth.locks = false) (hp : px "java/lang/UnsupportedOperationException" f) (hR : 8 ≤ R.frames ∧ 120 ≤ R.locals) (hRc : cells + 1 ≤ R.cells ∧ slots + 6 ≤ R.slots) (hc : cells + 1 ≤ mc ∧ slots + 6 ≤ ms) (hW : (rest.map fun v => v.category).sum ≤ 8)
    (d0 : decode cc pc = .ok (.new 164, 3)) (d3 : decode cc (pc + 3) = .ok (.dup, 1)) (d4 : decode cc (pc + 4) = .ok (.ldc is, 2)) (d6 : decode cc (pc + 6) = .ok (.invokespecial 168, 3)) (d9 : decode cc (pc + 9) = .ok (.athrow, 1)) :
    W p l e R s m args below meth c H locs cells slots (vx_MQ below (ct_Q G f0 sz post) (ct_X G f0 sz px) args s mc ms (dw_A f0 sz)) (F0 m pc ls rest) := by
  obtain ⟨sa, hsa⟩ := X.E.2.2.1 _ hstr
  have hat : ∀ w ∈ L_UOE, w.before args s = true := vx_hat (fun w hw9 => X.hts w (List.mem_filter.mpr ⟨L_UOE_in w hw9, (List.mem_filter.mp hw9).2⟩)) L_UOE_x (fun w hw9 => by
    rcases List.mem_cons.mp hw9 with rfl | h9
    · exact va_Nw.use rfl (X.E.2.2.2.2.2.1 ("java/lang/UnsupportedOperationException", "java/lang/UnsupportedOperationException") (by decide +kernel))
    · obtain ⟨x9, hx9, rfl⟩ := List.mem_map.mp h9
      exact va_Nw.use rfl (X.E.2.2.2.2.1 x9 hx9))
  refine vx_throwS (names := ["java/lang/RuntimeException", "java/lang/Exception"]) (sa := sa) X.1 X.2.1 hlT X.own (by decide +kernel) (by decide +kernel) (X.hts _ mw_617) (X.hts _ mw_18) hsa hat L_UOE_g (X.E.2.1.1.narrow hz.1) (X.E.2.1.2.narrow hz.1) hw.2.1 (hls.trans X.2.2.1.symm) d0 d3 d4 d6 d9 (fun x hx => (hout x hx).elim) (by show 2 + 3 < _; omega) (by show _ + (13 * (2 + 1) + 43) ≤ _; omega) hRc.1 hRc.2 hlk (fun t ht h1 h2 => ⟨f, hp, fun a x h => ⟨(hw.1 a x h).1.kept (h2 a (hw.lt h)), (hw.1 a x h).2⟩, ?_⟩) hw.2.1.2.2 hc.1 hc.2
  exact ⟨Nat.le_trans hw.2.1.1 h1, fun q h8 h9 => (h2 q (Nat.lt_of_lt_of_le h8 hw.2.1.1)).trans (hw.2.1.2.1 q h8 h9)⟩
end TH
