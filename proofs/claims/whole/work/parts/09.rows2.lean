section R2
variable {p : Program} {l : Launch} {e : Env} {R : Room} {s : State} {m : MethodId} {args : Array Value} {below : List Frame} {meth : Method} {c : Code} {H : Heap} {locs : List Loc} {cells slots : Nat} {Q : State → Prop}
variable {cc : ByteArray} {pc nL : Nat} {ls : Array Slot} {rest : List Value} {G : ct_G} {A : Nat → Prop} {a b : Nat} {f : dw_M} {H0 : Heap} {fr lo mc ms : Nat} {post : Option Value → dw_M → Prop} {px : String → dw_M → Prop}
theorem mm_max : Cond.static Lib.Math.max.name ∈ dk_all ∧ Cond.initialized "java/lang/Math" ∈ dk_all ∧ Cond.code Lib.Math.max.name Lib.Math.max.code 2 (some .int) ∈ dk_all := ⟨mw_39, mw_4, mw_40⟩
theorem mm_min : Cond.static Lib.Math.min.name ∈ dk_all ∧ Cond.initialized "java/lang/Math" ∈ dk_all ∧ Cond.code Lib.Math.min.name Lib.Math.min.code 2 (some .int) ∈ dk_all := ⟨mw_250, mw_4, mw_251⟩
theorem di_max {own : String} (X : cx G own p s m args c cc nL) (hls : ls.size = nL) {idx : Nat} (hlink : Cond.methodLink own idx Lib.Math.max.name ∈ dk_all) {x y : Int} (hx1 : iR x) (hy : iR y) {z : Int} (hm : (if x < y then y else x) = z) (hframes : 1 ≤ R.frames) (hlocals : (rest.map fun v => v.category).sum + 13 ≤ R.locals) (hc : cells ≤ R.cells) (hs : slots ≤ R.slots) (hdg : decode cc pc = .ok (.invokestatic idx, 3))
    (kk : W p l e R s m args below meth c H locs cells slots Q (F0 m (pc + 3) ls (.int (iI z) :: rest))) : W p l e R s m args below meth c H locs cells slots Q (F0 m pc ls (.int (iI y) :: .int (iI x) :: rest)) := by
  subst hm
  refine va_mmax X.1 X.2.1 (X.2.2.1.trans hls.symm) X.own (X.hts _ hlink) (X.hts _ mm_max.1) (X.hts _ mm_max.2.1) (X.hts _ mm_max.2.2) hframes hlocals hc hs hdg ?_
  have e : (if iI x < iI y then iI y else iI x) = iI (if x < y then y else x) := by
    by_cases h : x < y
    · rw [if_pos h, if_pos ((iI_lt hx1 hy).mpr h)]
    · rw [if_neg h, if_neg (fun q => h ((iI_lt hx1 hy).mp q))]
  rw [e]
  exact kk
theorem di_min {own : String} (X : cx G own p s m args c cc nL) (hls : ls.size = nL) {idx : Nat} (hlink : Cond.methodLink own idx Lib.Math.min.name ∈ dk_all) {x y : Int} (hx1 : iR x) (hy : iR y) {z : Int} (hm : (if y < x then y else x) = z) (hframes : 1 ≤ R.frames) (hlocals : (rest.map fun v => v.category).sum + 13 ≤ R.locals) (hc : cells ≤ R.cells) (hs : slots ≤ R.slots) (hdg : decode cc pc = .ok (.invokestatic idx, 3))
    (kk : W p l e R s m args below meth c H locs cells slots Q (F0 m (pc + 3) ls (.int (iI z) :: rest))) : W p l e R s m args below meth c H locs cells slots Q (F0 m pc ls (.int (iI y) :: .int (iI x) :: rest)) := by
  subst hm
  refine va_mmin X.1 X.2.1 (X.2.2.1.trans hls.symm) X.own (X.hts _ hlink) (X.hts _ mm_min.1) (X.hts _ mm_min.2.1) (X.hts _ mm_min.2.2) hframes hlocals hc hs hdg ?_
  have e : (if iI y < iI x then iI y else iI x) = iI (if y < x then y else x) := by
    by_cases h : y < x
    · rw [if_pos h, if_pos ((iI_lt hy hx1).mpr h)]
    · rw [if_neg h, if_neg (fun q => h ((iI_lt hy hx1).mp q))]
  rw [e]
  exact kk
theorem di_obj {own : String} (X : cx G own p s m args c cc nL) (hls : ls.size = nL) {idx : Nat} (hlink : Cond.methodLink own idx Lib.objectInit ∈ dk_all) (hframes : 1 ≤ R.frames) (hlocals : (rest.map fun v => v.category).sum + 12 ≤ R.locals) (hdg : decode cc pc = .ok (.invokespecial idx, 3))
    (kk : W p l e R s m args below meth c H locs cells slots Q (F0 m (pc + 3) ls rest)) : W p l e R s m args below meth c H locs cells slots Q (F0 m pc ls (.ref a :: rest)) :=
  W.objInit X.1 X.2.1 X.own (X.hts _ hlink) (X.hts _ mw_25) (X.hts _ mw_26) rfl (hls.trans X.2.2.1.symm) rfl hdg hframes (by show 2 * 0 + _ + 12 ≤ _; omega) kk
theorem na_int {own : String} (X : cx G own p s m args c cc nL) (hw : dw G.1 dk_cl A H0 f H locs) {z : Int} {N : Nat} (hz : z = (N : Int)) (h2 : N < 100000) (hcells : cells + 1 ≤ R.cells) (hslots : slots + N ≤ R.slots) (hdg : decode cc pc = .ok (.newarray .int, 2))
    (kk : ∀ (q : Nat) (H1 : Heap), f q = none → dw G.1 dk_cl A H0 (dw_up f q (.inl (G.2.1 0, (N, .inl (fun _ => iI 0))))) H1 locs → W p l e R s m args below meth c H1 locs (cells + 1) (slots + N) Q (F0 m (pc + 2) ls (.ref q :: rest))) : W p l e R s m args below meth c H locs cells slots Q (F0 m pc ls (.int (iI z) :: rest)) :=
  dw_newa (ty := .int) (atype := .int) X.1 X.2.1 (X.hts _ mw_51) rfl X.K 0 (X.K.2 0 _ rfl).2 hw (a0 := (N, .inl (fun _ => iI 0))) (fun cA => by rw [vp_cell_i]; rfl) hz (by omega) (by show N * _ ≤ _; simp only [componentBytes]; omega) hcells hslots hdg kk
theorem na_byte {own : String} (X : cx G own p s m args c cc nL) (hw : dw G.1 dk_cl A H0 f H locs) {z : Int} {N : Nat} (hz : z = (N : Int)) (h2 : N < 100000) (hcells : cells + 1 ≤ R.cells) (hslots : slots + N ≤ R.slots) (hdg : decode cc pc = .ok (.newarray .byte, 2))
    (kk : ∀ (q : Nat) (H1 : Heap), f q = none → dw G.1 dk_cl A H0 (dw_up f q (.inl (G.2.1 1, (N, .inl (fun _ => iI 0))))) H1 locs → W p l e R s m args below meth c H1 locs (cells + 1) (slots + N) Q (F0 m (pc + 2) ls (.ref q :: rest))) : W p l e R s m args below meth c H locs cells slots Q (F0 m pc ls (.int (iI z) :: rest)) :=
  dw_newa (ty := .byte) (atype := .byte) X.1 X.2.1 (X.hts _ mw_202) rfl X.K 1 (X.K.2 1 _ rfl).2 hw (a0 := (N, .inl (fun _ => iI 0))) (fun cA => by rw [vp_cell_i]; rfl) hz (by omega) (by show N * _ ≤ _; simp only [componentBytes]; omega) hcells hslots hdg kk
theorem na_char {own : String} (X : cx G own p s m args c cc nL) (hw : dw G.1 dk_cl A H0 f H locs) {z : Int} {N : Nat} (hz : z = (N : Int)) (h2 : N < 100000) (hcells : cells + 1 ≤ R.cells) (hslots : slots + N ≤ R.slots) (hdg : decode cc pc = .ok (.newarray .char, 2))
    (kk : ∀ (q : Nat) (H1 : Heap), f q = none → dw G.1 dk_cl A H0 (dw_up f q (.inl (G.2.1 2, (N, .inl (fun _ => iI 0))))) H1 locs → W p l e R s m args below meth c H1 locs (cells + 1) (slots + N) Q (F0 m (pc + 2) ls (.ref q :: rest))) : W p l e R s m args below meth c H locs cells slots Q (F0 m pc ls (.int (iI z) :: rest)) :=
  dw_newa (ty := .char) (atype := .char) X.1 X.2.1 (X.hts _ mw_300) rfl X.K 2 (X.K.2 2 _ rfl).2 hw (a0 := (N, .inl (fun _ => iI 0))) (fun cA => by rw [vp_cell_i]; rfl) hz (by omega) (by show N * _ ≤ _; simp only [componentBytes]; omega) hcells hslots hdg kk
theorem na_long {own : String} (X : cx G own p s m args c cc nL) (hw : dw G.1 dk_cl A H0 f H locs) {z : Int} {N : Nat} (hz : z = (N : Int)) (h2 : N < 100000) (hcells : cells + 1 ≤ R.cells) (hslots : slots + N ≤ R.slots) (hdg : decode cc pc = .ok (.newarray .long, 2))
    (kk : ∀ (q : Nat) (H1 : Heap), f q = none → dw G.1 dk_cl A H0 (dw_up f q (.inl (G.2.1 4, (N, .inr (.inl (fun _ => (0 : Int64))))))) H1 locs → W p l e R s m args below meth c H1 locs (cells + 1) (slots + N) Q (F0 m (pc + 2) ls (.ref q :: rest))) : W p l e R s m args below meth c H locs cells slots Q (F0 m pc ls (.int (iI z) :: rest)) :=
  dw_newa (ty := .long) (atype := .long) X.1 X.2.1 (X.hts _ mw_874) rfl X.K 4 (X.K.2 4 _ rfl).2 hw (a0 := (N, .inr (.inl (fun _ => (0 : Int64))))) (fun cA => by rw [vp_cell_l]; rfl) hz (by omega) (by show N * _ ≤ _; simp only [componentBytes]; omega) hcells hslots hdg kk
theorem nq_DK_9 (X : cx G "TextDesk" p s m args c cc nL) (hw : dw G.1 dk_cl A H0 f H locs) {z : Int} {N : Nat} (hz : z = (N : Int)) (h2 : N < 100000) (hcells : cells + 1 ≤ R.cells) (hslots : slots + N ≤ R.slots) (hdg : decode cc pc = .ok (.anewarray 9, 3))
    (kk : ∀ (q : Nat) (H1 : Heap), f q = none → dw G.1 dk_cl A H0 (dw_up f q (.inl (G.2.1 3, N, .inr (.inr (.inr (.inr (fun _ => none))))))) H1 locs → W p l e R s m args below meth c H1 locs (cells + 1) (slots + N) Q (F0 m (pc + 3) ls (.ref q :: rest))) : W p l e R s m args below meth c H locs cells slots Q (F0 m pc ls (.int (iI z) :: rest)) :=
  dw_newq (C := "TextDesk$Text") X.1 X.2.1 X.own (X.hts _ mw_27) (X.E.2.2.2.2.2.2.1 "TextDesk$Text" (by decide +kernel)) (by obtain ⟨kA, comp, -, -, -, h9⟩ := (X.K.2 3 _ rfl).2; exact h9) hw hz (by omega) (by omega) hcells hslots hdg kk
theorem nw_DK_18 (X : cx G "TextDesk" p s m args c cc nL) (hw : dw G.1 dk_cl A H0 f H locs) (hcells : cells + 1 ≤ R.cells) (hslots : slots + 3 ≤ R.slots) (hdg : decode cc pc = .ok (.new 18, 3))
    (kk : ∀ (q : Nat) (H1 : Heap), f q = none → dw G.1 dk_cl A H0 (dw_up f q (.inr (4, [.null, .int (iI 0), .int (iI 0)]))) H1 locs → W p l e R s m args below meth c H1 locs (cells + 1) (slots + 3) Q (F0 m (pc + 3) ls (.ref q :: rest))) : W p l e R s m args below meth c H locs cells slots Q (F0 m pc ls rest) :=
  dw_new (C := "TextDesk$Row") (T := F_RW) (N := 3) X.1 X.2.1 X.hts i_RW t_RW t_RW_ok X.own (X.hts _ mw_29) (X.hts _ mw_30) (X.hts _ mw_3) X.K hw rfl (fun j hj => by
    rcases (show j = 0 ∨ j = 1 ∨ j = 2 by omega) with rfl | rfl | rfl <;> rfl) hcells hslots hdg kk
theorem nw_DK_27 (X : cx G "TextDesk" p s m args c cc nL) (hw : dw G.1 dk_cl A H0 f H locs) (hcells : cells + 1 ≤ R.cells) (hslots : slots + 2 ≤ R.slots) (hdg : decode cc pc = .ok (.new 27, 3))
    (kk : ∀ (q : Nat) (H1 : Heap), f q = none → dw G.1 dk_cl A H0 (dw_up f q (.inr (0, [.int (iI 0), .int (iI 0)]))) H1 locs → W p l e R s m args below meth c H1 locs (cells + 1) (slots + 2) Q (F0 m (pc + 3) ls (.ref q :: rest))) : W p l e R s m args below meth c H locs cells slots Q (F0 m pc ls rest) :=
  dw_new (C := "TextDesk$Decoder") (T := F_DC) (N := 2) X.1 X.2.1 X.hts i_DC t_DC t_DC_ok X.own (X.hts _ mw_52) (X.hts _ mw_53) (X.hts _ mw_5) X.K hw rfl (fun j hj => by
    rcases (show j = 0 ∨ j = 1 by omega) with rfl | rfl <;> rfl) hcells hslots hdg kk
theorem nw_JT_27 (X : cx G "TextDesk$JoinedText" p s m args c cc nL) (hw : dw G.1 dk_cl A H0 f H locs) (hcells : cells + 1 ≤ R.cells) (hslots : slots + 3 ≤ R.slots) (hdg : decode cc pc = .ok (.new 27, 3))
    (kk : ∀ (q : Nat) (H1 : Heap), f q = none → dw G.1 dk_cl A H0 (dw_up f q (.inr (4, [.null, .int (iI 0), .int (iI 0)]))) H1 locs → W p l e R s m args below meth c H1 locs (cells + 1) (slots + 3) Q (F0 m (pc + 3) ls (.ref q :: rest))) : W p l e R s m args below meth c H locs cells slots Q (F0 m pc ls rest) :=
  dw_new (C := "TextDesk$Row") (T := F_RW) (N := 3) X.1 X.2.1 X.hts i_RW t_RW t_RW_ok X.own (X.hts _ mw_258) (X.hts _ mw_30) (X.hts _ mw_3) X.K hw rfl (fun j hj => by
    rcases (show j = 0 ∨ j = 1 ∨ j = 2 by omega) with rfl | rfl | rfl <;> rfl) hcells hslots hdg kk
theorem nw_DK_188 (X : cx G "TextDesk" p s m args c cc nL) (hw : dw G.1 dk_cl A H0 f H locs) (hcells : cells + 1 ≤ R.cells) (hslots : slots + 3 ≤ R.slots) (hdg : decode cc pc = .ok (.new 188, 3))
    (kk : ∀ (q : Nat) (H1 : Heap), f q = none → dw G.1 dk_cl A H0 (dw_up f q (.inr (2, [.int (iI 0), .int (iI 0), .null]))) H1 locs → W p l e R s m args below meth c H1 locs (cells + 1) (slots + 3) Q (F0 m (pc + 3) ls (.ref q :: rest))) : W p l e R s m args below meth c H locs cells slots Q (F0 m pc ls rest) :=
  dw_new (C := "TextDesk$WideText") (T := F_WT) (N := 3) X.1 X.2.1 X.hts i_WT t_WT t_WT_ok X.own (X.hts _ mw_279) (X.hts _ mw_280) (X.hts _ mw_13) X.K hw rfl (fun j hj => by
    rcases (show j = 0 ∨ j = 1 ∨ j = 2 by omega) with rfl | rfl | rfl <;> rfl) hcells hslots hdg kk
theorem nw_DK_193 (X : cx G "TextDesk" p s m args c cc nL) (hw : dw G.1 dk_cl A H0 f H locs) (hcells : cells + 1 ≤ R.cells) (hslots : slots + 3 ≤ R.slots) (hdg : decode cc pc = .ok (.new 193, 3))
    (kk : ∀ (q : Nat) (H1 : Heap), f q = none → dw G.1 dk_cl A H0 (dw_up f q (.inr (1, [.int (iI 0), .int (iI 0), .null]))) H1 locs → W p l e R s m args below meth c H1 locs (cells + 1) (slots + 3) Q (F0 m (pc + 3) ls (.ref q :: rest))) : W p l e R s m args below meth c H locs cells slots Q (F0 m pc ls rest) :=
  dw_new (C := "TextDesk$NarrowText") (T := F_NT) (N := 3) X.1 X.2.1 X.hts i_NT t_NT t_NT_ok X.own (X.hts _ mw_301) (X.hts _ mw_302) (X.hts _ mw_14) X.K hw rfl (fun j hj => by
    rcases (show j = 0 ∨ j = 1 ∨ j = 2 by omega) with rfl | rfl | rfl <;> rfl) hcells hslots hdg kk
theorem nw_DK_196 (X : cx G "TextDesk" p s m args c cc nL) (hw : dw G.1 dk_cl A H0 f H locs) (hcells : cells + 1 ≤ R.cells) (hslots : slots + 5 ≤ R.slots) (hdg : decode cc pc = .ok (.new 196, 3))
    (kk : ∀ (q : Nat) (H1 : Heap), f q = none → dw G.1 dk_cl A H0 (dw_up f q (.inr (3, [.int (iI 0), .int (iI 0), .null, .null, .null]))) H1 locs → W p l e R s m args below meth c H1 locs (cells + 1) (slots + 5) Q (F0 m (pc + 3) ls (.ref q :: rest))) : W p l e R s m args below meth c H locs cells slots Q (F0 m pc ls rest) :=
  dw_new (C := "TextDesk$JoinedText") (T := F_JT) (N := 5) X.1 X.2.1 X.hts i_JT t_JT t_JT_ok X.own (X.hts _ mw_402) (X.hts _ mw_403) (X.hts _ mw_16) X.K hw rfl (fun j hj => by
    rcases (show j = 0 ∨ j = 1 ∨ j = 2 ∨ j = 3 ∨ j = 4 by omega) with rfl | rfl | rfl | rfl | rfl <;> rfl) hcells hslots hdg kk
theorem nw_LW_8 (X : cx G "TextDeskLaw" p s m args c cc nL) (hw : dw G.1 dk_cl A H0 f H locs) (hcells : cells + 1 ≤ R.cells) (hslots : slots + 6 ≤ R.slots) (hdg : decode cc pc = .ok (.new 8, 3))
    (kk : ∀ (q : Nat) (H1 : Heap), f q = none → dw G.1 dk_cl A H0 (dw_up f q (.inr (5, [.null, .null, .null, .null, .null, .null]))) H1 locs → W p l e R s m args below meth c H1 locs (cells + 1) (slots + 6) Q (F0 m (pc + 3) ls (.ref q :: rest))) : W p l e R s m args below meth c H locs cells slots Q (F0 m pc ls rest) :=
  dw_new (C := "TextDesk") (T := F_DK) (N := 6) X.1 X.2.1 X.hts i_DK t_DK t_DK_ok X.own (X.hts _ mw_19) (X.hts _ mw_20) (X.hts _ mw_1) X.K hw rfl (fun j hj => by
    rcases (show j = 0 ∨ j = 1 ∨ j = 2 ∨ j = 3 ∨ j = 4 ∨ j = 5 by omega) with rfl | rfl | rfl | rfl | rfl | rfl <;> rfl) hcells hslots hdg kk
theorem nw_LW_86 (X : cx G "TextDeskLaw" p s m args c cc nL) (hw : dw G.1 dk_cl A H0 f H locs) (hcells : cells + 1 ≤ R.cells) (hslots : slots + 14 ≤ R.slots) (hdg : decode cc pc = .ok (.new 86, 3))
    (kk : ∀ (q : Nat) (H1 : Heap), f q = none → dw G.1 dk_cl A H0 (dw_up f q (.inr (6, [.int (iI 0), .int (iI 0), .null, .null, .int (iI 0), .null, .int (iI 0), .null, .int (iI 0), .null, .int (iI 0), .null, .int (iI 0), .null]))) H1 locs → W p l e R s m args below meth c H1 locs (cells + 1) (slots + 14) Q (F0 m (pc + 3) ls (.ref q :: rest))) : W p l e R s m args below meth c H locs cells slots Q (F0 m pc ls rest) :=
  dw_new (C := "TextDeskModel") (T := F_MD) (N := 14) X.1 X.2.1 X.hts i_MD t_MD t_MD_ok X.own (X.hts _ mw_640) (X.hts _ mw_641) (X.hts _ mw_6) X.K hw rfl (fun j hj => by
    rcases (show j = 0 ∨ j = 1 ∨ j = 2 ∨ j = 3 ∨ j = 4 ∨ j = 5 ∨ j = 6 ∨ j = 7 ∨ j = 8 ∨ j = 9 ∨ j = 10 ∨ j = 11 ∨ j = 12 ∨ j = 13 by omega) with rfl | rfl | rfl | rfl | rfl | rfl | rfl | rfl | rfl | rfl | rfl | rfl | rfl | rfl <;> rfl) hcells hslots hdg kk
end R2
