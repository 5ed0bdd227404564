/-! throws of the class: words, the row -/
abbrev xNames : List String := ["java/lang/RuntimeException", "java/lang/Exception"]
def thW (ik ic : Nat) (cls : String) : List Cond := Cond.classLink RX7 ik cls :: Cond.initialized cls :: vx_atS RX7 ic cls xNames
theorem thOk {ws : List Cond} (ps : List Nat) (hp : ws = ps.filterMap (fun i => lw_tbl[i]?)) (h : ws.all (fun w => wOk w && vx_ot w) = true) : ∀ w ∈ ws, w ∈ lw_tbl ∧ wOk w = true ∧ vx_ot w = true := by
  intro w hw
  have h1 := List.all_eq_true.mp h w hw
  rw [Bool.and_eq_true] at h1
  rw [hp] at hw
  obtain ⟨i, -, hi⟩ := List.mem_filterMap.mp hw
  exact ⟨List.mem_of_getElem? hi, h1⟩
abbrev xIAE : String := "java/lang/IllegalArgumentException"
set_option maxRecDepth 100000 in
theorem th_IAE : ∀ w ∈ thW 66 70 xIAE, w ∈ lw_tbl ∧ wOk w = true ∧ vx_ot w = true := thOk [505, 72, 69, 527, 536, 544, 547, 549, 528, 529, 91, 92, 530, 535, 545, 565, 517, 566, 519, 567, 521, 531, 533, 523, 561, 562, 564, 523, 552, 553, 554, 555, 509, 555, 556, 557, 558, 511, 558, 559, 560, 561, 513, 551, 506, 507, 514, 515, 516, 518, 520, 522, 526, 525, 524] (by decide +kernel) (by decide +kernel)
abbrev xUOE : String := "java/lang/UnsupportedOperationException"
set_option maxRecDepth 100000 in
theorem th_UOE : ∀ w ∈ thW 77 81 xUOE, w ∈ lw_tbl ∧ wOk w = true ∧ vx_ot w = true := thOk [585, 73, 69, 527, 536, 544, 547, 549, 528, 529, 91, 92, 530, 535, 545, 565, 517, 566, 519, 567, 521, 531, 533, 523, 561, 562, 564, 523, 596, 597, 598, 555, 509, 555, 556, 557, 558, 511, 558, 559, 560, 561, 513, 595, 586, 587, 588, 542, 589, 590, 591, 592, 526, 525, 593] (by decide +kernel) (by decide +kernel)
abbrev xIOB : String := "java/lang/IndexOutOfBoundsException"
set_option maxRecDepth 100000 in
theorem th_IOB : ∀ w ∈ thW 114 118 xIOB, w ∈ lw_tbl ∧ wOk w = true ∧ vx_ot w = true := thOk [671, 76, 69, 527, 536, 544, 547, 549, 528, 529, 91, 92, 530, 535, 545, 565, 517, 566, 519, 567, 521, 531, 533, 523, 561, 562, 564, 523, 647, 648, 649, 555, 509, 555, 556, 557, 558, 511, 558, 559, 560, 561, 513, 681, 672, 673, 674, 541, 675, 676, 677, 678, 526, 525, 679] (by decide +kernel) (by decide +kernel)
abbrev xISE : String := "java/lang/IllegalStateException"
set_option maxRecDepth 100000 in
theorem th_ISE : ∀ w ∈ thW 310 314 xISE, w ∈ lw_tbl ∧ wOk w = true ∧ vx_ot w = true := thOk [1023, 80, 69, 527, 536, 544, 547, 549, 528, 529, 91, 92, 530, 535, 545, 565, 517, 566, 519, 567, 521, 531, 533, 523, 561, 562, 564, 523, 1034, 1035, 1036, 555, 509, 555, 556, 557, 558, 511, 558, 559, 560, 561, 513, 1033, 1024, 1025, 1026, 540, 1027, 1028, 1029, 1030, 526, 525, 1031] (by decide +kernel) (by decide +kernel)
abbrev xARE : String := "java/lang/ArithmeticException"
set_option maxRecDepth 100000 in
theorem th_ARE : ∀ w ∈ thW 376 380 xARE, w ∈ lw_tbl ∧ wOk w = true ∧ vx_ot w = true := thOk [1249, 84, 69, 527, 536, 544, 547, 549, 528, 529, 91, 92, 530, 535, 545, 565, 517, 566, 519, 567, 521, 531, 533, 523, 561, 562, 564, 523, 1233, 1234, 1235, 555, 509, 555, 556, 557, 558, 511, 558, 559, 560, 561, 513, 1251, 1232, 1243, 1244, 538, 1238, 1239, 1241, 1237, 526, 525, 1236] (by decide +kernel) (by decide +kernel)
abbrev xNSE : String := "java/util/NoSuchElementException"
def nxC : ByteArray := .mk #[0x2a, 0x2b, 0xb7, 0x00, 0x0d, 0xb1]
theorem nxC_0 : decode nxC 0 = .ok (.aload_n 0, 1) := by decide +kernel
theorem nxC_1 : decode nxC 1 = .ok (.aload_n 1, 1) := by decide +kernel
theorem nxC_2 : decode nxC 2 = .ok (.invokespecial 13, 3) := by decide +kernel
theorem nxC_5 : decode nxC 5 = .ok (.return_, 1) := by decide +kernel
/-- the words of an exception whose constructor calls that of Y by the place 13 -/
def nxA (own : String) (ic : Nat) (X Y : String) (r : List String) : List Cond :=
  Bundle.throwableAtoms ++ Bundle.throwableSAtoms ++ (Bundle.passSAtoms X Y 13 nxC ++ Bundle.chainSAtoms Y r) ++
  [.methodLink own ic (Bundle.initS X), .instantiable X 6, .castable X X, .selects X Bundle.tFill0 Bundle.tFill0, .selects X Bundle.tFill Bundle.tFill,
   .lays X Bundle.tN "cause" "Ljava/lang/Throwable;", .lays X Bundle.tN "stackTrace" Bundle.steD, .lays X Bundle.tN "suppressedExceptions" Bundle.listD, .lays X Bundle.tN "detailMessage" "Ljava/lang/String;",
   .isRef (.static Bundle.tN "UNASSIGNED_STACK" Bundle.steD), .isRef (.static Bundle.tN "SUPPRESSED_SENTINEL" Bundle.listD),
   .fieldLink Bundle.tN 198 Bundle.tN "backtrace" "Ljava/lang/Object;", .lays Bundle.tN Bundle.tN "backtrace" "Ljava/lang/Object;", .lays X Bundle.tN "backtrace" "Ljava/lang/Object;"]
def nxAt (own : String) (ic : Nat) (X Y : String) (r : List String) : List Cond := (nxA own ic X Y r).filter vx_no
def thN (ik ic : Nat) (cls : String) : List Cond := Cond.classLink RX7 ik cls :: Cond.initialized cls :: nxAt RX7 ic cls "java/lang/RuntimeException" ["java/lang/Exception"]
set_option maxRecDepth 100000 in
theorem th_NSE : ∀ w ∈ thN 225 229 xNSE, w ∈ lw_tbl ∧ wOk w = true ∧ vx_ot w = true := thOk [862, 79, 69, 527, 536, 544, 547, 549, 528, 529, 91, 92, 530, 535, 545, 565, 517, 566, 519, 567, 521, 531, 533, 523, 561, 562, 564, 523, 873, 874, 875, 555, 509, 555, 556, 557, 558, 511, 558, 559, 560, 561, 513, 872, 863, 864, 865, 543, 866, 867, 868, 869, 526, 525, 870] (by decide +kernel) (by decide +kernel)
section NXK
variable {p : Program} {l : Launch} {e : Env} {R : Room} {s : State} {m₀ : MethodId} {args : Array Value} {below : List Frame} {meth : Method} {c : Code} {W : State} {locs : List Loc} {cells slots : Nat}
set_option maxHeartbeats 1000000 in
theorem nx_ctor (X : Stand p l e R s m₀ args below meth c W locs cells slots) (hexec : p.tables.exec = Jvm.exec) (htr : e.platform.stackTraces = false) {own cls : String} {Y9 : String} {r9 : List String} {ic : Nat}
    (hown : s.vm.findClass own = some m₀.cls) (hcls : Bundle.fit cls = true) (hY9 : Bundle.fit Y9 = true) (hr9 : ∀ n ∈ r9, Bundle.fit n = true)
    (h : ∀ a ∈ nxA own ic cls Y9 r9, a.before args s = true)
    (hlocs : ∀ x ∈ locs, ∀ cell, s.heap[x.base]? = some cell → cell.vm.isStatics = false)
    {a : Addr} {cX : ClassId} {kX : Class} (hfoundX : s.vm.findClass cls = some cX) (hkX : s.vm.classes[cX]? = some kX) (hcell : W.heap[a]? = some (freshCell cX kX)) (hnew : s.heap.size ≤ a)
    {msg : Value} (hmsg : msg.isRef = true)
    {g : JFrame} (hg : g.method = m₀) (hsize : g.locals.size = c.maxLocals) {rest : List Value} (hstack : g.stack = msg :: .ref a :: .ref a :: rest)
    (hd6 : decode c.code g.pc = .ok (.invokespecial ic, 3))
    (hRframes : (Y9 :: r9).length + 3 < R.frames) (hRlocals : 2 * g.monitorRoom + ((Value.ref a :: rest).map fun v => v.category).sum + (13 * ((Y9 :: r9).length + 1) + 42) ≤ R.locals) :
    ∃ (V : State) (ce : Cell) (L : List Loc), Stand p l e R s m₀ args below meth c (V.setCell a ce) (locs ++ L) cells slots ∧ (∀ y ∈ L, y.base = a) ∧ a < V.heap.size ∧ ce.cls = cX ∧ ce.vm = .none ∧
      ∀ target, Steps p.tables e below ((V.setCell a ce).setTop { g with stack := .ref a :: rest, pc := g.pc + 3 }) target → Steps p.tables e below (W.setTop g) target := by
  have howns : e.platform.frameOwnsMonitors = true := by rw [X.admits.platform]
  have hfin : e.platform.finalization = false := by rw [X.admits.platform]
  have hpl : e.platform.magicAccessors = ({} : Platform).magicAccessors := by rw [X.admits.platform]
  have a' : ∀ x, x ∈ nxA own ic cls Y9 r9 → x.holds args s none s [] = true := fun x hx => h x hx
  obtain ⟨T, Z0, L, -, Y⟩ := ThrowableC.of_atoms (args := args) howns hfin hpl (fun x hx => h x (by simp [nxA, hx]))
  obtain ⟨Z, M, LZ, LM, hnZ⟩ := Init0T.ofS_atoms (args := args) hpl L Y (fun x hx => h x (by simp [nxA, hx]))
  obtain ⟨P1, L1, hP1m, hs1⟩ := PassC.ofS_atoms (args := args) (s := s) hpl (X := cls) (Y := Y9) (Bundle.fit_spec hcls).1 (Bundle.fit_spec hY9).2 nxC_0 nxC_1 nxC_2 nxC_5 (fun x hx => h x (by simp [nxA, hx]))
  obtain ⟨P2, Ps2, hlen2, L2, hL2, hm2, hsup2, hpass2⟩ := Bundle.chainS (args := args) hpl hnZ r9 Y9 hY9 hr9 (fun x hx => h x (by simp [nxA, hx]))
  obtain ⟨Ps, hPs⟩ : ∃ z, z = P2 :: Ps2 := ⟨_, rfl⟩
  have hlen : Ps.length = (Y9 :: r9).length := by rw [hPs]; simp [hlen2]
  have hL : ∀ P, P ∈ Ps → P.LinksS e.platform s := by
    intro P hP
    rw [hPs] at hP
    rcases List.mem_cons.mp hP with rfl | hP
    · exact L2
    · exact hL2 P hP
  have hlink1 := Option.some.inj (hs1.symm.trans hm2)
  have hfound : s.vm.findClass cls = some P1.m.cls := findClass_of_methodNamed hP1m
  cases Option.some.inj (hfoundX.symm.trans hfound)
  obtain ⟨c1, kX', hc1, hk, hord, -, -, hn6⟩ := Cond.instantiable_spec (a' (.instantiable cls 6) (by simp [nxA]))
  cases Option.some.inj (hc1.symm.trans hfound)
  cases Option.some.inj (hkX.symm.trans hk)
  have hsel0 : selectMethod e.platform s.vm P1.m.cls T.fill0 = .method T.fill0 := by
    obtain ⟨c2, r2, m2, q1, q2, q3, q4, -⟩ := Cond.selects_spec (a' (.selects cls Bundle.tFill0 Bundle.tFill0) (by simp [nxA]))
    cases Option.some.inj (q1.symm.trans hfound)
    cases Option.some.inj (q2.symm.trans (State.methodFound?_of_named Y.fill0 (by decide)))
    cases Option.some.inj (q3.symm.trans Y.fill0)
    rw [Launch.admits_selectMethod X.admits]; exact q4
  have hselF : selectMethod e.platform s.vm P1.m.cls T.fill = .method T.fill := by
    obtain ⟨c2, r2, m2, q1, q2, q3, q4, -⟩ := Cond.selects_spec (a' (.selects cls Bundle.tFill Bundle.tFill) (by simp [nxA]))
    cases Option.some.inj (q1.symm.trans hfound)
    cases Option.some.inj (q2.symm.trans (State.methodFound?_of_named Y.fill (by decide)))
    cases Option.some.inj (q3.symm.trans Y.fill)
    rw [Launch.admits_selectMethod X.admits]; exact q4
  obtain ⟨cellS0, hcS0, hiss⟩ := Y.statics
  obtain ⟨u0, hu0⟩ := Cond.staticRefV Y.unassigned L.unassignedStatic L.statics hcS0 hiss (a' (.isRef (.static Bundle.tN "UNASSIGNED_STACK" Bundle.steD)) (by simp [nxA]))
  obtain ⟨sen, hsen⟩ := Cond.staticRefV Y.sentinel L.sentinelStatic L.statics hcS0 hiss (a' (.isRef (.static Bundle.tN "SUPPRESSED_SENTINEL" Bundle.listD)) (by simp [nxA]))
  obtain ⟨ci198, i198, fB, hk198, hg198, ha198, hsB, -, hnB, htB, hffB⟩ := Cond.ownField (t := .object "java/lang/Object") Y.found L.cls (by decide +kernel) (a' (.fieldLink Bundle.tN 198 Bundle.tN "backtrace" "Ljava/lang/Object;") (by simp [nxA])) (a' (.lays Bundle.tN Bundle.tN "backtrace" "Ljava/lang/Object;") (by simp [nxA])) e.platform hpl
  obtain ⟨cellS, hcS', heS, -, hkeep⟩ := X.same.2.2.2.2.2 T.aS cellS0 hcS0
  have hcellS : W.heap[T.aS]? = some cellS := hcS'
  have hout' : ∀ i, (⟨T.aS, i⟩ : Loc) ∉ locs := fun i hmem => by
    have := hlocs _ hmem cellS0 hcS0
    rw [hiss] at this; cases this
  have hknownS : cellS.vm ≠ .unknown := by
    rw [heS]; intro hu
    rw [show cellS0.vm = .unknown from hu] at hiss
    cases hiss
  have hneS : T.aS ≠ a := Nat.ne_of_lt (Nat.lt_of_lt_of_le (Array.getElem?_eq_some_iff.mp hcS0).1 hnew)
  obtain ⟨iM, hffM⟩ := Y.msg
  obtain ⟨tyC, dC, hdC, hdnC⟩ := Cond.laysAt hfound hk Y.cause (a' (.lays cls Bundle.tN "cause" "Ljava/lang/Throwable;") (by simp [nxA]))
  obtain ⟨tyS, dS, hdS, hdnS⟩ := Cond.laysAt hfound hk Y.stack (a' (.lays cls Bundle.tN "stackTrace" Bundle.steD) (by simp [nxA]))
  obtain ⟨tyP, dP, hdP, hdnP⟩ := Cond.laysAt hfound hk Y.supp (a' (.lays cls Bundle.tN "suppressedExceptions" Bundle.listD) (by simp [nxA]))
  obtain ⟨tyM, dM, hdM, hdnM⟩ := Cond.laysAt hfound hk hffM (a' (.lays cls Bundle.tN "detailMessage" "Ljava/lang/String;") (by simp [nxA]))
  obtain ⟨tyB, dB, hdB, hdnB⟩ := Cond.laysAt hfound hk hffB (a' (.lays cls Bundle.tN "backtrace" "Ljava/lang/Object;") (by simp [nxA]))
  have bC := Cond.laysApart hdB hdC hdnB hdnC (by rw [hnB, Y.causeName]; decide)
  have bS := Cond.laysApart hdB hdS hdnB hdnS (by rw [hnB, Y.stackName]; decide)
  have bP := Cond.laysApart hdB hdP hdnB hdnP (by rw [hnB, Y.suppName]; decide)
  have hskip : SkipFacts T e.platform s (fun u => u) u0 ((preparedCellV T.toThrowableT (freshCell P1.m.cls kX) a u0 sen).withEntry W.cur) :=
    ⟨{ ci198 := ci198, i198 := i198, fBack := fB }, ⟨hk198, hg198, ha198, hsB⟩, by
      have := fresh_default (c := P1.m.cls) tyB
      rw [htB] at this
      simpa [preparedCellV, Cell.setSlot, Cell.withEntry, Array.getElem?_setIfInBounds, bC, bS, bP, bC.symm, bS.symm, bP.symm, defaultValue] using this, fun _ _ => rfl⟩
  obtain ⟨tm, methC, cdC, kC, vm₁, hnC, -, -, -, -, -, -, -, hW₁, st1⟩ := Steps.initColdS (tb := p.tables) (e := e) (below := below) (s := s) (U := W) X.here hexec X.warmed hpl hown (t := Bundle.initS cls) rfl rfl (Bundle.fit_spec hcls).2
    (a' (.methodLink own ic (Bundle.initS cls)) (by simp [nxA])) (h (.instanceMethod (Bundle.initS cls)) (by simp [nxA, Bundle.passSAtoms])) (bytes := nxC) (maxL := 2) (h (.code (Bundle.initS cls) nxC 2 none) (by simp [nxA, Bundle.passSAtoms]))
    (f := g) hg (a := a) (msg := msg) (rest := .ref a :: rest) hstack hd6
  cases Option.some.inj (hnC.symm.trans hP1m)
  have X₁ := X.noted hW₁
  obtain ⟨vm₂, X₂, st2⟩ := X₁.ctorMessageOffV hexec (g := { g with stack := .ref a :: rest }) hg hsize T L Z LZ M LM (P1 :: Ps)
    (fun P hP => by rcases List.mem_cons.mp hP with rfl | hP; exact L1; exact hL P hP) (by rw [hPs]; exact ⟨hlink1, hsup2, hpass2⟩) (u0 := u0) (sen := sen) (self := a) hmsg (cell := freshCell P1.m.cls kX) (cellS := cellS)
    hcell (fun _ => by simp) (by simp) rfl rfl hsel0 hselF hcellS hneS hknownS (by rw [hkeep _ (hout' _)]; exact hu0) (by rw [hkeep _ (hout' _)]; exact hsen)
    (Takes.of_laid hk hord tyC (by rw [Y.causeType]; rfl)) (Takes.of_laid hk hord tyS (by rw [Y.stackType]; exact fits_refV_array _ u0)) (Takes.of_laid hk hord tyP (by rw [Y.suppType]; exact fits_refV_object _ sen))
    (Takes.of_laid hk hord tyM (by rw [Y.msgType]; exact fits_refV_object _ ⟨msg, hmsg⟩)) Y.objLocals hskip htr [] hd6
    (by rw [List.length_cons, hlen]; omega) (by rw [List.length_cons, hlen]; exact hRlocals)
  have hlt : a < ((W.setVm vm₁).setVm vm₂).heap.size := (Array.getElem?_eq_some_iff.mp hcell).1
  refine ⟨(W.setVm vm₁).setVm vm₂, _, _, X₂, fun y hy => ?_, hlt, rfl, rfl, fun target hwalk => st1 _ (fun acts => ?_)⟩
  · simp only [List.mem_cons, List.not_mem_nil, or_false] at hy
    rcases hy with rfl | rfl | rfl | rfl | rfl <;> rfl
  · rw [doInvoke_state]
    exact st2 _ hwalk
end NXK
section NXK2
variable {p : Program} {l : Launch} {e : Env} {R : Room} {s : State} {m : MethodId} {args : Array Value} {below : List Frame} {meth : Method} {c : Code} {H : Heap} {locs : List Loc} {cells slots : Nat} {Q : State → Prop}
variable {ls : Array Slot} {rest : List Value}
/-- 'new E("text")' that isn't thrown at once: the object goes on the stack -/
theorem nx_makeS {cc : ByteArray} {pc : Nat} (hexec : p.tables.exec = Jvm.exec) (hb : c.code = cc) (hl : l.stackTraces = false) {own cls text : String} {Y9 : String} {r9 : List String} {ik is ic sa : Nat} {A : Nat → Prop}
    (hown : s.vm.findClass own = some m.cls) (hcls : Bundle.fit cls = true) (hY9 : Bundle.fit Y9 = true) (hr9 : ∀ n ∈ r9, Bundle.fit n = true)
    (hk : (Cond.classLink own ik cls).before args s = true) (hini : (Cond.initialized cls).before args s = true) (hstr : vk_R own is text sa s) (hat : ∀ w ∈ nxAt own ic cls Y9 r9, w.before args s = true)
    (hgood : ∀ w ∈ Cond.classLink own ik cls :: Cond.initialized cls :: nxAt own ic cls Y9 r9, vx_ot w = true)
    (hU : vx_Zq Bundle.tN "UNASSIGNED_STACK" Bundle.steD A s s.heap) (hN : vx_Zq Bundle.tN "SUPPRESSED_SENTINEL" Bundle.listD A s s.heap) (hS : va_S A s.heap H locs) (hsize : ls.size = c.maxLocals)
    (d0 : decode cc pc = .ok (.new ik, 3)) (d3 : decode cc (pc + 3) = .ok (.dup, 1)) (d4 : decode cc (pc + 4) = .ok (.ldc is, 2)) (d6 : decode cc (pc + 6) = .ok (.invokespecial ic, 3))
    (hRframes : (Y9 :: r9).length + 3 < R.frames) (hRlocals : (rest.map fun v => v.category).sum + (13 * ((Y9 :: r9).length + 1) + 43) ≤ R.locals) (hRcells : cells + 1 ≤ R.cells) (hRslots : slots + 6 ≤ R.slots)
    (kk : ∀ (q : Nat) (H1 : Heap) (ce : Cell), H.size ≤ H1.size → (∀ x : Nat, x < H.size → H1[x]? = H[x]?) → H1[q]? = some ce → ce.vm = .none → s.vm.findClass cls = some ce.cls → W p l e R s m args below meth c H1 locs (cells + 1) (slots + 6) Q (F0 m (pc + 9) ls (.ref q :: rest))) :
    W p l e R s m args below meth c H locs cells slots Q (F0 m pc ls rest) := by
  intro T hT X
  subst hT
  have htr : e.platform.stackTraces = false := (show e.platform.stackTraces = l.stackTraces by rw [X.admits.platform]).trans hl
  have Y := vx_rebase X (R' := { frames := R.frames, locals := R.locals, cells := 1, slots := 6 }) (Nat.le_refl _) (Nat.le_refl _) hRcells hRslots
  obtain ⟨s', hA'⟩ : ∃ z, z = (T.setVm s.vm).setFrames (.invoking m args :: below) := ⟨_, rfl⟩
  rw [← hA'] at Y
  have hvm : s'.vm = s.vm := by rw [hA']; rfl
  have hhp : s'.heap = T.heap := by rw [hA']; rfl
  have hW0 : s.WarmedH s'.vm := by rw [hvm]; exact State.WarmedH.refl s
  have hat' : ∀ w ∈ nxAt own ic cls Y9 r9, w.before args s' = true := fun w hw => vx_ot_at hW0 hvm.symm (hgood w (List.mem_cons_of_mem _ (List.mem_cons_of_mem _ hw))) (hat w hw)
  have hk' : (Cond.classLink own ik cls).before args s' = true := vx_ot_at hW0 hvm.symm (hgood _ List.mem_cons_self) hk
  have hini' : (Cond.initialized cls).before args s' = true := vx_ot_at hW0 hvm.symm (hgood _ (List.mem_cons_of_mem _ List.mem_cons_self)) hini
  have hU' : vx_Zq Bundle.tN "UNASSIGNED_STACK" Bundle.steD A s' s'.heap := by rw [hhp]; exact vx_Zq.moved hW0.alike (hU.kept hS.2.1)
  have hN' : vx_Zq Bundle.tN "SUPPRESSED_SENTINEL" Bundle.listD A s' s'.heap := by rw [hhp]; exact vx_Zq.moved hW0.alike (hN.kept hS.2.1)
  have h : ∀ w ∈ nxA own ic cls Y9 r9, w.before args s' = true := vx_own hat' (vx_isRefq hU'.1) (vx_isRefq hN'.1) hU'.2.word hN'.2.word
  have hown' : s'.vm.findClass own = some m.cls := by rw [hvm]; exact hown
  have hins : (Cond.instantiable cls 6).before args s' = true := h _ (by simp [nxA])
  obtain ⟨vm₁, cX, kX, hfX, hkX, -, -, X₁, st1⟩ := Y.newCold hexec (own := own) (C := cls) (index := ik) (n := 6) hown' hk' hins hini'
    (g := F0 m pc ls rest) rfl (by rw [hb]; exact d0) (Nat.le_refl _) (Nat.le_refl _)
  generalize hT1 : (T.setVm vm₁).pushCell { cls := cX, slots := kX.instanceTypes.map defaultValue, vm := .none } = T1 at X₁ st1
  have hcat : (Value.ref T.heap.size).category = 1 := rfl
  have hcellA : T1.heap[T.heap.size]? = some (freshCell cX kX) := by rw [← hT1]; exact State.heap_pushCell_size _ _
  have d3' : decode c.code (pc + 3) = .ok (.dup, 1) := by rw [hb]; exact d3
  have d4' : decode c.code (pc + 4) = .ok (.ldc is, 2) := by rw [hb]; exact d4
  have hstr' : vk_R own is text sa s' := vk_R.warm hW0 hstr
  obtain ⟨V, ce, L, Z, hL, hlt, hcl9, hvm9, st⟩ := nx_ctor X₁ hexec htr (own := own) (cls := cls) (Y9 := Y9) (r9 := r9) (ic := ic) hown' hcls hY9 hr9 h (fun x hx => nomatch hx) hfX hkX hcellA (by rw [hhp]; exact Nat.le_refl _) (msg := .ref sa) rfl
    (g := { method := m, pc := pc + 6, locals := ls, stack := .ref sa :: .ref T.heap.size :: .ref T.heap.size :: rest, locked := none }) rfl hsize (rest := rest) rfl
    (by rw [hb]; exact d6) hRframes (by simp only [List.map_cons, List.sum_cons, hcat]; omega)
  have Z0 := Stand.forget (locs := []) Z (fun y hy => by rw [hL y hy, hhp]; exact Nat.le_refl _)
  obtain ⟨f1, f2⟩ := vx_frame Z0.same
  rw [hhp] at f1 f2
  have hcid : s.vm.findClass cls = some ce.cls := by
    rw [hcl9]
    rw [hvm] at hfX
    exact hfX
  have hh : (V.setCell T.heap.size ce).heap[T.heap.size]? = some ce := heapAt_setCell_self (s := V) ce hlt
  subst hA'
  have X5 := vx_back9 X Y Z0
  have X6 : Stand p l e R s m args below meth c (V.setCell T.heap.size ce) locs (cells + 1) (slots + 6) := { X5 with same := X5.same.mono (by omega) (by omega) }
  obtain ⟨t, a1, b1⟩ := kk T.heap.size (V.setCell T.heap.size ce).heap ce f1 (fun x hx => f2 x hx (fun z hz => nomatch hz)) hh hvm9 hcid _ rfl X6
  refine ⟨t, st1 _ ?_, b1⟩
  show Steps p.tables e below (T1.setTop { method := m, pc := pc + 3, locals := ls, stack := .ref T.heap.size :: rest, locked := none }) _
  jvm_step X₁.here [X₁.here.top, hexec, d3', Value.category]
  exact X₁.ldcString hexec (own := own) (text := text) (index := is) (a := sa) hown' hstr'.1 hstr'.2
    (g := { method := m, pc := pc + 4, locals := ls, stack := .ref T.heap.size :: .ref T.heap.size :: rest, locked := none }) rfl d4' _ (st _ a1)
/-- 'new E("text")' that isn't thrown at once: the object goes on the stack -/
theorem nx_makeSW {cc : ByteArray} {pc : Nat} (hexec : p.tables.exec = Jvm.exec) (hb : c.code = cc) (hl : l.stackTraces = false) {own cls text : String} {Y9 : String} {r9 : List String} {ik is ic sa : Nat} {A : Nat → Prop}
    (hown : s.vm.findClass own = some m.cls) (hcls : Bundle.fit cls = true) (hY9 : Bundle.fit Y9 = true) (hr9 : ∀ n ∈ r9, Bundle.fit n = true)
    (hk : (Cond.classLink own ik cls).before args s = true) (hini : (Cond.initialized cls).before args s = true) (hstr : vk_R own is text sa s) (hat : ∀ w ∈ nxAt own ic cls Y9 r9, w.before args s = true)
    (hgood : ∀ w ∈ Cond.classLink own ik cls :: Cond.initialized cls :: nxAt own ic cls Y9 r9, vx_ot w = true)
    (hU : vx_Zq Bundle.tN "UNASSIGNED_STACK" Bundle.steD A s s.heap) (hN : vx_Zq Bundle.tN "SUPPRESSED_SENTINEL" Bundle.listD A s s.heap) (hS : va_S A s.heap H locs) (hsize : ls.size = c.maxLocals)
    (d0 : decode cc pc = .ok (.new ik, 3)) (d3 : decode cc (pc + 3) = .ok (.dup, 1)) (d4 : decode cc (pc + 4) = .ok (.ldc_w is, 3)) (d6 : decode cc (pc + 7) = .ok (.invokespecial ic, 3))
    (hRframes : (Y9 :: r9).length + 3 < R.frames) (hRlocals : (rest.map fun v => v.category).sum + (13 * ((Y9 :: r9).length + 1) + 43) ≤ R.locals) (hRcells : cells + 1 ≤ R.cells) (hRslots : slots + 6 ≤ R.slots)
    (kk : ∀ (q : Nat) (H1 : Heap) (ce : Cell), H.size ≤ H1.size → (∀ x : Nat, x < H.size → H1[x]? = H[x]?) → H1[q]? = some ce → ce.vm = .none → s.vm.findClass cls = some ce.cls → W p l e R s m args below meth c H1 locs (cells + 1) (slots + 6) Q (F0 m (pc + 10) ls (.ref q :: rest))) :
    W p l e R s m args below meth c H locs cells slots Q (F0 m pc ls rest) := by
  intro T hT X
  subst hT
  have htr : e.platform.stackTraces = false := (show e.platform.stackTraces = l.stackTraces by rw [X.admits.platform]).trans hl
  have Y := vx_rebase X (R' := { frames := R.frames, locals := R.locals, cells := 1, slots := 6 }) (Nat.le_refl _) (Nat.le_refl _) hRcells hRslots
  obtain ⟨s', hA'⟩ : ∃ z, z = (T.setVm s.vm).setFrames (.invoking m args :: below) := ⟨_, rfl⟩
  rw [← hA'] at Y
  have hvm : s'.vm = s.vm := by rw [hA']; rfl
  have hhp : s'.heap = T.heap := by rw [hA']; rfl
  have hW0 : s.WarmedH s'.vm := by rw [hvm]; exact State.WarmedH.refl s
  have hat' : ∀ w ∈ nxAt own ic cls Y9 r9, w.before args s' = true := fun w hw => vx_ot_at hW0 hvm.symm (hgood w (List.mem_cons_of_mem _ (List.mem_cons_of_mem _ hw))) (hat w hw)
  have hk' : (Cond.classLink own ik cls).before args s' = true := vx_ot_at hW0 hvm.symm (hgood _ List.mem_cons_self) hk
  have hini' : (Cond.initialized cls).before args s' = true := vx_ot_at hW0 hvm.symm (hgood _ (List.mem_cons_of_mem _ List.mem_cons_self)) hini
  have hU' : vx_Zq Bundle.tN "UNASSIGNED_STACK" Bundle.steD A s' s'.heap := by rw [hhp]; exact vx_Zq.moved hW0.alike (hU.kept hS.2.1)
  have hN' : vx_Zq Bundle.tN "SUPPRESSED_SENTINEL" Bundle.listD A s' s'.heap := by rw [hhp]; exact vx_Zq.moved hW0.alike (hN.kept hS.2.1)
  have h : ∀ w ∈ nxA own ic cls Y9 r9, w.before args s' = true := vx_own hat' (vx_isRefq hU'.1) (vx_isRefq hN'.1) hU'.2.word hN'.2.word
  have hown' : s'.vm.findClass own = some m.cls := by rw [hvm]; exact hown
  have hins : (Cond.instantiable cls 6).before args s' = true := h _ (by simp [nxA])
  obtain ⟨vm₁, cX, kX, hfX, hkX, -, -, X₁, st1⟩ := Y.newCold hexec (own := own) (C := cls) (index := ik) (n := 6) hown' hk' hins hini'
    (g := F0 m pc ls rest) rfl (by rw [hb]; exact d0) (Nat.le_refl _) (Nat.le_refl _)
  generalize hT1 : (T.setVm vm₁).pushCell { cls := cX, slots := kX.instanceTypes.map defaultValue, vm := .none } = T1 at X₁ st1
  have hcat : (Value.ref T.heap.size).category = 1 := rfl
  have hcellA : T1.heap[T.heap.size]? = some (freshCell cX kX) := by rw [← hT1]; exact State.heap_pushCell_size _ _
  have d3' : decode c.code (pc + 3) = .ok (.dup, 1) := by rw [hb]; exact d3
  have d4' : decode c.code (pc + 4) = .ok (.ldc_w is, 3) := by rw [hb]; exact d4
  have hstr' : vk_R own is text sa s' := vk_R.warm hW0 hstr
  obtain ⟨V, ce, L, Z, hL, hlt, hcl9, hvm9, st⟩ := nx_ctor X₁ hexec htr (own := own) (cls := cls) (Y9 := Y9) (r9 := r9) (ic := ic) hown' hcls hY9 hr9 h (fun x hx => nomatch hx) hfX hkX hcellA (by rw [hhp]; exact Nat.le_refl _) (msg := .ref sa) rfl
    (g := { method := m, pc := pc + 7, locals := ls, stack := .ref sa :: .ref T.heap.size :: .ref T.heap.size :: rest, locked := none }) rfl hsize (rest := rest) rfl
    (by rw [hb]; exact d6) hRframes (by simp only [List.map_cons, List.sum_cons, hcat]; omega)
  have Z0 := Stand.forget (locs := []) Z (fun y hy => by rw [hL y hy, hhp]; exact Nat.le_refl _)
  obtain ⟨f1, f2⟩ := vx_frame Z0.same
  rw [hhp] at f1 f2
  have hcid : s.vm.findClass cls = some ce.cls := by
    rw [hcl9]
    rw [hvm] at hfX
    exact hfX
  have hh : (V.setCell T.heap.size ce).heap[T.heap.size]? = some ce := heapAt_setCell_self (s := V) ce hlt
  subst hA'
  have X5 := vx_back9 X Y Z0
  have X6 : Stand p l e R s m args below meth c (V.setCell T.heap.size ce) locs (cells + 1) (slots + 6) := { X5 with same := X5.same.mono (by omega) (by omega) }
  obtain ⟨t, a1, b1⟩ := kk T.heap.size (V.setCell T.heap.size ce).heap ce f1 (fun x hx => f2 x hx (fun z hz => nomatch hz)) hh hvm9 hcid _ rfl X6
  refine ⟨t, st1 _ ?_, b1⟩
  show Steps p.tables e below (T1.setTop { method := m, pc := pc + 3, locals := ls, stack := .ref T.heap.size :: rest, locked := none }) _
  jvm_step X₁.here [X₁.here.top, hexec, d3', Value.category]
  exact X₁.ldcStringW hexec (own := own) (text := text) (index := is) (a := sa) hown' hstr'.1 hstr'.2
    (g := { method := m, pc := pc + 4, locals := ls, stack := .ref T.heap.size :: .ref T.heap.size :: rest, locked := none }) rfl d4' _ (st _ a1)
/-- 'throw x' of an object that was made before -/
theorem nx_athrow {cc : ByteArray} {pc : Nat} (hexec : p.tables.exec = Jvm.exec) (hb : c.code = cc) {q : Addr} (hdg : decode cc pc = .ok (.athrow, 1)) (k : vx_W p l e R s m args below meth c H locs cells slots Q (F0 m pc ls rest) q) : W p l e R s m args below meth c H locs cells slots Q (F0 m pc ls (.ref q :: rest)) := by
  intro T hT X
  obtain ⟨t, st, hq⟩ := k T hT X
  refine ⟨t, ?_, hq⟩
  have hdg' : decode c.code pc = .ok (.athrow, 1) := by rw [hb]; exact hdg
  jvm_step X.here [X.here.top, hexec, hdg', athrow.wp_sem]
  exact st
end NXK2
def gXC (px : String → Heap → Prop) (A : Nat → Prop) : String → State → State → Prop := fun E st t => px E t.heap ∧ va_F A st t
theorem vP_grow {D : va_G} {ws : va_W} {H H1 : Heap} (h : va_P D vwCl ws H) (hk : ∀ q : Nat, q < H.size → H1[q]? = H[q]?) : va_P D vwCl ws H1 := h.kept (fun k q e => hk q.1 (h k q e).lt)
theorem xN_fit : ∀ n ∈ xNames, Bundle.fit n = true := by decide +kernel
section GK6
variable {p : Program} {l : Launch} {e : Env} {R : Room} {s : State} {m : MethodId} {args : Array Value} {below : List Frame} {meth : Method} {c : Code} {H : Heap} {locs : List Loc} {cells slots : Nat} {cc : ByteArray} {pc : Nat} {ls : Array Slot} {rest : List Value}
theorem g_throwS (hx : p.tables.exec = Jvm.exec) (hb : c.code = cc) (hlt : l.stackTraces = false) {cls text : String} {ik is ic mc ms : Nat} {A AE : Nat → Prop} {adK adV sa : Nat → Nat} {px : String → Heap → Prop} {Qc : Array Value → State → Outcome → State → Prop} (hE : gE AE adK adV sa s s.heap) (hFA : ∀ q, A q → AE q) (hown : s.vm.findClass RX7 = some m.cls) (hfit : Bundle.fit cls = true) (hw : ∀ w ∈ thW ik ic cls, w ∈ lw_tbl ∧ wOk w = true ∧ vx_ot w = true) (hstr : (is, text) ∈ gMs) (hS : va_S A s.heap H locs) (hsize : ls.size = c.maxLocals)
    (d0 : decode cc pc = .ok (.new ik, 3)) (d3 : decode cc (pc + 3) = .ok (.dup, 1)) (d4 : decode cc (pc + 4) = .ok (.ldc is, 2)) (d6 : decode cc (pc + 6) = .ok (.invokespecial ic, 3)) (d9 : decode cc (pc + 9) = .ok (.athrow, 1)) (hte : ∀ x ∈ c.exceptionTable.toList, False)
    (hfr : 5 < R.frames) (hlo : (rest.map fun v => v.category).sum + 82 ≤ R.locals) (hce : cells + 1 ≤ R.cells) (hsl : slots + 6 ≤ R.slots) (hlk : meth.locks = false) (hp : ∀ H1 : Heap, H.size ≤ H1.size → (∀ q : Nat, q < H.size → H1[q]? = H[q]?) → px cls H1) (hc : cells + 1 ≤ mc) (hs9 : slots + 6 ≤ ms) :
    W p l e R s m args below meth c H locs cells slots (vx_MQ below Qc (gXC px A) args s mc ms A) (F0 m pc ls rest) := by
  have wd : ∀ w ∈ thW ik ic cls, w.before args s = true := fun w h => wOk_use (hw w h).2.1 (hE.1 w (hw w h).1 (hw w h).2.1)
  refine vx_throwS (A := A) (names := xNames) (text := text) (sa := sa is) hx hb hlt hown hfit xN_fit (wd _ List.mem_cons_self) (wd _ (List.mem_cons_of_mem _ List.mem_cons_self)) (hE.2.2.1 (is, text) hstr) (fun w h => wd w (List.mem_cons_of_mem _ (List.mem_cons_of_mem _ h))) (fun w h => (hw w h).2.2) (hE.2.2.2.2.2.2.1.narrow hFA) (hE.2.2.2.2.2.2.2.narrow hFA) hS hsize d0 d3 d4 d6 d9 (fun x h => (hte x h).elim) hfr hlo hce hsl hlk ?_ hS.2.2 hc hs9
  intro t ha hz hk
  exact ⟨hp t.heap hz hk, Nat.le_trans hS.1 hz, fun q h1 h2 => by rw [hk q (Nat.lt_of_lt_of_le h1 hS.1)]; exact hS.2.1 q h1 h2⟩
theorem g_throwSW (hx : p.tables.exec = Jvm.exec) (hb : c.code = cc) (hlt : l.stackTraces = false) {cls text : String} {ik is ic mc ms : Nat} {A AE : Nat → Prop} {adK adV sa : Nat → Nat} {px : String → Heap → Prop} {Qc : Array Value → State → Outcome → State → Prop} (hE : gE AE adK adV sa s s.heap) (hFA : ∀ q, A q → AE q) (hown : s.vm.findClass RX7 = some m.cls) (hfit : Bundle.fit cls = true) (hw : ∀ w ∈ thW ik ic cls, w ∈ lw_tbl ∧ wOk w = true ∧ vx_ot w = true) (hstr : (is, text) ∈ gMs) (hS : va_S A s.heap H locs) (hsize : ls.size = c.maxLocals)
    (d0 : decode cc pc = .ok (.new ik, 3)) (d3 : decode cc (pc + 3) = .ok (.dup, 1)) (d4 : decode cc (pc + 4) = .ok (.ldc_w is, 3)) (d7 : decode cc (pc + 7) = .ok (.invokespecial ic, 3)) (d10 : decode cc (pc + 10) = .ok (.athrow, 1)) (hte : ∀ x ∈ c.exceptionTable.toList, False)
    (hfr : 5 < R.frames) (hlo : (rest.map fun v => v.category).sum + 82 ≤ R.locals) (hce : cells + 1 ≤ R.cells) (hsl : slots + 6 ≤ R.slots) (hlk : meth.locks = false) (hp : ∀ H1 : Heap, H.size ≤ H1.size → (∀ q : Nat, q < H.size → H1[q]? = H[q]?) → px cls H1) (hc : cells + 1 ≤ mc) (hs9 : slots + 6 ≤ ms) :
    W p l e R s m args below meth c H locs cells slots (vx_MQ below Qc (gXC px A) args s mc ms A) (F0 m pc ls rest) := by
  have wd : ∀ w ∈ thW ik ic cls, w.before args s = true := fun w h => wOk_use (hw w h).2.1 (hE.1 w (hw w h).1 (hw w h).2.1)
  refine vx_throwSW (A := A) (names := xNames) (text := text) (sa := sa is) hx hb hlt hown hfit xN_fit (wd _ List.mem_cons_self) (wd _ (List.mem_cons_of_mem _ List.mem_cons_self)) (hE.2.2.1 (is, text) hstr) (fun w h => wd w (List.mem_cons_of_mem _ (List.mem_cons_of_mem _ h))) (fun w h => (hw w h).2.2) (hE.2.2.2.2.2.2.1.narrow hFA) (hE.2.2.2.2.2.2.2.narrow hFA) hS hsize d0 d3 d4 d7 d10 (fun x h => (hte x h).elim) hfr hlo hce hsl hlk ?_ hS.2.2 hc hs9
  intro t ha hz hk
  exact ⟨hp t.heap hz hk, Nat.le_trans hS.1 hz, fun q h1 h2 => by rw [hk q (Nat.lt_of_lt_of_le h1 hS.1)]; exact hS.2.1 q h1 h2⟩
theorem g_thrNS (hx : p.tables.exec = Jvm.exec) (hb : c.code = cc) (hlt : l.stackTraces = false) {cls text : String} {ik is ic mc ms : Nat} {A AE : Nat → Prop} {adK adV sa : Nat → Nat} {px : String → Heap → Prop} {Qc : Array Value → State → Outcome → State → Prop} (hE : gE AE adK adV sa s s.heap) (hFA : ∀ q, A q → AE q) (hown : s.vm.findClass RX7 = some m.cls) (hfit : Bundle.fit cls = true) (hw : ∀ w ∈ thN ik ic cls, w ∈ lw_tbl ∧ wOk w = true ∧ vx_ot w = true) (hstr : (is, text) ∈ gMs) (hS : va_S A s.heap H locs) (hsize : ls.size = c.maxLocals)
    (d0 : decode cc pc = .ok (.new ik, 3)) (d3 : decode cc (pc + 3) = .ok (.dup, 1)) (d4 : decode cc (pc + 4) = .ok (.ldc is, 2)) (d6 : decode cc (pc + 6) = .ok (.invokespecial ic, 3)) (d9 : decode cc (pc + 9) = .ok (.athrow, 1)) (hte : ∀ x ∈ c.exceptionTable.toList, False)
    (hfr : 5 < R.frames) (hlo : (rest.map fun v => v.category).sum + 82 ≤ R.locals) (hce : cells + 1 ≤ R.cells) (hsl : slots + 6 ≤ R.slots) (hlk : meth.locks = false) (hp : ∀ H1 : Heap, H.size ≤ H1.size → (∀ q : Nat, q < H.size → H1[q]? = H[q]?) → px cls H1) (hc : cells + 1 ≤ mc) (hs9 : slots + 6 ≤ ms) :
    W p l e R s m args below meth c H locs cells slots (vx_MQ below Qc (gXC px A) args s mc ms A) (F0 m pc ls rest) := by
  have wd : ∀ w ∈ thN ik ic cls, w.before args s = true := fun w h => wOk_use (hw w h).2.1 (hE.1 w (hw w h).1 (hw w h).2.1)
  refine nx_makeS (A := A) (Y9 := "java/lang/RuntimeException") (r9 := ["java/lang/Exception"]) (text := text) (sa := sa is) hx hb hlt hown hfit (by decide +kernel) (by decide +kernel) (wd _ List.mem_cons_self) (wd _ (List.mem_cons_of_mem _ List.mem_cons_self)) (hE.2.2.1 (is, text) hstr) (fun w h => wd w (List.mem_cons_of_mem _ (List.mem_cons_of_mem _ h))) (fun w h => (hw w h).2.2) (hE.2.2.2.2.2.2.1.narrow hFA) (hE.2.2.2.2.2.2.2.narrow hFA) hS hsize d0 d3 d4 d6 hfr hlo hce hsl ?_
  intro q H1 ce hz hk hcell hv hcl
  refine nx_athrow hx hb d9 (vx_out (fun x h => (hte x h).elim) hlk hcell hv hcl (fun t ht _ => ?_) hS.2.2 hc hs9)
  exact ⟨by rw [ht]; exact hp H1 hz hk, by rw [ht]; exact Nat.le_trans hS.1 hz, fun q h1 h2 => by rw [ht, hk q (Nat.lt_of_lt_of_le h1 hS.1)]; exact hS.2.1 q h1 h2⟩
theorem g_thrNSW (hx : p.tables.exec = Jvm.exec) (hb : c.code = cc) (hlt : l.stackTraces = false) {cls text : String} {ik is ic mc ms : Nat} {A AE : Nat → Prop} {adK adV sa : Nat → Nat} {px : String → Heap → Prop} {Qc : Array Value → State → Outcome → State → Prop} (hE : gE AE adK adV sa s s.heap) (hFA : ∀ q, A q → AE q) (hown : s.vm.findClass RX7 = some m.cls) (hfit : Bundle.fit cls = true) (hw : ∀ w ∈ thN ik ic cls, w ∈ lw_tbl ∧ wOk w = true ∧ vx_ot w = true) (hstr : (is, text) ∈ gMs) (hS : va_S A s.heap H locs) (hsize : ls.size = c.maxLocals)
    (d0 : decode cc pc = .ok (.new ik, 3)) (d3 : decode cc (pc + 3) = .ok (.dup, 1)) (d4 : decode cc (pc + 4) = .ok (.ldc_w is, 3)) (d7 : decode cc (pc + 7) = .ok (.invokespecial ic, 3)) (d10 : decode cc (pc + 10) = .ok (.athrow, 1)) (hte : ∀ x ∈ c.exceptionTable.toList, False)
    (hfr : 5 < R.frames) (hlo : (rest.map fun v => v.category).sum + 82 ≤ R.locals) (hce : cells + 1 ≤ R.cells) (hsl : slots + 6 ≤ R.slots) (hlk : meth.locks = false) (hp : ∀ H1 : Heap, H.size ≤ H1.size → (∀ q : Nat, q < H.size → H1[q]? = H[q]?) → px cls H1) (hc : cells + 1 ≤ mc) (hs9 : slots + 6 ≤ ms) :
    W p l e R s m args below meth c H locs cells slots (vx_MQ below Qc (gXC px A) args s mc ms A) (F0 m pc ls rest) := by
  have wd : ∀ w ∈ thN ik ic cls, w.before args s = true := fun w h => wOk_use (hw w h).2.1 (hE.1 w (hw w h).1 (hw w h).2.1)
  refine nx_makeSW (A := A) (Y9 := "java/lang/RuntimeException") (r9 := ["java/lang/Exception"]) (text := text) (sa := sa is) hx hb hlt hown hfit (by decide +kernel) (by decide +kernel) (wd _ List.mem_cons_self) (wd _ (List.mem_cons_of_mem _ List.mem_cons_self)) (hE.2.2.1 (is, text) hstr) (fun w h => wd w (List.mem_cons_of_mem _ (List.mem_cons_of_mem _ h))) (fun w h => (hw w h).2.2) (hE.2.2.2.2.2.2.1.narrow hFA) (hE.2.2.2.2.2.2.2.narrow hFA) hS hsize d0 d3 d4 d7 hfr hlo hce hsl ?_
  intro q H1 ce hz hk hcell hv hcl
  refine nx_athrow hx hb d10 (vx_out (fun x h => (hte x h).elim) hlk hcell hv hcl (fun t ht _ => ?_) hS.2.2 hc hs9)
  exact ⟨by rw [ht]; exact hp H1 hz hk, by rw [ht]; exact Nat.le_trans hS.1 hz, fun q h1 h2 => by rw [ht, hk q (Nat.lt_of_lt_of_le h1 hS.1)]; exact hS.2.1 q h1 h2⟩
end GK6
theorem gOfv {l : Launch} {y : MethodName} {b : ByteArray} {n : Nat} {r : Option FieldType} {rm : Room} {av : List Value} {B : Heap → Prop} {D : va_G} {cA : Nat → ClassId} {A : Nat → Prop} {adK adV sa : Nat → Nat} {Qc : Array Value → State → Outcome → State → Prop} {XC : String → State → State → Prop} {mc ms : Nat} {free : Addr → Prop} (hy : plainName y.cls = true) (hlen : (lg_sl av).length ≤ n)
    (body : ∀ (p : Program) (e : Env) (s : State) (m : MethodId) (below : List Frame) (meth : Method) (c : Code) (ls : Array Slot), p.tables.exec = Jvm.exec → c.code = b → c.maxLocals = n → meth.sig.returnType = r → meth.locks = false → s.vm.findClass y.cls = some m.cls → (∀ w ∈ gw y b n r, w.before av.toArray s = true) → (∀ x ∈ c.exceptionTable.toList, False) → B s.heap → gK D cA s → gE A adK adV sa s s.heap → lv_has ls n (lv_args 0 av) →
      W p l e rm s m av.toArray below meth c s.heap [] 0 0 (vx_MQ below Qc XC av.toArray s mc ms free) (F0 m 0 ls [])) : vx_Met l y (gw y b n r) rm (gPx av B D cA A adK adV sa) Qc XC mc ms free := by
  refine vx_ofW (cc := b) (maxL := n) (ret := r) (ws' := gG) hy rfl ?_
  intro p e s m args below meth c s₁ X hml hte hv
  obtain ⟨rfl, hB, hK, hE⟩ := hv
  have hl := lv_entry av hlen
  rw [lg_entry_eq]
  exact body p e s m below meth c _ X.exec X.bytes hml X.returns X.notSynchronized (findClass_of_methodNamed X.named) (atoms_spec (ws := gw y b n r) X.pre) hte hB hK hE hl
