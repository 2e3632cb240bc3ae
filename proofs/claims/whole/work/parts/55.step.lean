/-! A THROW OF NoSuchElementException, AND THE TWO step METHODS -/
/-- a constructor with a message, and the throw behind it, where the class's own pass has any pool number (after the library's sister for one fixed number) -/
theorem tw_ctor {p : Program} {l : Launch} {e : Env} {R : Room} {s : State} {m₀ : MethodId} {args : Array Value} {below : List Frame} {meth : Method} {c : Code} {T : State} {locs : List Loc} {cells slots : Nat} (X : Stand p l e R s m₀ args below meth c T locs cells slots) (hexec : p.tables.exec = Jvm.exec) (htr : e.platform.stackTraces = false) {own cls : String} {names : List String} {ic ix : Nat} {rx : ByteArray}
    (x0 : decode rx 0 = .ok (.aload_n 0, 1)) (x1 : decode rx 1 = .ok (.aload_n 1, 1)) (x2 : decode rx 2 = .ok (.invokespecial ix, 3)) (x5 : decode rx 5 = .ok (.return_, 1))
    (hown : s.vm.findClass own = some m₀.cls) (hcls : Bundle.fit cls = true) (hnames : ∀ n ∈ names, Bundle.fit n = true) (h : ∀ a ∈ Bundle.ownAtomsX own ic cls ix rx names, a.before args s = true)
    (hlocs : ∀ x ∈ locs, ∀ cell, s.heap[x.base]? = some cell → cell.vm.isStatics = false)
    {a : Addr} {cX : ClassId} {kX : Class} (hfoundX : s.vm.findClass cls = some cX) (hkX : s.vm.classes[cX]? = some kX) (hcell : T.heap[a]? = some (freshCell cX kX)) (hnew : s.heap.size ≤ a) {msg : Value} (hmsg : msg.isRef = true)
    {g : JFrame} (hg : g.method = m₀) (hsize : g.locals.size = c.maxLocals) (hlocked : g.locked = none) (hentered : g.entered = []) {rest : List Value} (hstack : g.stack = msg :: .ref a :: .ref a :: rest)
    (hd6 : decode c.code g.pc = .ok (.invokespecial ic, 3)) (hd9 : decode c.code (g.pc + 3) = .ok (.athrow, 1)) (hout : ∀ x ∈ c.exceptionTable.toList, covers x (g.pc + 3) = false)
    (hRframes : names.length + 3 < R.frames) (hRlocals : 2 * g.monitorRoom + ((Value.ref a :: rest).map fun v => v.category).sum + (13 * (names.length + 1) + 42) ≤ R.locals) (hlocks : meth.locks = false) :
    ∃ U : State, Steps p.tables e below (T.setTop g) U ∧ U.status = .running ∧ Ended U below (.threw a) ∧ s.WarmedH U.vm ∧ s.sameButNew ({ U with vm := s.vm } : State) locs cells slots ∧ ∃ ce, U.heap[a]? = some ce ∧ ce.vm = .none ∧ s.vm.findClass cls = some ce.cls := by
  have howns : e.platform.frameOwnsMonitors = true := by rw [X.admits.platform]
  have hfin : e.platform.finalization = false := by rw [X.admits.platform]
  have hpl : e.platform.magicAccessors = ({} : Platform).magicAccessors := by rw [X.admits.platform]
  have a' : ∀ x, x ∈ Bundle.ownAtomsX own ic cls ix rx names → x.holds args s none s [] = true := fun x hx => h x hx
  obtain ⟨Tt, Z0, L, -, Y⟩ := ThrowableC.of_atoms (args := args) howns hfin hpl (fun x hx => h x (by simp [Bundle.ownAtomsX, hx]))
  obtain ⟨Z, M, LZ, LM, hnZ⟩ := Init0T.ofS_atoms (args := args) hpl L Y (fun x hx => h x (by simp [Bundle.ownAtomsX, hx]))
  obtain ⟨P1, Ps, hlen, L1, hL, hP1m, hlink1, hlink⟩ := Bundle.chainSX (args := args) hpl hnZ x0 x1 x2 x5 names cls hcls hnames (fun x hx => h x (by simp [Bundle.ownAtomsX, hx]))
  have hfound : s.vm.findClass cls = some P1.m.cls := findClass_of_methodNamed hP1m
  cases Option.some.inj (hfoundX.symm.trans hfound)
  obtain ⟨c1, kX', hc1, hk, hord, -, -, hn6⟩ := Cond.instantiable_spec (a' (.instantiable cls 6) (by simp [Bundle.ownAtomsX]))
  cases Option.some.inj (hc1.symm.trans hfound)
  cases Option.some.inj (hkX.symm.trans hk)
  have hsel : ∀ (y : MethodName) (mm : MethodId), (Cond.selects cls y y).holds args s none s [] = true → s.methodNamed? y = some mm → s.methodFound? y.cls y.name y.desc = some mm → selectMethod e.platform s.vm P1.m.cls mm = .method mm := by
    intro y mm hc hn hf
    obtain ⟨c2, r2, m2, q1, q2, q3, q4, -⟩ := Cond.selects_spec hc
    cases Option.some.inj (q1.symm.trans hfound)
    cases Option.some.inj (q2.symm.trans hf)
    cases Option.some.inj (q3.symm.trans hn)
    rw [Launch.admits_selectMethod X.admits]; exact q4
  have hsel0 := hsel Bundle.tFill0 Tt.fill0 (a' (.selects cls Bundle.tFill0 Bundle.tFill0) (by simp [Bundle.ownAtomsX])) Y.fill0 (State.methodFound?_of_named Y.fill0 (by decide))
  have hselF := hsel Bundle.tFill Tt.fill (a' (.selects cls Bundle.tFill Bundle.tFill) (by simp [Bundle.ownAtomsX])) Y.fill (State.methodFound?_of_named Y.fill (by decide))
  obtain ⟨cellS0, hcS0, hiss⟩ := Y.statics
  obtain ⟨u0, hu0⟩ := Cond.staticRefV Y.unassigned L.unassignedStatic L.statics hcS0 hiss (a' (.isRef (.static Bundle.tN "UNASSIGNED_STACK" Bundle.steD)) (by simp [Bundle.ownAtomsX]))
  obtain ⟨sen, hsen⟩ := Cond.staticRefV Y.sentinel L.sentinelStatic L.statics hcS0 hiss (a' (.isRef (.static Bundle.tN "SUPPRESSED_SENTINEL" Bundle.listD)) (by simp [Bundle.ownAtomsX]))
  obtain ⟨ci198, i198, fB, hk198, hg198, ha198, hsB, -, hnB, htB, hffB⟩ := Cond.ownField (t := .object "java/lang/Object") Y.found L.cls (by decide +kernel) (a' (.fieldLink Bundle.tN 198 Bundle.tN "backtrace" "Ljava/lang/Object;") (by simp [Bundle.ownAtomsX])) (a' (.lays Bundle.tN Bundle.tN "backtrace" "Ljava/lang/Object;") (by simp [Bundle.ownAtomsX])) e.platform hpl
  obtain ⟨cellS, hcS', heS, -, hkeep⟩ := X.same.2.2.2.2.2 Tt.aS cellS0 hcS0
  have hcellS : T.heap[Tt.aS]? = some cellS := hcS'
  have hout' : ∀ i, (⟨Tt.aS, i⟩ : Loc) ∉ locs := fun i hmem => by
    have := hlocs _ hmem cellS0 hcS0
    rw [hiss] at this; cases this
  have hknownS : cellS.vm ≠ .unknown := by
    rw [heS]; intro hu
    rw [show cellS0.vm = .unknown from hu] at hiss
    cases hiss
  have hneS : Tt.aS ≠ a := Nat.ne_of_lt (Nat.lt_of_lt_of_le (Array.getElem?_eq_some_iff.mp hcS0).1 hnew)
  obtain ⟨iM, hffM⟩ := Y.msg
  obtain ⟨tyC, dC, hdC, hdnC⟩ := Cond.laysAt hfound hk Y.cause (a' (.lays cls Bundle.tN "cause" "Ljava/lang/Throwable;") (by simp [Bundle.ownAtomsX]))
  obtain ⟨tyS, dS, hdS, hdnS⟩ := Cond.laysAt hfound hk Y.stack (a' (.lays cls Bundle.tN "stackTrace" Bundle.steD) (by simp [Bundle.ownAtomsX]))
  obtain ⟨tyP, dP, hdP, hdnP⟩ := Cond.laysAt hfound hk Y.supp (a' (.lays cls Bundle.tN "suppressedExceptions" Bundle.listD) (by simp [Bundle.ownAtomsX]))
  obtain ⟨tyM, dM, hdM, hdnM⟩ := Cond.laysAt hfound hk hffM (a' (.lays cls Bundle.tN "detailMessage" "Ljava/lang/String;") (by simp [Bundle.ownAtomsX]))
  obtain ⟨tyB, dB, hdB, hdnB⟩ := Cond.laysAt hfound hk hffB (a' (.lays cls Bundle.tN "backtrace" "Ljava/lang/Object;") (by simp [Bundle.ownAtomsX]))
  have bC := Cond.laysApart hdB hdC hdnB hdnC (by rw [hnB, Y.causeName]; decide)
  have bS := Cond.laysApart hdB hdS hdnB hdnS (by rw [hnB, Y.stackName]; decide)
  have bP := Cond.laysApart hdB hdP hdnB hdnP (by rw [hnB, Y.suppName]; decide)
  have hskip : SkipFacts Tt e.platform s (fun u => u) u0 ((preparedCellV Tt.toThrowableT (freshCell P1.m.cls kX) a u0 sen).withEntry T.cur) :=
    ⟨{ ci198 := ci198, i198 := i198, fBack := fB }, ⟨hk198, hg198, ha198, hsB⟩, by
      have := fresh_default (c := P1.m.cls) tyB
      rw [htB] at this
      simpa [preparedCellV, Cell.setSlot, Cell.withEntry, Array.getElem?_setIfInBounds, bC, bS, bP, bC.symm, bS.symm, bP.symm, defaultValue] using this, fun _ _ => rfl⟩
  obtain ⟨tm, methC, cdC, kC, vm₁, hnC, -, -, -, -, -, -, -, hW₁, st1⟩ := Steps.initColdS (tb := p.tables) (e := e) (below := below) (s := s) (U := T) X.here hexec X.warmed hpl hown (t := Bundle.initS cls) rfl rfl (Bundle.fit_spec hcls).2
    (a' (.methodLink own ic (Bundle.initS cls)) (by simp [Bundle.ownAtomsX])) (h (.instanceMethod (Bundle.initS cls)) (by cases names <;> simp [Bundle.ownAtomsX, Bundle.chainSAtomsX, Bundle.passSAtoms])) (bytes := rx) (maxL := 2) (h (.code (Bundle.initS cls) rx 2 none) (by cases names <;> simp [Bundle.ownAtomsX, Bundle.chainSAtomsX, Bundle.passSAtoms]))
    (f := g) hg (a := a) (msg := msg) (rest := .ref a :: rest) hstack hd6
  cases Option.some.inj (hnC.symm.trans hP1m)
  have X₁ := X.noted hW₁
  obtain ⟨vm₂, X₂, st2⟩ := X₁.ctorMessageOffV hexec (g := { g with stack := .ref a :: rest }) hg hsize Tt L Z LZ M LM (P1 :: Ps)
    (fun P hP => by rcases List.mem_cons.mp hP with rfl | hP; exact L1; exact hL P hP) ⟨hlink1, hlink⟩ (u0 := u0) (sen := sen) (self := a) hmsg (cell := freshCell P1.m.cls kX) (cellS := cellS)
    hcell (fun _ => by simp) (by simp) rfl rfl hsel0 hselF hcellS hneS hknownS (by rw [hkeep _ (hout' _)]; exact hu0) (by rw [hkeep _ (hout' _)]; exact hsen)
    (Takes.of_laid hk hord tyC (by rw [Y.causeType]; rfl)) (Takes.of_laid hk hord tyS (by rw [Y.stackType]; exact fits_refV_array _ u0)) (Takes.of_laid hk hord tyP (by rw [Y.suppType]; exact fits_refV_object _ sen))
    (Takes.of_laid hk hord tyM (by rw [Y.msgType]; exact fits_refV_object _ ⟨msg, hmsg⟩)) Y.objLocals hskip htr [] hd6
    (by simp only [List.length_cons, hlen]; omega) (by simp only [List.length_cons, hlen]; exact hRlocals)
  obtain ⟨hwalk, hrun, hended, hWU, hsame⟩ := X₂.athrowLeaves hexec (g := { g with stack := .ref a :: rest, pc := g.pc + 3 }) hg hlocked hentered hout (a := a) (rest := rest) rfl hd9
  have hlt : a < ((T.setVm vm₁).setVm vm₂).heap.size := (Array.getElem?_eq_some_iff.mp hcell).1
  have hU := heapAt_setCell_self (s := (T.setVm vm₁).setVm vm₂) (plainBareV Tt.toThrowableT (freshCell P1.m.cls kX) a u0 sen msg) hlt
  refine ⟨_, st1 _ (fun acts => ?_), hrun, hended, hWU, hsame.weaken (fun y hy hlt' => ?_) (Nat.le_refl _) (Nat.le_refl _), _, hU, rfl, hfound⟩
  · rw [doInvoke_state]
    exact st2 _ hwalk
  · rcases List.mem_append.mp hy with h1 | h1
    · exact h1
    · exfalso
      have hb : y.base = a := by
        simp only [List.mem_cons, List.not_mem_nil, or_false] at h1
        rcases h1 with rfl | rfl | rfl | rfl | rfl <;> rfl
      rw [hb] at hlt'
      exact Nat.not_lt.mpr hnew hlt'

abbrev NSR : List String := ["java/lang/RuntimeException", "java/lang/Exception"]
def atX : List Cond := (Bundle.ownAtomsX "GoatAbacus" 126 NSE 13 prog_30_method_4_code NSR).filter vx_no
theorem atX_good : atX.filter goodWord = ([97, 1177, 1186, 1188, 1191, 1193, 1178, 1179, 109, 110, 1180, 1185, 1189, 1209, 1167, 1210, 1169, 1211, 1171, 1181, 1183, 1173, 1205, 1206, 1208, 1173, 1196, 1197, 1198, 1199, 1199, 1200, 1201, 1202, 1202, 1203, 1204, 1205, 1195, 1156, 1164, 1165, 1166, 1168, 1170, 1172, 1176, 1175, 1174] : List Nat).filterMap (fun i => lw_tbl[i]?) := by decide +kernel
theorem atX_in : ∀ w ∈ atX.filter goodWord, w ∈ gW := by
  intro w hw
  have h2 := (List.mem_filter.mp hw).2
  rw [atX_good] at hw
  obtain ⟨i, -, hi⟩ := List.mem_filterMap.mp hw
  exact List.mem_filter.mpr ⟨List.mem_of_getElem? hi, h2⟩
def atXb : List Cond := [.castable NSE NSE, .declares (Bundle.initS "java/lang/RuntimeException"), .declares (Bundle.initS "java/lang/Exception"), .declares (Bundle.initS "java/lang/Throwable")]
theorem atX_bad : ∀ w ∈ atX.filter (fun w => !goodWord w), w ∈ atXb := by decide +kernel
theorem atX_ot : ∀ w ∈ Cond.classLink "GoatAbacus" 122 NSE :: Cond.initialized NSE :: atX, vx_ot w = true := by decide +kernel
theorem wT_k : Cond.classLink "GoatAbacus" 122 NSE ∈ gW := List.mem_filter.mpr ⟨List.mem_of_getElem? (i := 1155) (by decide +kernel), by decide +kernel⟩
theorem wT_i : Cond.initialized NSE ∈ gW := List.mem_filter.mpr ⟨List.mem_of_getElem? (i := 100) (by decide +kernel), by decide +kernel⟩
theorem wT_l : Cond.classLink "GoatAbacusLaw" 13 NSE ∈ gW := List.mem_filter.mpr ⟨List.mem_of_getElem? (i := 1150) (by decide +kernel), by decide +kernel⟩
theorem dT_12 : decode cX9_step 12 = .ok (.new 122, 3) := by decide +kernel
theorem dT_15 : decode cX9_step 15 = .ok (.dup, 1) := by decide +kernel
theorem dT_16 : decode cX9_step 16 = .ok (.ldc 124, 2) := by decide +kernel
theorem dT_18 : decode cX9_step 18 = .ok (.invokespecial 126, 3) := by decide +kernel
theorem dT_21 : decode cX9_step 21 = .ok (.athrow, 1) := by decide +kernel
theorem dT_59 : decode cX9_step 59 = .ok (.new 122, 3) := by decide +kernel
theorem dT_62 : decode cX9_step 62 = .ok (.dup, 1) := by decide +kernel
theorem dT_63 : decode cX9_step 63 = .ok (.ldc 130, 2) := by decide +kernel
theorem dT_65 : decode cX9_step 65 = .ok (.invokespecial 126, 3) := by decide +kernel
theorem dT_68 : decode cX9_step 68 = .ok (.athrow, 1) := by decide +kernel
theorem tw_throw {p : Program} {l : Launch} {e : Env} {R : Room} {s : State} {m : MethodId} {args : Array Value} {below : List Frame} {meth : Method} {c : Code} {H : Heap} {locs : List Loc} {cells slots : Nat} {Qc : Array Value → State → Outcome → State → Prop} {XC : String → State → State → Prop} {free : Addr → Prop} {ls : Array Slot} {rest : List Value} {B pc is sa mc ms : Nat} {text : String} (hexec : p.tables.exec = Jvm.exec) (hb : c.code = cX9_step) (hl : l.stackTraces = false)
    (hown : s.vm.findClass "GoatAbacus" = some m.cls) (hgw : ∀ w ∈ gW, w.before args s = true) (hK : kX B s s.heap) (hstr : vk_R "GoatAbacus" is text sa s) (hS : va_S (fun q => B ≤ q) s.heap H locs) (hsize : ls.size = c.maxLocals)
    (d0 : decode cX9_step pc = .ok (.new 122, 3)) (d3 : decode cX9_step (pc + 3) = .ok (.dup, 1)) (d4 : decode cX9_step (pc + 4) = .ok (.ldc is, 2)) (d6 : decode cX9_step (pc + 6) = .ok (.invokespecial 126, 3)) (d9 : decode cX9_step (pc + 9) = .ok (.athrow, 1))
    (hout : ∀ x ∈ c.exceptionTable.toList, covers x (pc + 9) = false) (hRframes : 5 < R.frames) (hRlocals : (rest.map fun v => v.category).sum + 82 ≤ R.locals) (hRcells : cells + 1 ≤ R.cells) (hRslots : slots + 6 ≤ R.slots) (hlocks : meth.locks = false)
    (hx : ∀ t : State, s.vm.Alike t.vm → t.heap.size = H.size + 1 → (∀ q : Nat, q < H.size → t.heap[q]? = H[q]?) → XC NSE s t) (hf : ∀ z ∈ locs, free z.base) (hc : cells + 1 ≤ mc) (hs : slots + 6 ≤ ms) :
    W p l e R s m args below meth c H locs cells slots (vx_MQ below Qc XC args s mc ms free) (F0 m pc ls rest) := by
  obtain ⟨hU, hN, -, -, k5, k6, k7, k8⟩ := hK
  have hk := hgw _ wT_k
  have hini := hgw _ wT_i
  have hat : ∀ w ∈ atX, w.before args s = true := vx_hat (fun w hw => hgw w (atX_in w hw)) atX_bad (vx_c (va_Nw.use rfl k5) (vx_c (va_Nw.use rfl k6) (vx_c (va_Nw.use rfl k7) (vx_c (va_Nw.use rfl k8) vx_n))))
  intro T hT X
  have htr : e.platform.stackTraces = false := (show e.platform.stackTraces = l.stackTraces by rw [X.admits.platform]).trans hl
  have Y := vx_rebase X (R' := { frames := R.frames, locals := R.locals, cells := 1, slots := 6 }) (Nat.le_refl _) (Nat.le_refl _) hRcells hRslots
  obtain ⟨s', hA⟩ : ∃ z, z = (T.setVm s.vm).setFrames (.invoking m args :: below) := ⟨_, rfl⟩
  rw [← hA] at Y
  have hvm : s'.vm = s.vm := by rw [hA]; rfl
  have hhp : s'.heap = H := by rw [hA]; exact hT
  have hW0 : s.WarmedH s'.vm := by rw [hvm]; exact State.WarmedH.refl s
  have hat' : ∀ w ∈ atX, w.before args s' = true := fun w hw => vx_ot_at hW0 hvm.symm (atX_ot w (List.mem_cons_of_mem _ (List.mem_cons_of_mem _ hw))) (hat w hw)
  have hk' : (Cond.classLink "GoatAbacus" 122 NSE).before args s' = true := vx_ot_at hW0 hvm.symm (atX_ot _ List.mem_cons_self) hk
  have hini' : (Cond.initialized NSE).before args s' = true := vx_ot_at hW0 hvm.symm (atX_ot _ (List.mem_cons_of_mem _ List.mem_cons_self)) hini
  have hU' : vx_Zq Bundle.tN "UNASSIGNED_STACK" Bundle.steD (fun q => B ≤ q) s' s'.heap := by rw [hhp]; exact vx_Zq.moved hW0.alike (hU.kept hS.2.1)
  have hN' : vx_Zq Bundle.tN "SUPPRESSED_SENTINEL" Bundle.listD (fun q => B ≤ q) s' s'.heap := by rw [hhp]; exact vx_Zq.moved hW0.alike (hN.kept hS.2.1)
  have h : ∀ w ∈ Bundle.ownAtomsX "GoatAbacus" 126 NSE 13 prog_30_method_4_code NSR, w.before args s' = true := vx_own hat' (vx_isRefq hU'.1) (vx_isRefq hN'.1) hU'.2.word hN'.2.word
  have hown' : s'.vm.findClass "GoatAbacus" = some m.cls := by rw [hvm]; exact hown
  have hins : (Cond.instantiable NSE 6).before args s' = true := h _ (by simp [Bundle.ownAtomsX])
  obtain ⟨vm₁, cX, kXc, hfX, hkX, -, -, X₁, st1⟩ := Y.newCold hexec (own := "GoatAbacus") (C := NSE) (index := 122) (n := 6) hown' hk' hins hini' (g := F0 m pc ls rest) rfl (by rw [hb]; exact d0) (Nat.le_refl _) (Nat.le_refl _)
  generalize hT1 : (T.setVm vm₁).pushCell { cls := cX, slots := kXc.instanceTypes.map defaultValue, vm := .none } = T1 at X₁ st1
  have hcat : (Value.ref T.heap.size).category = 1 := rfl
  have hcellA : T1.heap[T.heap.size]? = some (freshCell cX kXc) := by rw [← hT1]; exact State.heap_pushCell_size _ _
  have d3' : decode c.code (pc + 3) = .ok (.dup, 1) := by rw [hb]; exact d3
  have d4' : decode c.code (pc + 4) = .ok (.ldc is, 2) := by rw [hb]; exact d4
  have hstr' : vk_R "GoatAbacus" is text sa s' := vk_R.warm hW0 hstr
  obtain ⟨U, hsteps, hrun, hend, hW, hsame, ce, hce, hcv, hcc⟩ := tw_ctor X₁ hexec htr (own := "GoatAbacus") (cls := NSE) (names := NSR) (ic := 126) (ix := 13) (rx := prog_30_method_4_code) (by decide +kernel) (by decide +kernel) (by decide +kernel) (by decide +kernel) hown' (by decide +kernel) (by decide +kernel) h (fun x hx => nomatch hx) hfX hkX hcellA (by rw [hhp, hT]; exact Nat.le_refl _) (msg := .ref sa) rfl
    (g := { method := m, pc := pc + 6, locals := ls, stack := .ref sa :: .ref T.heap.size :: .ref T.heap.size :: rest, locked := none }) rfl hsize rfl rfl (rest := rest) rfl
    (by rw [hb]; exact d6) (by rw [hb]; exact d9) hout hRframes (by simp only [List.map_cons, List.sum_cons, hcat]; show 2 * 0 + (1 + _) + (13 * 3 + 42) ≤ R.locals; omega) hlocks
  obtain ⟨f1, f2⟩ := vx_frame hsame
  rw [hhp] at f1 f2
  have f3 : U.heap.size = H.size + 1 := by
    obtain ⟨-, -, g3, -⟩ := hsame
    have g4 := (Array.getElem?_eq_some_iff.mp hce).1
    rw [hT] at g4
    rw [hhp] at g3
    have g5 : U.heap.size ≤ H.size + (0 + 1) := g3
    omega
  have hWs : s.WarmedH U.vm := State.WarmedH.trans hW0 hW
  have hcl : s.vm.findClass NSE = some ce.cls := by rw [hvm] at hcc; exact hcc
  have hall : s.sameButNew ({ U with vm := s.vm } : State) locs mc ms := by
    subst hA
    obtain ⟨e1, e2⟩ := hsame
    rw [State.setFrames_setFrames] at e1
    have h2 : (T.setVm s.vm).sameButNew ({ U with vm := s.vm } : State) [] (0 + 1) (0 + 6) := ⟨e1, e2⟩
    have h3 := X.same.trans h2
    rw [List.append_nil] at h3
    exact h3.mono hc hs
  refine ⟨U, ?_, .threw T.heap.size, hrun, hend, Or.inr ⟨T.heap.size, rfl, NSE, ce, locs, hx U hWs.alike f3 (fun q hq => f2 q hq (fun z hz => nomatch hz)), hce, hcv, hcl, hWs, hall, hf⟩⟩
  refine st1 _ ?_
  show Steps p.tables e below (T1.setTop { method := m, pc := pc + 3, locals := ls, stack := .ref T.heap.size :: rest, locked := none }) _
  jvm_step X₁.here [X₁.here.top, hexec, d3', Value.category]
  exact X₁.ldcString hexec (own := "GoatAbacus") (text := text) (index := is) (a := sa) hown' hstr'.1 hstr'.2
    (g := { method := m, pc := pc + 4, locals := ls, stack := .ref T.heap.size :: .ref T.heap.size :: rest, locked := none }) rfl d4' _ hsteps
/-- cells that nobody reads -/
theorem HR_jk {B : Nat} {ad : Nat → Nat} {D : va_G} {ca : Nat → ClassId} {E : En} {σ : St} {H H1 : Heap} (h : HR B ad D ca E σ H) (hz : H1.size = H.size + 1) (hq : ∀ q : Nat, q < H.size → H1[q]? = H[q]?) (hm : eZ E + 1 ≤ 1000000) : HR B ad D ca (jk E 1 6) σ H1 := by
  refine ⟨by rw [hz, h.1]; rfl, hm, fun n hn => h.2.2.1 n (Nat.le_of_succ_le hn), fun n => ?_⟩
  obtain ⟨c1, c2, c3, c4, c5⟩ := h.2.2.2 n
  have hlt : ∀ k, eK E n = k + 1 → B + n < H.size := fun k hk => by
    have := h.lt hk
    rw [h.1]; omega
  refine ⟨fun k => ?_, fun k => ?_, fun k => ?_, fun k => ?_, fun ci q k1 k2 => ?_⟩
  · rw [hq _ (hlt 19 k)]; exact c1 k
  · rw [hq _ (hlt 20 k)]; exact c2 k
  · rw [hq _ (hlt 21 k)]; exact c3 k
  · rw [hq _ (hlt 22 k)]; exact c4 k
  · exact ((c5 ci q k1 k2).kept (hq _ (hlt ci k1))).to fun j _ => rfl
theorem sumAt_same {a : Int32} {X : En} {σ : St} {q : Option Nat × En × St} (h : g_X9_sumAt a X σ = some q) : q.2.1 = X ∧ q.2.2 = σ := by
  unfold g_X9_sumAt at h
  obtain ⟨z, hz, h⟩ := bind_sp h
  obtain ⟨-, h⟩ := gd_some h
  cases h
  unfold g_X9_sumAt_b at hz
  rcases ite_sp hz with ⟨-, hz⟩ | ⟨-, hz⟩
  · unfold g_X9_sumAt_21 g_X9_sumAt_22 at hz; cases hz; exact ⟨rfl, rfl⟩
  · rcases ite_sp hz with ⟨-, hz⟩ | ⟨-, hz⟩
    · unfold g_X9_sumAt_21 g_X9_sumAt_22 at hz; cases hz; exact ⟨rfl, rfl⟩
    · obtain ⟨-, hz⟩ := gd_some hz
      unfold g_X9_sumAt_22 at hz; cases hz; exact ⟨rfl, rfl⟩
theorem part_same {t : Nat} {a b : Int32} {X : En} {σ : St} {q : Int32 × En × St} (h : g_X4_part t a b X σ = some q) : q.2.1 = X ∧ q.2.2 = σ := by
  unfold g_X4_part at h
  obtain ⟨z, hz, h⟩ := bind_sp h
  obtain ⟨-, h⟩ := gd_some h
  cases h
  unfold g_X4_part_b at hz
  obtain ⟨-, hz⟩ := gd_some hz
  obtain ⟨b1, -, hz⟩ := bind_sp hz
  obtain ⟨-, hz⟩ := gd_some hz
  obtain ⟨-, hz⟩ := gd_some hz
  cases hz
  exact ⟨rfl, rfl⟩
theorem step_same {a b c : Int32} {X X2 : En} {σ σ2 : St} {r : Option Int32} (h : g_X9_step_b a b c X σ = some (r, X2, σ2)) : X2 = X ∧ σ2 = σ := by
  have h37 : ∀ (t : Nat) (x2 x3 : Int32) (X1 : En) (σ1 : St), g_X9_step_37 t x2 x3 X1 σ1 = some (r, X2, σ2) → X2 = X1 ∧ σ2 = σ1 := by
    intro t x2 x3 X1 σ1 h
    unfold g_X9_step_37 at h
    obtain ⟨-, h⟩ := gd_some h
    rcases ite_sp h with ⟨-, h⟩ | ⟨-, h⟩
    · unfold g_X9_step_59 at h; cases h; exact ⟨rfl, rfl⟩
    rcases ite_sp h with ⟨-, h⟩ | ⟨-, h⟩
    · unfold g_X9_step_59 at h; cases h; exact ⟨rfl, rfl⟩
    rcases ite_sp h with ⟨-, h⟩ | ⟨-, h⟩
    · unfold g_X9_step_59 at h; cases h; exact ⟨rfl, rfl⟩
    rcases ite_sp h with ⟨-, h⟩ | ⟨-, h⟩
    · obtain ⟨z, hz, h⟩ := bind_sp h
      obtain ⟨-, h⟩ := gd_some h
      cases h
      exact part_same hz
    · unfold g_X9_step_59 at h; cases h; exact ⟨rfl, rfl⟩
  unfold g_X9_step_b at h
  obtain ⟨z, hz, h⟩ := bind_sp h
  obtain ⟨e1, e2⟩ := sumAt_same hz
  rw [e1, e2] at h
  rcases mR_sp h with ⟨-, h⟩ | ⟨t, -, h⟩
  · cases h; exact ⟨rfl, rfl⟩
  · obtain ⟨-, h⟩ := gd_some h
    rcases ite_sp h with ⟨-, h⟩ | ⟨-, h⟩
    · rcases ite_sp h with ⟨-, h⟩ | ⟨-, h⟩
      · cases h; exact ⟨rfl, rfl⟩
      · exact h37 _ _ _ _ _ h
    · exact h37 _ _ _ _ _ h
/-- what GoatAbacus.step answers -/
def qS (B : Nat) (ad : Nat → Nat) (D : va_G) (ca : Nat → ClassId) (r : Option Int32) (X : En) (σ : St) : Array Value → State → Outcome → State → Prop := fun _ st o t => ∃ x, r = some x ∧ o = .returned (some (.int x)) ∧ HR B ad D ca (mk X) σ t.heap ∧ va_F (fun q => B ≤ q) st t
def xS (B : Nat) (ad : Nat → Nat) (D : va_G) (ca : Nat → ClassId) (r : Option Int32) (X : En) (σ : St) : String → State → State → Prop := fun E st t => r = none ∧ E = NSE ∧ HR B ad D ca (mk (jk X 1 6)) σ t.heap ∧ va_F (fun q => B ≤ q) st t
set_option maxHeartbeats 2000000 in
theorem con_step {l : Launch} (hl : l.stackTraces = false) {pr : Ct} {sc : Nat × (Nat → Int32)} (hMT : TabP MT) (hpr : ∀ (d mi : Nat) (as : List Value) (E : En) (σ : St) (r : Option Value) (E1 : En) (σ1 : St), 8 ≤ d → pr mi as E σ r E1 σ1 → eZ E1 ≤ 1000000 → ConP l MT sc (d + 1) mi as E σ r E1 σ1)
    {a b c : Int32} {r : Option Int32} {X : En} {σ : St} (h : g_X9_step_b a b c X σ = some (r, X, σ)) {mc ms : Nat} (hm : (r = none ∧ mc = 1 ∧ ms = 6) ∨ ((∃ x, r = some x) ∧ mc = 0 ∧ ms = 0)) (hz : eZ X + mc ≤ 1000000) (B : Nat) (ad : Nat → Nat) (D : va_G) (ca : Nat → ClassId) :
    vx_Met l yX9_step (Cond.code yX9_step cX9_step 5 (some .int) :: gW) (rmD 40 mc ms) (cPreS kX B ad D ca sc [.ref 0, .int a, .int b, .int c] (mk X) σ) (qS B ad D ca r X σ) (xS B ad D ca r X σ) mc ms (fun q => B ≤ q) := by
  refine vx_ofW (cc := cX9_step) (maxL := 5) (ret := some .int) (by decide) rfl ?_
  intro p e s m args below meth c' s₁ BB hml hout hv
  obtain ⟨rfl, ⟨hH, hG⟩, hK⟩ := hv
  have hts : ∀ x ∈ gW, x.before ([Value.ref 0, .int a, .int b, .int c].map (cv ad)).toArray s = true := fun x hx => atoms_spec (ws := Cond.code yX9_step cX9_step 5 (some .int) :: gW) BB.pre x (List.mem_cons_of_mem _ hx)
  have hown : s.vm.findClass "GoatAbacus" = some m.cls := findClass_of_methodNamed BB.named
  have hsz : s.heap.size = B + eZ X := hH.1
  have C : Cx p (rmD 40 mc ms) s m ([Value.ref 0, .int a, .int b, .int c].map (cv ad)).toArray c' cX9_step 5 "GoatAbacus" B ad D ca sc 39 (eZ X) (eY X) (eZ X + mc) (eY X + ms) :=
    ⟨BB.exec, BB.bytes, hml, hown, hts, hG, by show 39 + 1 ≤ 40; omega, by show 64 * 39 + 64 ≤ 64 * 40; omega, by show eZ X + mc - eZ X ≤ mc; omega, ⟨by show eY X + ms - eY X ≤ ms; omega, hz⟩, by omega⟩
  have hlocks := BB.notSynchronized
  have key := wk_X9_step (pr := pr) (sc := sc) 38 h (AWf p l e (rmD 40 mc ms) s m ([Value.ref 0, .int a, .int b, .int c].map (cv ad)).toArray below meth c' (vx_MQ below (qS B ad D ca r X σ) (xS B ad D ca r X σ) ([Value.ref 0, .int a, .int b, .int c].map (cv ad)).toArray s mc ms (fun q => B ≤ q)) 5 B ad D ca (eZ X) (eY X) (eZ X + mc) (eY X + ms))
    (fun g hg => step_ok (cl := Cl MT pr sc 39) (rt := rtS r X σ) ok_X9_step rfl rfl rfl rfl C wg_X9_step hMT (fun q => by cases q) (fun mi as E σ r E1 σ1 hc hm => cl_ok l MT pr sc hMT hpr 39 mi as E σ r E1 σ1 hc hm) (fun v E2 σ2 hv => by
      obtain ⟨x, hr, e1, e2, e3⟩ := hv
      subst e1; subst e2; subst e3
      refine ⟨⟨by show eZ X ≤ eZ X + mc; omega, by show eY X ≤ eY X + ms; omega⟩, fun op pc H locs ls hok hd h1 h2 hH1 hS => ?_⟩
      cases op with
      | ireturn =>
        obtain ⟨y, hy, ho⟩ := hok
        cases hy
        exact W.widen (k := mc) (n := ms) (by show eZ X - eZ X ≤ mc; omega) (by show eY X - eY X ≤ ms; omega) (vx_ret (W.iret BB.exec BB.bytes BB.returns (fun t ht _ => ⟨x, hr, rfl, by rw [ht]; exact hH1, hS.F ht⟩) hS.2.2 hd))
      | lreturn => obtain ⟨y, hy, -⟩ := hok; cases hy
      | areturn => obtain ⟨-, y, hy⟩ := hok; cases y <;> cases hy
      | return_ => obtain ⟨hy, -⟩ := hok; cases hy
      | _ => exact hok.elim) g hg)
    (fun g hg => by
      obtain ⟨hr, hpc, hst, hE, hσ⟩ := hg
      obtain ⟨pc, lv, st, E, σ'⟩ := g
      simp only at hpc hst hE hσ
      have hσ := hσ.symm
      subst hst; subst hE; subst hσ
      have hm1 : mc = 1 ∧ ms = 6 := by
        rcases hm with ⟨-, q⟩ | ⟨⟨x, q⟩, -⟩
        · exact q
        · rw [hr] at q; cases q
      obtain ⟨rfl, rfl⟩ := hm1
      refine ⟨⟨by show eZ X ≤ eZ X + 1; omega, by show eY X ≤ eY X + 6; omega⟩, fun H locs ls h1 h2 h3 h4 h5 => ?_⟩
      have hx2 : ∀ t : State, s.vm.Alike t.vm → t.heap.size = H.size + 1 → (∀ q : Nat, q < H.size → t.heap[q]? = H[q]?) → xS B ad D ca r X σ NSE s t := fun t _ q1 q2 => ⟨hr, rfl, HR_jk h3 q1 q2 hz, ⟨by rw [q1]; exact Nat.le_succ_of_le h4.1, fun q q3 q4 => by rw [q2 q (Nat.lt_of_lt_of_le q3 h4.1)]; exact h4.2.1 q q3 q4⟩⟩
      have hcz : eZ (mk X) - eZ X + 1 ≤ 1 := by show eZ X - eZ X + 1 ≤ 1; omega
      have hcy : eY (mk X) - eY X + 6 ≤ 6 := by show eY X - eY X + 6 ≤ 6; omega
      obtain ⟨sa, hsa⟩ := hK.2.2.1
      obtain ⟨sb, hsb⟩ := hK.2.2.2.1
      rcases hpc with rfl | rfl
      · exact tw_throw BB.exec BB.bytes hl hown hts hK hsa h4 (h5.1.trans hml.symm) dT_12 dT_15 dT_16 dT_18 dT_21 (fun x hx => (hout x hx).elim) (by show 5 < 40; omega) (by show 0 + 82 ≤ 64 * 40; omega) hcz hcy hlocks hx2 h4.2.2 hcz hcy
      · exact tw_throw BB.exec BB.bytes hl hown hts hK hsb h4 (h5.1.trans hml.symm) dT_59 dT_62 dT_63 dT_65 dT_68 (fun x hx => (hout x hx).elim) (by show 5 < 40; omega) (by show 0 + 82 ≤ 64 * 40; omega) hcz hcy hlocks hx2 h4.2.2 hcz hcy)
  rw [lg_entry_eq]
  have hl2 := lv_entry ([Value.ref 0, .int a, .int b, .int c].map (cv ad)) (n := 5) (by rw [lgsl_cv]; show 4 ≤ 5; omega)
  rw [args_cv] at hl2
  have k2 := key.2 s.heap [] _ (Nat.le_refl _) (Nat.le_refl _) hH va_S.rf hl2
  have e1 : eZ (mk X) - eZ X = 0 := by show eZ X - eZ X = 0; omega
  have e2 : eY (mk X) - eY X = 0 := by show eY X - eY X = 0; omega
  simp only [e1, e2] at k2
  exact k2

