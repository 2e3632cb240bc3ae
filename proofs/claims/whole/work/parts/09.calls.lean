/-! CALLS AND ENDS -/
def rmD (d mc ms : Nat) : Room := { frames := d, cells := mc, slots := ms, locals := 64 * d }
def cPre (B : Nat) (ad : Nat → Nat) (D : va_G) (ca : Nat → ClassId) (sc : Nat × (Nat → Int32)) (as : List Value) (E : En) (σ : St) : Array Value → State → Prop := va_Pc (as.map (cv ad)) fun U => HR B ad D ca E σ U.heap ∧ kG B ad D ca sc U U.heap
def cPost (B : Nat) (ad : Nat → Nat) (D : va_G) (ca : Nat → ClassId) (r : Option Value) (E1 : En) (σ1 : St) : Array Value → State → Outcome → State → Prop := fun _ st o t => o = .returned (r.map (cv ad)) ∧ HR B ad D ca E1 σ1 t.heap ∧ va_F (fun q => B ≤ q) st t
theorem kG.same {B : Nat} {ad : Nat → Nat} {D : va_G} {ca : Nat → ClassId} {sc : Nat × (Nat → Int32)} {s U : State} {H : Heap} (h : kG B ad D ca sc s H) (hv : s.vm = U.vm) : kG B ad D ca sc U H := h.to (hv ▸ State.WarmedH.refl s) fun _ _ _ => rfl
theorem cPre_blind {B : Nat} {ad : Nat → Nat} {D : va_G} {ca : Nat → ClassId} {sc : Nat × (Nat → Int32)} {as : List Value} {E : En} {σ : St} : FrameBlind (cPre B ad D ca sc as E σ) := fun a U g mk q => ⟨q.1, q.2.1, q.2.2.same rfl⟩
/-- the contract of one run of a method -/
def ConP (l : Launch) (MT : Nat → Option Mrow) (sc : Nat × (Nat → Int32)) (d mi : Nat) (as : List Value) (E : En) (σ : St) (r : Option Value) (E1 : En) (σ1 : St) : Prop :=
  eZ E ≤ eZ E1 ∧ eY E ≤ eY E1 ∧ ∃ w : Mrow, MT mi = some w ∧ ∀ (B : Nat) (ad : Nat → Nat) (D : va_G) (ca : Nat → ClassId),
    Met l w.1 (Cond.code w.1 w.2.1 w.2.2.1 w.2.2.2.1 :: gW) (rmD d (eZ E1 - eZ E) (eY E1 - eY E)) (cPre B ad D ca sc as E σ) (cPost B ad D ca r E1 σ1) (eZ E1 - eZ E) (eY E1 - eY E) (fun q => B ≤ q)
def rowOK (MT : Nat → Option Mrow) (wl : List Cond) (w : Mrow) : Bool :=
  decide (Cond.code w.1 w.2.1 w.2.2.1 w.2.2.2.1 ∈ wl) && Nat.ble w.2.2.1 45 && plainFor w.1 && (!(Nat.beq w.2.2.2.2.1 1) || decide (w.1.name = "<init>")) &&
  w.2.2.2.2.2.all (fun q => q.2.all (fun e => decide (decode w.2.1 e.1 = .ok (e.2.1, e.2.2.1)) && okx MT wl w.1.cls (Nat.beq w.2.2.2.2.1 1) e))
/-- what the tables must say -/
def TabP (MT : Nat → Option Mrow) : Prop := ∀ (mi : Nat) (w : Mrow), MT mi = some w → ∃ wl : List Cond, (∀ x ∈ wl, x ∈ gW) ∧ rowOK MT wl w = true
def retOK (rty : Option FieldType) (op : Instr) (v : Option Value) : Prop := match op with
  | .ireturn => ∃ x, v = some (.int x) ∧ (rty = some .int ∨ (rty = some .boolean ∧ isb x))
  | .lreturn => ∃ x, v = some (.long x) ∧ rty = some .long
  | .areturn => ((∃ n, rty = some (.object n)) ∨ ∃ t, rty = some (.array t)) ∧ ∃ r, v = some (orv r)
  | .return_ => v = none ∧ rty = none
  | _ => False
theorem swO_in {k : Fr → Prop} {x : Int32} {pc : Nat} {lv : Lv} {st : List Value} {E : En} {σ : St} {f : Fr} : ∀ (os : List Int) (v : Int32) (j : Nat) (o : Int), os[j]? = some o → x = v + nI j → (∀ i, i < j → x ≠ v + nI i) → swO k (swC x pc lv st E σ v os) f → k (((pc : Int) + o).toNat, lv, st, E, σ)
  | [], v, j, o, h, _, _, _ => by simp at h
  | a :: os, v, 0, o, h, hx, _, hs => by
    simp at h; subst h
    exact hs.1 (by rw [hx, nI_0]; simp)
  | a :: os, v, j + 1, o, h, hx, hn, hs => by
    have h0 : ¬ x = v := fun q => hn 0 (by omega) (by rw [q, nI_0]; simp)
    refine swO_in os (v + 1) j o (by simpa using h) (by rw [hx, nI_succ]; ac_rfl) (fun i hi => ?_) (hs.2 h0)
    have := hn (i + 1) (by omega)
    rw [nI_succ] at this
    intro q; apply this; rw [q]; ac_rfl
theorem swO_out {k : Fr → Prop} {x : Int32} {pc : Nat} {lv : Lv} {st : List Value} {E : En} {σ : St} {f : Fr} : ∀ (os : List Int) (v : Int32), (∀ i, i < os.length → x ≠ v + nI i) → swO k (swC x pc lv st E σ v os) f → k f
  | [], v, _, hs => hs
  | a :: os, v, hn, hs => by
    have h0 : ¬ x = v := fun q => hn 0 (by simp) (by rw [q, nI_0]; simp)
    refine swO_out os (v + 1) (fun i hi => ?_) (hs.2 h0)
    have := hn (i + 1) (by simp; omega)
    rw [nI_succ] at this
    intro q; apply this; rw [q]; ac_rfl
theorem tget {r : Option Value} {ad : Nat → Nat} {st : List Value} : (r.map (cv ad)).toList ++ st.map (cv ad) = (r.toList ++ st).map (cv ad) := by cases r <;> simp
theorem x_run {p : Program} {l : Launch} {e : Env} {R : Room} {s : State} {m : MethodId} {args : Array Value} {below : List Frame} {meth : Method} {c : Code} {Q : State → Prop} {B : Nat} {ad : Nat → Nat} {D : va_G} {ca : Nat → ClassId} {H : Heap} {locs : List Loc} {cells slots mc ms pc : Nat} {ls : Array Slot} {st0 rest : List Value} {r : Option Value} {E1 : En} {σ1 : St} {a : Array Value} (hr : va_Run p l e R s m args below meth c H locs cells slots mc ms (F0 m pc ls st0) rest (cPost B ad D ca r E1 σ1 a) (fun q => B ≤ q)) (hS : va_S (fun q => B ≤ q) s.heap H locs)
    (kk : ∀ (H1 : Heap) (locs1 : List Loc), HR B ad D ca E1 σ1 H1 → va_S (fun q => B ≤ q) s.heap H1 locs1 → W p l e R s m args below meth c H1 locs1 (cells + mc) (slots + ms) Q (F0 m (pc + 3) ls ((r.map (cv ad)).toList ++ rest))) : W p l e R s m args below meth c H locs cells slots Q (F0 m pc ls st0) := by
  intro T hT X
  obtain ⟨v, st₀, t, T2, L, h0, X2, hL, e1, e2, ⟨hv, hp, hz, hkq⟩, st⟩ := hr T hT X
  cases hv
  rw [h0] at hz hkq
  obtain ⟨t2, a1, b1⟩ := kk T2.heap (locs ++ L) (by rw [e1]; exact hp) ⟨Nat.le_trans hS.1 (by rw [e1]; exact hz), fun q h1 h2 => by rw [e1, hkq q (Nat.lt_of_lt_of_le h1 hS.1) h2]; exact hS.2.1 q h1 h2, fun q hq => by
      rcases List.mem_append.mp hq with h | h
      · exact hS.2.2 q h
      · exact hL q h⟩ T2 rfl X2
  exact ⟨t2, st t2 a1, b1⟩
theorem aw5 {p : Program} {l : Launch} {e : Env} {R : Room} {s : State} {m : MethodId} {args : Array Value} {below : List Frame} {meth : Method} {c : Code} {Q : State → Prop} {cc : ByteArray} {nL : Nat} {own : String} {B : Nat} {ad : Nat → Nat} {D : va_G} {ca : Nat → ClassId} {sc : Nat × (Nat → Int32)} {d z0 y0 Z Y : Nat} {pc pc2 N : Nat} {lv : Lv} {st st2 : List Value} {E E2 : En} {σ σ2 : St} (C : Cx p R s m args c cc nL own B ad D ca sc d z0 y0 Z Y) (hz : eZ E2 = eZ E + 1) (hy : eY E2 = eY E + N) (h : AWf p l e R s m args below meth c Q nL B ad D ca z0 y0 Z Y (pc2, lv, st2, E2, σ2)) (k : ∀ (H : Heap) (locs : List Loc) (ls : Array Slot) (cells slots : Nat), eZ E + 1 ≤ 1000000 → cells + 1 ≤ R.cells → slots + N ≤ R.slots → va_S (fun q => B ≤ q) s.heap H locs → HR B ad D ca E σ H → (∀ (H2 : Heap), HR B ad D ca E2 σ2 H2 → va_S (fun q => B ≤ q) s.heap H2 locs → W p l e R s m args below meth c H2 locs (cells + 1) (slots + N) Q (F0 m pc2 ls (st2.map (cv ad)))) → W p l e R s m args below meth c H locs cells slots Q (F0 m pc ls (st.map (cv ad)))) : AWf p l e R s m args below meth c Q nL B ad D ca z0 y0 Z Y (pc, lv, st, E, σ) := by
  obtain ⟨-, -, -, -, -, -, -, -, hc, ⟨hs, hm⟩, -⟩ := C
  have h0 := h.1
  simp only [hz, hy] at h0
  refine ⟨⟨by show eZ E ≤ Z; omega, by show eY E ≤ Y; omega⟩, fun H locs ls h1 h2 h3 h4 h5 => ?_⟩
  have h1 : z0 ≤ eZ E := h1
  have h2 : y0 ≤ eY E := h2
  refine k H locs ls _ _ (by omega) (by show eZ E - z0 + 1 ≤ R.cells; omega) (by show eY E - y0 + N ≤ R.slots; omega) h4 h3 fun H2 h6 h7 => ?_
  have h8 := h.2 H2 locs ls (by show z0 ≤ eZ E2; omega) (by show y0 ≤ eY E2; omega) h6 h7 h5
  have e1 : eZ E2 - z0 = eZ E - z0 + 1 := by omega
  have e2 : eY E2 - y0 = eY E - y0 + N := by omega
  simp only [e1, e2] at h8
  exact h8
theorem aw5b {p : Program} {l : Launch} {e : Env} {R : Room} {s : State} {m : MethodId} {args : Array Value} {below : List Frame} {meth : Method} {c : Code} {Q : State → Prop} {cc : ByteArray} {nL : Nat} {own : String} {B : Nat} {ad : Nat → Nat} {D : va_G} {ca : Nat → ClassId} {sc : Nat × (Nat → Int32)} {d z0 y0 Z Y : Nat} {pc pc2 N : Nat} {lv : Lv} {st st2 : List Value} {E E2 : En} {σ σ2 : St} (C : Cx p R s m args c cc nL own B ad D ca sc d z0 y0 Z Y) (hz : eZ E2 = eZ E + 1) (hy : eY E2 = eY E + N) (h : AWf p l e R s m args below meth c Q nL B ad D ca z0 y0 Z Y (pc2, lv, st2, E2, σ2)) (k : ∀ (H : Heap) (locs : List Loc) (ls : Array Slot) (cells slots : Nat), eZ E + 1 ≤ 1000000 → cells + 1 ≤ R.cells → slots + N ≤ R.slots → va_S (fun q => B ≤ q) s.heap H locs → lv_has ls nL (cvL ad lv) → HR B ad D ca E σ H → (∀ (H2 : Heap), HR B ad D ca E2 σ2 H2 → va_S (fun q => B ≤ q) s.heap H2 locs → W p l e R s m args below meth c H2 locs (cells + 1) (slots + N) Q (F0 m pc2 ls (st2.map (cv ad)))) → W p l e R s m args below meth c H locs cells slots Q (F0 m pc ls (st.map (cv ad)))) : AWf p l e R s m args below meth c Q nL B ad D ca z0 y0 Z Y (pc, lv, st, E, σ) := by
  obtain ⟨-, -, -, -, -, -, -, -, hc, ⟨hs, hm⟩, -⟩ := C
  have h0 := h.1
  simp only [hz, hy] at h0
  refine ⟨⟨by show eZ E ≤ Z; omega, by show eY E ≤ Y; omega⟩, fun H locs ls h1 h2 h3 h4 h5 => ?_⟩
  have h1 : z0 ≤ eZ E := h1
  have h2 : y0 ≤ eY E := h2
  refine k H locs ls _ _ (by omega) (by show eZ E - z0 + 1 ≤ R.cells; omega) (by show eY E - y0 + N ≤ R.slots; omega) h4 h5 h3 fun H2 h6 h7 => ?_
  have h8 := h.2 H2 locs ls (by show z0 ≤ eZ E2; omega) (by show y0 ≤ eY E2; omega) h6 h7 h5
  have e1 : eZ E2 - z0 = eZ E - z0 + 1 := by omega
  have e2 : eY E2 - y0 = eY E - y0 + N := by omega
  simp only [e1, e2] at h8
  exact h8
theorem aw7 {p : Program} {l : Launch} {e : Env} {R : Room} {s : State} {m : MethodId} {args : Array Value} {below : List Frame} {meth : Method} {c : Code} {Q : State → Prop} {cc : ByteArray} {nL : Nat} {own : String} {B : Nat} {ad : Nat → Nat} {D : va_G} {ca : Nat → ClassId} {sc : Nat × (Nat → Int32)} {d z0 y0 Z Y : Nat} {pc pc2 : Nat} {lv : Lv} {st st2 : List Value} {E : En} {σ : St} (C : Cx p R s m args c cc nL own B ad D ca sc d z0 y0 Z Y) (h : AWf p l e R s m args below meth c Q nL B ad D ca z0 y0 Z Y (pc2, lv, st2, E, σ)) (k : ∀ (H : Heap) (locs : List Loc) (ls : Array Slot) (cells slots : Nat), cells ≤ R.cells → slots ≤ R.slots → lv_has ls nL (cvL ad lv) → W p l e R s m args below meth c H locs cells slots Q (F0 m pc2 ls (st2.map (cv ad))) → W p l e R s m args below meth c H locs cells slots Q (F0 m pc ls (st.map (cv ad)))) : AWf p l e R s m args below meth c Q nL B ad D ca z0 y0 Z Y (pc, lv, st, E, σ) := by
  obtain ⟨-, -, -, -, -, -, -, -, hc, ⟨hs, hm⟩, -⟩ := C
  have h0 := h.1
  have h0a : eZ E ≤ Z := h0.1
  have h0b : eY E ≤ Y := h0.2
  exact ⟨h.1, fun H locs ls h1 h2 h3 h4 h5 => k H locs ls _ _ (by show eZ E - z0 ≤ R.cells; omega) (by show eY E - y0 ≤ R.slots; omega) h5 (h.2 H locs ls h1 h2 h3 h4 h5)⟩
/-- a call's next frame, its room -/
theorem aw6 {p : Program} {l : Launch} {e : Env} {R : Room} {s : State} {m : MethodId} {args : Array Value} {below : List Frame} {meth : Method} {c : Code} {Q : State → Prop} {cc : ByteArray} {nL : Nat} {own : String} {B : Nat} {ad : Nat → Nat} {D : va_G} {ca : Nat → ClassId} {sc : Nat × (Nat → Int32)} {d z0 y0 Z Y : Nat} {MT : Nat → Option Mrow} {mi pc : Nat} {as : List Value} {lv : Lv} {st rest : List Value} {E E1 : En} {σ σ1 : St} {r : Option Value} {w : Mrow} (C : Cx p R s m args c cc nL own B ad D ca sc d z0 y0 Z Y) (hMT : TabP MT) (hw : MT mi = some w) (hcon : eZ E1 ≤ 1000000 → ConP l MT sc d mi as E σ r E1 σ1) (h : AWf p l e R s m args below meth c Q nL B ad D ca z0 y0 Z Y (pc + 3, lv, r.toList ++ rest, E1, σ1))
    (k : ∀ (H : Heap) (locs : List Loc) (ls : Array Slot) (cells slots : Nat), lv_has ls nL (cvL ad lv) → va_S (fun q => B ≤ q) s.heap H locs → HR B ad D ca E σ H → cells + (eZ E1 - eZ E) ≤ R.cells → slots + (eY E1 - eY E) ≤ R.slots → Cond.code w.1 w.2.1 w.2.2.1 w.2.2.2.1 ∈ gW → ((rmD d (eZ E1 - eZ E) (eY E1 - eY E)).frames + 1 ≤ R.frames ∧ 8 + (w.2.2.1 + 11) + (rmD d (eZ E1 - eZ E) (eY E1 - eY E)).locals ≤ R.locals) →
      Met l w.1 (Cond.code w.1 w.2.1 w.2.2.1 w.2.2.2.1 :: gW) (rmD d (eZ E1 - eZ E) (eY E1 - eY E)) (cPre B ad D ca sc as E σ) (cPost B ad D ca r E1 σ1) (eZ E1 - eZ E) (eY E1 - eY E) (fun q => B ≤ q) →
      (∀ (H1 : Heap) (locs1 : List Loc), HR B ad D ca E1 σ1 H1 → va_S (fun q => B ≤ q) s.heap H1 locs1 → W p l e R s m args below meth c H1 locs1 (cells + (eZ E1 - eZ E)) (slots + (eY E1 - eY E)) Q (F0 m (pc + 3) ls ((r.map (cv ad)).toList ++ rest.map (cv ad)))) →
      W p l e R s m args below meth c H locs cells slots Q (F0 m pc ls (st.map (cv ad)))) : AWf p l e R s m args below meth c Q nL B ad D ca z0 y0 Z Y (pc, lv, st, E, σ) := by
  obtain ⟨-, -, -, -, -, -, hfr, hlo, hc, ⟨hs, hm⟩, -⟩ := C
  have h0 := h.1
  have h0a : eZ E1 ≤ Z := h0.1
  have h0b : eY E1 ≤ Y := h0.2
  obtain ⟨m1, m2, w2, hw2, hmet⟩ := hcon (by omega)
  have hww : w2 = w := Option.some.inj (hw2.symm.trans hw)
  subst hww
  obtain ⟨wl2, hwl2, hr2⟩ := hMT _ _ hw
  simp only [rowOK, Bool.and_eq_true, decide_eq_true_eq] at hr2
  have hn45 := Nat.le_of_ble_eq_true hr2.1.1.1.2
  have hcd := hwl2 _ hr2.1.1.1.1
  refine ⟨⟨by show eZ E ≤ Z; omega, by show eY E ≤ Y; omega⟩, fun H locs ls h1 h2 h3 h4 h5 => ?_⟩
  have h1 : z0 ≤ eZ E := h1
  have h2 : y0 ≤ eY E := h2
  refine k H locs ls _ _ h5 h4 h3 (by show eZ E - z0 + _ ≤ R.cells; omega) (by show eY E - y0 + _ ≤ R.slots; omega) hcd ⟨by show d + 1 ≤ R.frames; exact hfr, by show 8 + (w2.2.2.1 + 11) + 64 * d ≤ R.locals; omega⟩ (hmet B ad D ca) fun H1 locs1 h6 h7 => ?_
  have h8 := h.2 H1 locs1 ls (by show z0 ≤ eZ E1; omega) (by show y0 ≤ eY E1; omega) h6 h7 h5
  have e1 : eZ E1 - z0 = eZ E - z0 + (eZ E1 - eZ E) := by omega
  have e2 : eY E1 - y0 = eY E - y0 + (eY E1 - eY E) := by omega
  simp only [e1, e2] at h8
  rw [tget]
  exact h8
theorem gW_in {y : MethodName} {b : ByteArray} {n : Nat} {r : Option FieldType} (h : Cond.code y b n r ∈ gW) : GoodIn gW (Cond.code y b n r :: gW) := by
  intro w hw
  rcases List.mem_cons.mp hw with e | e
  · rw [e]; exact ⟨h, gW_good h⟩
  · exact ⟨e, gW_good e⟩
theorem okY_spec {y : MethodName} {n : Nat} (h : okY y n = true) : y.cls ≠ "java/lang/invoke/MethodHandle" ∧ y.cls ≠ "java/lang/invoke/VarHandle" ∧ (parseMethodDescriptor y.desc).map (fun d => d.parameters.length) = some n := by
  simp only [okY, Bool.and_eq_true, decide_eq_true_eq] at h
  exact ⟨h.1.1, h.1.2, h.2⟩
theorem st_split (ad : Nat → Nat) (st : List Value) (n : Nat) : st.map (cv ad) = (((st.take n).reverse).map (cv ad)).reverse ++ (st.drop n).map (cv ad) := by
  rw [← List.map_reverse, List.reverse_reverse, ← List.map_append, List.take_append_drop]
def isC : Instr → Bool
  | .new _ => true
  | .newarray _ => true
  | .anewarray _ => true
  | .checkcast _ => true
  | .aastore => true
  | .tableswitch _ _ _ _ => true
  | .ireturn => true
  | .lreturn => true
  | .areturn => true
  | .return_ => true
  | .invokestatic _ => true
  | .invokevirtual _ => true
  | .invokespecial _ => true
  | _ => false
set_option maxHeartbeats 8000000 in
set_option maxRecDepth 100000 in
theorem sem_ok3 {p : Program} {l : Launch} {e : Env} {R : Room} {s : State} {m : MethodId} {args : Array Value} {below : List Frame} {meth : Method} {c : Code} {Q : State → Prop} {cc : ByteArray} {nL : Nat} {own : String} {B : Nat} {ad : Nat → Nat} {D : va_G} {ca : Nat → ClassId} {sc : Nat × (Nat → Int32)} {d z0 y0 Z Y : Nat} {rty : Option FieldType} {MT : Nat → Option Mrow} {wl : List Cond} {ini : Bool} {cl : Ct} {rt : Rt} (C : Cx p R s m args c cc nL own B ad D ca sc d z0 y0 Z Y) (hwl : ∀ w ∈ wl, w ∈ gW) (hMT : TabP MT) (hcl : ∀ (mi : Nat) (as : List Value) (E : En) (σ : St) (r : Option Value) (E1 : En) (σ1 : St), cl mi as E σ r E1 σ1 → eZ E1 ≤ 1000000 → ConP l MT sc d mi as E σ r E1 σ1) (hrt : ∀ (v : Option Value) (E1 : En) (σ1 : St), rt v E1 σ1 → (eZ E1 ≤ Z ∧ eY E1 ≤ Y) ∧ ∀ (op : Instr) (pc : Nat) (H : Heap) (locs : List Loc) (ls : Array Slot), retOK rty op v → decode cc pc = .ok (op, 1) → z0 ≤ eZ E1 → y0 ≤ eY E1 → HR B ad D ca E1 σ1 H → va_S (fun q => B ≤ q) s.heap H locs → W p l e R s m args below meth c H locs (eZ E1 - z0) (eY E1 - y0) Q (F0 m pc ls (v.map (cv ad)).toList)) {pc : Nat} {op : Instr} {n : Nat} {x : Xt} {lv : Lv} {st : List Value} {E : En} {σ : St} (hd : decode cc pc = .ok (op, n)) (hok : okx MT wl own ini (pc, op, n, x) = true) {k : Fr → Prop} (hk : ∀ f, k f → AWf p l e R s m args below meth c Q nL B ad D ca z0 y0 Z Y f)
    (h : runO cl rt E σ k (sem nL rty sc (pc, op, n, x) lv st E σ)) (hkind : isC op = true) : AWf p l e R s m args below meth c Q nL B ad D ca z0 y0 Z Y (pc, lv, st, E, σ) := by
  have hx := C.1
  have hb := C.2.1
  have hml := C.2.2.1
  have hown := C.2.2.2.1
  have hts := C.2.2.2.2.1
  have hG := C.2.2.2.2.2.1
  have hfr := C.2.2.2.2.2.2.1
  have hlo := C.2.2.2.2.2.2.2.1
  cases op with
  | new i => 
    simp only [okx, Bool.and_eq_true] at hok
    obtain ⟨q1, q2⟩ := hok
    obtain rfl := Nat.eq_of_beq_eq_true q1
    split at q2
    rotate_left
    · cases q2
    rename_i q hq
    simp only [Bool.and_eq_true, decide_eq_true_eq] at q2
    obtain ⟨⟨⟨q3, q4⟩, q5⟩, q6⟩ := q2
    exact aw5 (E2 := nO E (xA x + 1) (xB x)) C rfl rfl (hk _ h) fun H locs ls cells slots g1 g2 g3 hS hH w => x_new C hH hS hq (Nat.eq_of_beq_eq_true q3) (hwl _ q4) (hwl _ q5) (hwl _ q6) g1 g2 g3 hd w
  | newarray t => 
    simp only [okx, Bool.and_eq_true, Bool.or_eq_true, decide_eq_true_eq] at hok
    obtain ⟨⟨q1, q2⟩, q3⟩ := hok
    obtain rfl := Nat.eq_of_beq_eq_true q1
    dsimp only [sem] at h
    split at h
    · rename_i n r
      rcases q3 with (⟨q3, q4⟩ | ⟨q3, q4⟩) | ⟨q3, q4⟩
      · have q5 : xA x = 20 := Nat.eq_of_beq_eq_true q3
        rw [q5] at h
        exact aw5 (E2 := nA E 20 n.toNatClampNeg) C rfl rfl (hk _ h.2) fun H locs ls cells slots g1 g2 g3 hS hH w => x_newaI C hH hS q4 (hwl _ q2) h.1.1 h.1.2 g1 g2 g3 hd w
      · have q5 : xA x = 21 := Nat.eq_of_beq_eq_true q3
        rw [q5] at h
        exact aw5 (E2 := nA E 21 n.toNatClampNeg) C rfl rfl (hk _ h.2) fun H locs ls cells slots g1 g2 g3 hS hH w => x_newaJ C hH hS q4 (hwl _ q2) h.1.1 h.1.2 g1 g2 g3 hd w
      · have q5 : xA x = 22 := Nat.eq_of_beq_eq_true q3
        rw [q5] at h
        exact aw5 (E2 := nA E 22 n.toNatClampNeg) C rfl rfl (hk _ h.2) fun H locs ls cells slots g1 g2 g3 hS hH w => x_newaZ C hH hS q4 (hwl _ q2) h.1.1 h.1.2 g1 g2 g3 hd w
    · exact h.elim
  | anewarray i => 
    simp only [okx, Bool.and_eq_true, decide_eq_true_eq] at hok
    obtain ⟨q1, q2⟩ := hok
    obtain rfl := Nat.eq_of_beq_eq_true q1
    dsimp only [sem] at h
    split at h
    · rename_i n r
      exact aw5 (E2 := nA E 23 n.toNatClampNeg) C rfl rfl (hk _ h.2) fun H locs ls cells slots g1 g2 g3 hS hH w => x_newq C hH hS (hwl _ q2) h.1.1 h.1.2 g1 g2 g3 hd w
    · exact h.elim
  | checkcast i => 
    simp only [okx, Bool.and_eq_true, decide_eq_true_eq] at hok
    obtain ⟨q1, q2⟩ := hok
    obtain rfl := Nat.eq_of_beq_eq_true q1
    dsimp only [sem] at h
    split at h
    · rename_i a r
      cases hc : Nat.beq (eK E a) 20 with
      | true =>
        rw [hc] at h
        exact aw1 (hk _ h) fun H locs ls _ _ hS _ hH w => x_cast C hH hS (hwl _ q2) (Nat.eq_of_beq_eq_true hc) hd w
      | false => rw [hc] at h; exact h.elim
    · exact h.elim
  | aastore => 
    obtain rfl := Nat.eq_of_beq_eq_true hok
    dsimp only [sem] at h
    split at h
    · rename_i v i a r
      cases hc : (Nat.beq (eK E a) 23 && Nat.beq (eK E v) 5) with
      | true =>
        rw [hc] at h
        simp only [Bool.and_eq_true] at hc
        exact aw4 rfl rfl (hk _ h.2) fun H locs ls _ _ hS _ hH w => x_aast C hH hS (Nat.eq_of_beq_eq_true hc.1) (Nat.eq_of_beq_eq_true hc.2) h.1 hd w
      | false => rw [hc] at h; exact h.elim
    · exact h.elim
  | tableswitch df lo hi offs => 
    simp only [okx, Bool.and_eq_true, decide_eq_true_eq] at hok
    obtain ⟨⟨⟨⟨⟨⟨q1, q2⟩, q3⟩, q4⟩, q5⟩, q6⟩, q7⟩ := hok
    subst q1
    dsimp only [sem] at h
    split at h
    · rename_i a r
      rw [q2] at h
      by_cases hin : 0 ≤ a.toInt ∧ a.toInt ≤ hi
      · obtain ⟨i1, i2⟩ := hin
        have hj : a.toInt.toNat < offs.size := by omega
        have ha : a = nI a.toInt.toNat := by
          apply Int32.toInt_inj.mp
          rw [nI_toInt (by omega)]; omega
        have h0 : offs.toList[a.toInt.toNat]? = some offs[a.toInt.toNat] := by rw [Array.getElem?_toList]; exact Array.getElem?_eq_getElem hj
        have hp : 0 ≤ (pc : Int) + offs[a.toInt.toNat] := by
          have := List.all_eq_true.mp q7 _ (List.mem_of_getElem? h0)
          exact of_decide_eq_true this
        have hf := hk _ (swO_in offs.toList 0 a.toInt.toNat _ h0 (by rw [Int32.zero_add]; exact ha) (fun i hi hq => by
          rw [Int32.zero_add, ha, nI_eq (by omega) (by omega)] at hq; omega) h)
        exact aw1 hf fun H locs ls _ _ _ _ _ w => lv_tableIn hx hb hd (by omega) (by omega) (by rw [Int.sub_zero]; exact Array.getElem?_eq_getElem hj) (by omega) w
      · have hf := hk _ (swO_out offs.toList 0 (fun i hi hq => by
          rw [Int32.zero_add] at hq
          apply hin
          rw [hq, nI_toInt (by simp at hi; omega)]
          simp at hi
          omega) h)
        exact aw1 hf fun H locs ls _ _ _ _ _ w => lv_tableOut hx hb hd (by omega) (by omega) w
    · exact h.elim
  | ireturn => 
    obtain rfl := Nat.eq_of_beq_eq_true hok
    dsimp only [sem] at h
    split at h
    · rename_i v
      obtain ⟨g1, g2⟩ := hrt _ _ _ h.2
      exact ⟨g1, fun H locs ls z1 z2 h3 h4 _ => g2 .ireturn pc H locs ls (⟨v, rfl, Or.inl rfl⟩) hd z1 z2 h3 h4⟩
    · rename_i v
      obtain ⟨g1, g2⟩ := hrt _ _ _ h.2
      exact ⟨g1, fun H locs ls z1 z2 h3 h4 _ => g2 .ireturn pc H locs ls (⟨v, rfl, Or.inr ⟨rfl, h.1⟩⟩) hd z1 z2 h3 h4⟩
    · exact h.elim
  | lreturn => 
    obtain rfl := Nat.eq_of_beq_eq_true hok
    dsimp only [sem] at h
    split at h
    · rename_i v
      obtain ⟨g1, g2⟩ := hrt _ _ _ h.2
      exact ⟨g1, fun H locs ls z1 z2 h3 h4 _ => g2 .lreturn pc H locs ls (⟨v, rfl, rfl⟩) hd z1 z2 h3 h4⟩
    · exact h.elim
  | areturn => 
    obtain rfl := Nat.eq_of_beq_eq_true hok
    dsimp only [sem] at h
    split at h
    · rename_i nm v
      obtain ⟨g1, g2⟩ := hrt _ _ _ h.2
      exact ⟨g1, fun H locs ls z1 z2 h3 h4 _ => g2 .areturn pc H locs ls (⟨Or.inl ⟨_, rfl⟩, some v, rfl⟩) hd z1 z2 h3 h4⟩
    · rename_i nm v
      obtain ⟨g1, g2⟩ := hrt _ _ _ h.2
      exact ⟨g1, fun H locs ls z1 z2 h3 h4 _ => g2 .areturn pc H locs ls (⟨Or.inr ⟨_, rfl⟩, some v, rfl⟩) hd z1 z2 h3 h4⟩
    · rename_i nm
      obtain ⟨g1, g2⟩ := hrt _ _ _ h.2
      exact ⟨g1, fun H locs ls z1 z2 h3 h4 _ => g2 .areturn pc H locs ls (⟨Or.inl ⟨_, rfl⟩, none, rfl⟩) hd z1 z2 h3 h4⟩
    · exact h.elim
  | return_ => 
    obtain rfl := Nat.eq_of_beq_eq_true hok
    dsimp only [sem] at h
    split at h
    · skip
      obtain ⟨g1, g2⟩ := hrt _ _ _ h.2
      exact ⟨g1, fun H locs ls z1 z2 h3 h4 _ => g2 .return_ pc H locs ls (⟨rfl, rfl⟩) hd z1 z2 h3 h4⟩
    · exact h.elim
  | invokestatic i => 
    simp only [okx, Bool.and_eq_true] at hok
    obtain ⟨q1, q2⟩ := hok
    obtain rfl := Nat.eq_of_beq_eq_true q1
    dsimp only [sem] at h
    split at q2
    · rename_i hxc
      replace h : runO cl rt E σ k (bif Nat.ble (xB x) st.length && Nat.ble (catS (st.drop (xB x))) 8 then oCl (xA x) (st.take (xB x)).reverse (pc + 3) lv (st.drop (xB x)) else none) := by
        have h2 : runO cl rt E σ k (sStat (xC x) pc x lv st E σ) := h
        rw [hxc] at h2
        exact h2
      split at q2
      rotate_left
      · cases q2
      rename_i w hw
      simp only [okM, Bool.and_eq_true, Bool.or_eq_true, decide_eq_true_eq] at q2
      obtain ⟨⟨⟨q3, q4⟩, q5⟩, q6⟩ := q2
      cases hc : (Nat.ble (xB x) st.length && Nat.ble (catS (st.drop (xB x))) 8) with
      | false => rw [hc] at h; exact h.elim
      | true =>
        rw [hc] at h
        simp only [Bool.and_eq_true] at hc
        obtain ⟨hlen, hcat⟩ := hc
        have hlen := Nat.le_of_ble_eq_true hlen
        obtain ⟨r, E1, σ1, hcl1, hkk⟩ := h
        refine aw6 (pc := pc) (rest := st.drop (xB x)) C hMT hw (hcl _ _ _ _ _ _ _ hcl1) (hk _ hkk) fun H locs ls cells slots hl hS hH g1 g2 hcd g3 M kk => ?_
        rw [st_split ad st (xB x)]
        rcases q3 with q3 | q3
        · exact x_run (va_runS (As := (st.take (xB x)).reverse.map (cv ad)) (rest := (st.drop (xB x)).map (cv ad)) ⟨hx, hb, hml, hown, hts⟩ M ⟨callB_of (xB x) hts (gW_in hcd) rfl rfl rfl (hts _ (hwl _ q6)) (hts _ (hwl _ q3)) (okY_spec q4) g3, hts _ (hwl _ q5)⟩ ⟨cPre_blind, fun U hU hWm => ⟨rfl, by rw [hU]; exact hH, hG.to hWm (by rw [hU]; exact hS.2.1)⟩⟩ rfl (by simp; omega) hl.1 rfl (lv_room (by rw [cv_catS]; exact Nat.le_of_ble_eq_true hcat)) hd ⟨g1, g2⟩) hS kk
        · exact x_run (va_runSN (As := (st.take (xB x)).reverse.map (cv ad)) (rest := (st.drop (xB x)).map (cv ad)) ⟨hx, hb, hml, hown, hts⟩ M ⟨va_cnB (xB x) hts (gW_in hcd) rfl rfl rfl (hG.2.1 _ q3) (hts _ (hwl _ q6)) (okY_spec q4) g3, hts _ (hwl _ q5), trivial⟩ ⟨cPre_blind, fun U hU hWm => ⟨rfl, by rw [hU]; exact hH, hG.to hWm (by rw [hU]; exact hS.2.1)⟩⟩ rfl (by simp; omega) hl.1 rfl (lv_room (by rw [cv_catS]; exact Nat.le_of_ble_eq_true hcat)) hd ⟨g1, g2⟩) hS kk
    · rename_i hxc
      replace h : runO cl rt E σ k (sCopy pc lv st E σ) := by
        have h2 : runO cl rt E σ k (sStat (xC x) pc x lv st E σ) := h
        rw [hxc] at h2
        exact h2
      simp only [Bool.and_eq_true, decide_eq_true_eq] at q2
      obtain ⟨⟨⟨q3, q4⟩, q5⟩, q6⟩ := q2
      unfold sCopy at h
      split at h
      · rename_i n dp a2 sp a r
        cases hc : (Nat.beq (eK E a) 20 && Nat.beq (eK E a2) 20 && !(Nat.beq a a2) && Nat.ble (catS r) 8) with
        | false => rw [hc] at h; exact h.elim
        | true =>
          rw [hc] at h
          simp only [Bool.and_eq_true, Bool.not_eq_true'] at hc
          obtain ⟨⟨⟨c1, c2⟩, c3⟩, c4⟩ := hc
          obtain ⟨⟨e1, e2, e3, e4, e5⟩, hkk⟩ := h
          exact aw4 rfl rfl (hk _ hkk) fun H locs ls _ _ hS hl hH w => x_copy C hH hS hl.1 (hwl _ q3) (hwl _ q4) (hwl _ q5) (hwl _ q6) (Nat.eq_of_beq_eq_true c1) (Nat.eq_of_beq_eq_true c2) (Nat.ne_of_beq_eq_false c3) e1 e2 e3 e4 e5 (by rw [cv_catS]; exact Nat.le_of_ble_eq_true c4) hd w
      · exact h.elim
    · rename_i hxc
      replace h : runO cl rt E σ k (sMax pc lv st E σ) := by
        have h2 : runO cl rt E σ k (sStat (xC x) pc x lv st E σ) := h
        rw [hxc] at h2
        exact h2
      simp only [Bool.and_eq_true, decide_eq_true_eq] at q2
      obtain ⟨⟨⟨q3, q4⟩, q5⟩, q6⟩ := q2
      unfold sMax at h
      split at h
      · rename_i b a r
        cases hcat : Nat.ble (catS r) 8 with
        | false => rw [hcat] at h; exact h.elim
        | true =>
          rw [hcat] at h
          have hs8 : ((r.map (cv ad)).map fun v => v.category).sum ≤ 8 := by rw [cv_catS]; exact Nat.le_of_ble_eq_true hcat
          exact aw7 C (hk _ h) fun H locs ls cells slots hc1 hc2 hl w => va_mmax hx hb (hml.trans hl.1.symm) hown (hts _ (hwl _ q3)) (hts _ (hwl _ q4)) (hts _ (hwl _ q5)) (hts _ (hwl _ q6)) (by omega) (by omega) hc1 hc2 hd w
      · exact h.elim
    · rename_i hxc
      replace h : runO cl rt E σ k (sMin pc lv st E σ) := by
        have h2 : runO cl rt E σ k (sStat (xC x) pc x lv st E σ) := h
        rw [hxc] at h2
        exact h2
      simp only [Bool.and_eq_true, decide_eq_true_eq] at q2
      obtain ⟨⟨⟨q3, q4⟩, q5⟩, q6⟩ := q2
      unfold sMin at h
      split at h
      · rename_i b a r
        cases hcat : Nat.ble (catS r) 8 with
        | false => rw [hcat] at h; exact h.elim
        | true =>
          rw [hcat] at h
          have hs8 : ((r.map (cv ad)).map fun v => v.category).sum ≤ 8 := by rw [cv_catS]; exact Nat.le_of_ble_eq_true hcat
          exact aw7 C (hk _ h) fun H locs ls cells slots hc1 hc2 hl w => va_mmin hx hb (hml.trans hl.1.symm) hown (hts _ (hwl _ q3)) (hts _ (hwl _ q4)) (hts _ (hwl _ q5)) (hts _ (hwl _ q6)) (by omega) (by omega) hc1 hc2 hd w
      · exact h.elim
    · rename_i hxc
      replace h : runO cl rt E σ k (sAbs pc lv st E σ) := by
        have h2 : runO cl rt E σ k (sStat (xC x) pc x lv st E σ) := h
        rw [hxc] at h2
        exact h2
      simp only [Bool.and_eq_true, decide_eq_true_eq] at q2
      obtain ⟨⟨⟨q3, q4⟩, q5⟩, q6⟩ := q2
      unfold sAbs at h
      split at h
      · rename_i a r
        cases hcat : Nat.ble (catS r) 8 with
        | false => rw [hcat] at h; exact h.elim
        | true =>
          rw [hcat] at h
          have hs8 : ((r.map (cv ad)).map fun v => v.category).sum ≤ 8 := by rw [cv_catS]; exact Nat.le_of_ble_eq_true hcat
          exact aw7 C (hk _ h) fun H locs ls cells slots hc1 hc2 hl w => va_mabs hx hb (hml.trans hl.1.symm) hown (hts _ (hwl _ q3)) (hts _ (hwl _ q4)) (hts _ (hwl _ q5)) (hts _ (hwl _ q6)) (by omega) (by omega) hc1 hc2 hd w
      · exact h.elim
    · rename_i hxc
      replace h : runO cl rt E σ k (sMaxL pc lv st E σ) := by
        have h2 : runO cl rt E σ k (sStat (xC x) pc x lv st E σ) := h
        rw [hxc] at h2
        exact h2
      simp only [Bool.and_eq_true, decide_eq_true_eq] at q2
      obtain ⟨⟨⟨q3, q4⟩, q5⟩, q6⟩ := q2
      unfold sMaxL at h
      split at h
      · rename_i b a r
        cases hcat : Nat.ble (catS r) 8 with
        | false => rw [hcat] at h; exact h.elim
        | true =>
          rw [hcat] at h
          have hs8 : ((r.map (cv ad)).map fun v => v.category).sum ≤ 8 := by rw [cv_catS]; exact Nat.le_of_ble_eq_true hcat
          exact aw7 C (hk _ h) fun H locs ls cells slots hc1 hc2 hl w => va_mmax_long hx hb (hml.trans hl.1.symm) hown (hts _ (hwl _ q3)) (hts _ (hwl _ q4)) (hts _ (hwl _ q5)) (hts _ (hwl _ q6)) (by omega) (by omega) hc1 hc2 hd w
      · exact h.elim
    · rename_i hxc
      replace h : runO cl rt E σ k (sMinL pc lv st E σ) := by
        have h2 : runO cl rt E σ k (sStat (xC x) pc x lv st E σ) := h
        rw [hxc] at h2
        exact h2
      simp only [Bool.and_eq_true, decide_eq_true_eq] at q2
      obtain ⟨⟨⟨q3, q4⟩, q5⟩, q6⟩ := q2
      unfold sMinL at h
      split at h
      · rename_i b a r
        cases hcat : Nat.ble (catS r) 8 with
        | false => rw [hcat] at h; exact h.elim
        | true =>
          rw [hcat] at h
          have hs8 : ((r.map (cv ad)).map fun v => v.category).sum ≤ 8 := by rw [cv_catS]; exact Nat.le_of_ble_eq_true hcat
          exact aw7 C (hk _ h) fun H locs ls cells slots hc1 hc2 hl w => va_mmin_long hx hb (hml.trans hl.1.symm) hown (hts _ (hwl _ q3)) (hts _ (hwl _ q4)) (hts _ (hwl _ q5)) (hts _ (hwl _ q6)) (by omega) (by omega) hc1 hc2 hd w
      · exact h.elim
    · cases q2
  | invokevirtual i => 
    simp only [okx, Bool.and_eq_true] at hok
    obtain ⟨q1, q2⟩ := hok
    obtain rfl := Nat.eq_of_beq_eq_true q1
    dsimp only [sem] at h
    split at h
    rotate_left
    · exact h.elim
    rename_i a r hdr
    have hlen : xB x ≤ st.length := by
      rcases Nat.lt_or_ge st.length (xB x) with hl | hl
      · rw [List.drop_eq_nil_of_le (by omega)] at hdr; cases hdr
      · exact hl
    cases h98 : Nat.beq (xC x) 98 with
    | true =>
      rw [h98] at h q2
      simp only [cond_true, Bool.and_eq_true, decide_eq_true_eq] at q2 h
      obtain ⟨⟨⟨⟨q3, q4⟩, q5⟩, q6⟩, q7⟩ := q2
      cases hc : (Nat.beq (eK E a) 20 && Nat.beq (xB x) 0 && Nat.ble (catS r) 8) with
      | false => rw [hc] at h; exact h.elim
      | true =>
        rw [hc] at h
        simp only [Bool.and_eq_true] at hc
        obtain ⟨⟨c1, c2⟩, c3⟩ := hc
        have c2 := Nat.eq_of_beq_eq_true c2
        rw [c2, List.drop_zero] at hdr
        subst hdr
        exact aw5b (E2 := nA E 20 (eL E a)) C rfl rfl (hk _ h) fun H locs ls cells slots g1 g2 g3 hS hl hH w => x_clone C hH hS hl.1 (hwl _ q3) (hwl _ q4) (hwl _ q5) (hwl _ q6) (hwl _ q7) (Nat.eq_of_beq_eq_true c1) g1 g2 g3 (by rw [cv_catS]; exact Nat.le_of_ble_eq_true c3) hd w
    | false =>
    rw [h98] at h q2
    simp only [cond_false] at h q2
    cases h99 : Nat.beq (xC x) 99 with
    | true =>
      rw [h99] at h q2
      simp only [cond_true] at h q2
      split at q2
      rotate_left
      · cases q2
      rename_i w hw
      simp only [Bool.and_eq_true, decide_eq_true_eq] at q2
      obtain ⟨⟨⟨⟨⟨q7, q3⟩, q4⟩, q5⟩, q8⟩, q6⟩ := q2
      cases hc : (Nat.beq a LN && Nat.ble (catS r) 8) with
      | false => rw [hc] at h; exact h.elim
      | true =>
        rw [hc] at h
        simp only [Bool.and_eq_true] at hc
        obtain ⟨hK, hcat⟩ := hc
        have hK := Nat.eq_of_beq_eq_true hK
        subst hK
        obtain ⟨r1, E1, σ1, hcl1, hkk⟩ := h
        refine aw6 (pc := pc) (rest := r) C hMT hw (hcl _ _ _ _ _ _ _ hcl1) (hk _ hkk) fun H locs ls cells slots hl hS hH g1 g2 hcd g3 M kk => ?_
        rw [st_split ad st (xB x), hdr]
        obtain ⟨av, hSt⟩ := hG.2.2.2.2.2.2.2.2.2.2.2
        obtain ⟨cell, z1, z2, z3, z4⟩ := (hSt.1.1 0 (by omega)).1
        exact x_run (va_runV (C := "java/lang/String") (b := ad LN) (As := (st.take (xB x)).reverse.map (cv ad)) (rest := r.map (cv ad)) ⟨hx, hb, hml, hown, hts⟩ M ⟨callB_of (xB x) hts (gW_in hcd) rfl rfl rfl (hts _ (hwl _ q6)) (hts _ (hwl _ q3)) (okY_spec q4) g3, hts _ (hwl _ q5), hts _ (hwl _ q8)⟩ ⟨cPre_blind, ⟨cell, by rw [hS.2.1 _ (Array.getElem?_eq_some_iff.mp z1).1 z4]; exact z1, z2, z3⟩, fun U hU hWm => ⟨rfl, by rw [hU]; exact hH, hG.to hWm (by rw [hU]; exact hS.2.1)⟩⟩ rfl (by simp; omega) hl.1 rfl (lv_room (by rw [cv_catS]; exact Nat.le_of_ble_eq_true hcat)) hd ⟨g1, g2⟩) hS kk
    | false =>
    rw [h99] at h q2
    simp only [cond_false] at h q2
    split at q2
    rotate_left
    · cases q2
    rename_i w q hw hq
    simp only [okM, Bool.and_eq_true, Bool.or_eq_true, decide_eq_true_eq] at q2
    obtain ⟨⟨⟨⟨⟨q7, q3⟩, q4⟩, q5⟩, q8⟩, q6⟩ := q2
    cases hc : (Nat.beq (eK E a) (xC x + 1) && Nat.ble (catS r) 8) with
    | false => rw [hc] at h; exact h.elim
    | true =>
      rw [hc] at h
      simp only [Bool.and_eq_true] at hc
      obtain ⟨hK, hcat⟩ := hc
      have hK := Nat.eq_of_beq_eq_true hK
      obtain ⟨r1, E1, σ1, hcl1, hkk⟩ := h
      refine aw6 (pc := pc) (rest := r) C hMT hw (hcl _ _ _ _ _ _ _ hcl1) (hk _ hkk) fun H locs ls cells slots hl hS hH g1 g2 hcd g3 M kk => ?_
      have ha : ad a = B + a := hG.2.2.2.2.2.2.2.1 a (Nat.lt_of_lt_of_le (hH.lt hK) hH.2.1)
      rw [st_split ad st (xB x), hdr]
      rcases q3 with q3 | q3
      · exact x_run (va_runV (C := q.1) (b := ad a) (As := (st.take (xB x)).reverse.map (cv ad)) (rest := r.map (cv ad)) ⟨hx, hb, hml, hown, hts⟩ M ⟨callB_of (xB x) hts (gW_in hcd) rfl rfl rfl (hts _ (hwl _ q6)) (hts _ (hwl _ q3)) (okY_spec q4) g3, hts _ (hwl _ q5), hts _ (hwl _ q8)⟩ ⟨cPre_blind, (by obtain ⟨cell, z1, z2, z3, -⟩ := (hH.2.2.2 a).2.2.2.2 _ _ hK hq; exact ⟨cell, by rw [ha]; exact z1, by rw [z3]; rfl, by rw [z2]; exact (hG.1.1 _ _ hq).2.1⟩), fun U hU hWm => ⟨rfl, by rw [hU]; exact hH, hG.to hWm (by rw [hU]; exact hS.2.1)⟩⟩ rfl (by simp; omega) hl.1 rfl (lv_room (by rw [cv_catS]; exact Nat.le_of_ble_eq_true hcat)) hd ⟨g1, g2⟩) hS kk
      · exact x_run (va_runVN (C := q.1) (b := ad a) (As := (st.take (xB x)).reverse.map (cv ad)) (rest := r.map (cv ad)) ⟨hx, hb, hml, hown, hts⟩ M ⟨va_cnB (xB x) hts (gW_in hcd) rfl rfl rfl (hG.2.1 _ q3) (hts _ (hwl _ q6)) (okY_spec q4) g3, hts _ (hwl _ q5), hts _ (hwl _ q8)⟩ ⟨cPre_blind, (by obtain ⟨cell, z1, z2, z3, -⟩ := (hH.2.2.2 a).2.2.2.2 _ _ hK hq; exact ⟨cell, by rw [ha]; exact z1, by rw [z3]; rfl, by rw [z2]; exact (hG.1.1 _ _ hq).2.1⟩), fun U hU hWm => ⟨rfl, by rw [hU]; exact hH, hG.to hWm (by rw [hU]; exact hS.2.1)⟩⟩ rfl (by simp; omega) hl.1 rfl (lv_room (by rw [cv_catS]; exact Nat.le_of_ble_eq_true hcat)) hd ⟨g1, g2⟩) hS kk
  | invokespecial i => 
    simp only [okx, Bool.and_eq_true] at hok
    obtain ⟨q1, q2⟩ := hok
    obtain rfl := Nat.eq_of_beq_eq_true q1
    dsimp only [sem] at h
    split at h
    rotate_left
    · exact h.elim
    rename_i a r hdr
    cases hcat : Nat.ble (catS r) 8 with
    | false => rw [hcat] at h; exact h.elim
    | true =>
      rw [hcat] at h
      dsimp only [cond] at h
      have hlen : xB x ≤ st.length := by
        rcases Nat.lt_or_ge st.length (xB x) with hl | hl
        · rw [List.drop_eq_nil_of_le (by omega)] at hdr; cases hdr
        · exact hl
      split at q2
      · rename_i hxc
        rw [hxc] at h
        simp only [Bool.and_eq_true, decide_eq_true_eq] at q2
        obtain ⟨⟨⟨q3, q4⟩, q5⟩, q6⟩ := q2
        have q7 := Nat.eq_of_beq_eq_true q3
        rw [q7, List.drop_zero] at hdr
        subst hdr
        exact aw1 (hk _ h) fun H locs ls _ _ _ hl _ w => W.objInit hx hb hown (hts _ (hwl _ q4)) (hts _ (hwl _ q5)) (hts _ (hwl _ q6)) rfl (by rw [hml]; exact hl.1) rfl hd (by omega) (by have := lv_room (m := m) (pc := pc) (ls := ls) (rest := []) (st := r.map (cv ad)) (by rw [cv_catS]; exact Nat.le_of_ble_eq_true hcat); have h9 : 2 * (F0 m pc ls ((Value.ref a :: r).map (cv ad))).monitorRoom + ((r.map (cv ad)).map fun v => v.category).sum ≤ 8 := this; omega) w
      · rename_i hxc
        split at h
        · rename_i hx0; exact absurd hx0 hxc
        split at q2
        rotate_left
        · cases q2
        rename_i w hw
        simp only [okM, Bool.and_eq_true, Bool.or_eq_true, decide_eq_true_eq] at q2
        obtain ⟨⟨⟨⟨⟨q3, q4⟩, q7⟩, q8⟩, q5⟩, q6⟩ := q2
        obtain ⟨r1, E1, σ1, hcl1, hkk⟩ := h
        refine aw6 (pc := pc) (rest := r) C hMT hw (hcl _ _ _ _ _ _ _ hcl1) (hk _ hkk) fun H locs ls cells slots hl hS hH g1 g2 hcd g3 M kk => ?_
        rw [q8] at hcd M
        rw [st_split ad st (xB x), hdr]
        rcases q3 with q3 | q3
        · exact x_run (va_runI (b := ad a) (As := (st.take (xB x)).reverse.map (cv ad)) (rest := r.map (cv ad)) ⟨hx, hb, hml, hown, hts⟩ M ⟨callB_of (xB x) hts (gW_in hcd) rfl rfl rfl (hts _ (hwl _ q6)) (hts _ (hwl _ q3)) (okY_spec q4) g3, q7, hts _ (hwl _ q5)⟩ ⟨cPre_blind, fun U hU hWm => ⟨rfl, by rw [hU]; exact hH, hG.to hWm (by rw [hU]; exact hS.2.1)⟩⟩ rfl (by simp; omega) hl.1 rfl (lv_room (by rw [cv_catS]; exact Nat.le_of_ble_eq_true hcat)) hd ⟨g1, g2⟩) hS kk
        · exact x_run (va_runIN (b := ad a) (As := (st.take (xB x)).reverse.map (cv ad)) (rest := r.map (cv ad)) ⟨hx, hb, hml, hown, hts⟩ M ⟨va_cnB (xB x) hts (gW_in hcd) rfl rfl rfl (hG.2.1 _ q3) (hts _ (hwl _ q6)) (okY_spec q4) g3, q7, hts _ (hwl _ q5)⟩ ⟨cPre_blind, fun U hU hWm => ⟨rfl, by rw [hU]; exact hH, hG.to hWm (by rw [hU]; exact hS.2.1)⟩⟩ rfl (by simp; omega) hl.1 rfl (lv_room (by rw [cv_catS]; exact Nat.le_of_ble_eq_true hcat)) hd ⟨g1, g2⟩) hS kk
  | _ => cases hkind
