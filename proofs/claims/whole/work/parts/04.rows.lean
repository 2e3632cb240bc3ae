/-! ROWS: the small machine's instructions on the real one -/
def Cx (p : Program) (R : Room) (s : State) (m : MethodId) (args : Array Value) (c : Code) (cc : ByteArray) (nL : Nat) (own : String) (B : Nat) (ad : Nat → Nat) (D : va_G) (ca : Nat → ClassId) (sc : Nat × (Nat → Int32)) (d z0 y0 Z Y : Nat) : Prop :=
  p.tables.exec = Jvm.exec ∧ c.code = cc ∧ c.maxLocals = nL ∧ s.vm.findClass own = some m.cls ∧ (∀ w ∈ gW, w.before args s = true) ∧ kG B ad D ca sc s s.heap ∧ d + 1 ≤ R.frames ∧ 64 * d + 64 ≤ R.locals ∧ Z - z0 ≤ R.cells ∧ (Y - y0 ≤ R.slots ∧ Z ≤ 1000000) ∧ B ≤ s.heap.size
def AWf (p : Program) (l : Launch) (e : Env) (R : Room) (s : State) (m : MethodId) (args : Array Value) (below : List Frame) (meth : Method) (c : Code) (Q : State → Prop) (nL B : Nat) (ad : Nat → Nat) (D : va_G) (ca : Nat → ClassId) (z0 y0 Z Y : Nat) (f : Fr) : Prop :=
  (eZ f.2.2.2.1 ≤ Z ∧ eY f.2.2.2.1 ≤ Y) ∧ ∀ (H : Heap) (locs : List Loc) (ls : Array Slot), z0 ≤ eZ f.2.2.2.1 → y0 ≤ eY f.2.2.2.1 → HR B ad D ca f.2.2.2.1 f.2.2.2.2 H → va_S (fun q => B ≤ q) s.heap H locs → lv_has ls nL (cvL ad f.2.1) →
    W p l e R s m args below meth c H locs (eZ f.2.2.2.1 - z0) (eY f.2.2.2.1 - y0) Q (F0 m f.1 ls (f.2.2.1.map (cv ad)))
theorem lk_mem : ∀ {lv : Lv} {i : Nat} {v : Value}, lk lv i = some v → (i, v) ∈ lv
  | [], i, v, h => by cases h
  | q :: r, i, v, h => by
    unfold lk at h
    cases hb : Nat.beq q.1 i with
    | true =>
      rw [hb] at h
      cases h
      have : q.1 = i := Nat.eq_of_beq_eq_true hb
      subst this
      exact List.mem_cons_self
    | false => rw [hb] at h; exact List.mem_cons_of_mem _ (lk_mem h)
theorem lk_at {ls : Array Slot} {nL : Nat} {ad : Nat → Nat} {lv : Lv} {i : Nat} {v : Value} (h : lk lv i = some v) (hl : lv_has ls nL (cvL ad lv)) : ls[i]? = some (.val (cv ad v)) := hl.2.2 (i, cv ad v) (List.mem_map.mpr ⟨(i, v), lk_mem h, rfl⟩)
theorem lk_ix {ad : Nat → Nat} {lv : Lv} {i : Nat} {v : Value} (h : lk lv i = some v) : ∃ k : Nat, (cvL ad lv)[k]? = some (i, cv ad v) := List.getElem?_of_mem (List.mem_map.mpr ⟨(i, v), lk_mem h, rfl⟩)
theorem cvL_stA (ad : Nat → Nat) (lv : Lv) (i : Nat) (v : Value) : (i, cv ad v) :: (cvL ad lv).filter (fun q => !(q.1 == i) && !(q.1 + 1 == i && q.2.category == 2)) = cvL ad (stA lv i v) := by
  unfold cvL stA
  rw [List.map_cons, List.filter_map]
  congr 3
  funext q
  simp only [Function.comp, cv_cat]
theorem cvL_stB (ad : Nat → Nat) (lv : Lv) (i : Nat) (v : Value) : (i, cv ad v) :: (cvL ad lv).filter (fun q => !(q.1 == i) && (!(q.1 == i + 1) && !(q.1 + 1 == i && q.2.category == 2))) = cvL ad (stB lv i v) := by
  unfold cvL stB
  rw [List.map_cons, List.filter_map]
  congr 3
  funext q
  simp only [Function.comp, cv_cat]
theorem bt_of {α : Type} {b : Bool} {x y : α} (h : b = true) : (bif b then x else y) = x := by rw [h]; rfl
set_option maxHeartbeats 1000000 in
theorem aw1 {p : Program} {l : Launch} {e : Env} {R : Room} {s : State} {m : MethodId} {args : Array Value} {below : List Frame} {meth : Method} {c : Code} {Q : State → Prop} {nL : Nat} {B : Nat} {ad : Nat → Nat} {D : va_G} {ca : Nat → ClassId} {z0 y0 Z Y : Nat} {pc pc2 : Nat} {lv : Lv} {st st2 : List Value} {E : En} {σ : St} (h : AWf p l e R s m args below meth c Q nL B ad D ca z0 y0 Z Y (pc2, lv, st2, E, σ)) (k : ∀ (H : Heap) (locs : List Loc) (ls : Array Slot) (cells slots : Nat), va_S (fun q => B ≤ q) s.heap H locs → lv_has ls nL (cvL ad lv) → HR B ad D ca E σ H → W p l e R s m args below meth c H locs cells slots Q (F0 m pc2 ls (st2.map (cv ad))) → W p l e R s m args below meth c H locs cells slots Q (F0 m pc ls (st.map (cv ad)))) : AWf p l e R s m args below meth c Q nL B ad D ca z0 y0 Z Y (pc, lv, st, E, σ) := by
  exact ⟨h.1, fun H locs ls h1 h2 h3 h4 h5 => k H locs ls _ _ h4 h5 h3 (h.2 H locs ls h1 h2 h3 h4 h5)⟩
set_option maxHeartbeats 1000000 in
theorem aw2 {p : Program} {l : Launch} {e : Env} {R : Room} {s : State} {m : MethodId} {args : Array Value} {below : List Frame} {meth : Method} {c : Code} {Q : State → Prop} {nL : Nat} {B : Nat} {ad : Nat → Nat} {D : va_G} {ca : Nat → ClassId} {z0 y0 Z Y : Nat} {pc pc2 : Nat} {lv lv2 : Lv} {st st2 : List Value} {E : En} {σ : St} (h : AWf p l e R s m args below meth c Q nL B ad D ca z0 y0 Z Y (pc2, lv2, st2, E, σ)) (k : ∀ (H : Heap) (locs : List Loc) (ls : Array Slot) (cells slots : Nat), lv_has ls nL (cvL ad lv) → (∀ ls2 : Array Slot, lv_has ls2 nL (cvL ad lv2) → W p l e R s m args below meth c H locs cells slots Q (F0 m pc2 ls2 (st2.map (cv ad)))) → W p l e R s m args below meth c H locs cells slots Q (F0 m pc ls (st.map (cv ad)))) : AWf p l e R s m args below meth c Q nL B ad D ca z0 y0 Z Y (pc, lv, st, E, σ) := by
  exact ⟨h.1, fun H locs ls h1 h2 h3 h4 h5 => k H locs ls _ _ h5 fun ls2 h6 => h.2 H locs ls2 h1 h2 h3 h4 h6⟩
set_option maxHeartbeats 1000000 in
theorem aw3 {p : Program} {l : Launch} {e : Env} {R : Room} {s : State} {m : MethodId} {args : Array Value} {below : List Frame} {meth : Method} {c : Code} {Q : State → Prop} {nL : Nat} {B : Nat} {ad : Nat → Nat} {D : va_G} {ca : Nat → ClassId} {z0 y0 Z Y : Nat} {pc pa pb : Nat} {lv : Lv} {st st2 : List Value} {E : En} {σ : St} {P : Prop} (h : P → AWf p l e R s m args below meth c Q nL B ad D ca z0 y0 Z Y (pa, lv, st2, E, σ)) (h2 : ¬ P → AWf p l e R s m args below meth c Q nL B ad D ca z0 y0 Z Y (pb, lv, st2, E, σ)) (k : ∀ (H : Heap) (locs : List Loc) (ls : Array Slot) (cells slots : Nat), (P → W p l e R s m args below meth c H locs cells slots Q (F0 m pa ls (st2.map (cv ad)))) → (¬ P → W p l e R s m args below meth c H locs cells slots Q (F0 m pb ls (st2.map (cv ad)))) → W p l e R s m args below meth c H locs cells slots Q (F0 m pc ls (st.map (cv ad)))) : AWf p l e R s m args below meth c Q nL B ad D ca z0 y0 Z Y (pc, lv, st, E, σ) := by
  have hb : eZ E ≤ Z ∧ eY E ≤ Y := by
    by_cases hp : P
    · exact (h hp).1
    · exact (h2 hp).1
  exact ⟨hb, fun H locs ls g1 g2 g3 g4 g5 => k H locs ls _ _ (fun c => (h c).2 H locs ls g1 g2 g3 g4 g5) (fun c => (h2 c).2 H locs ls g1 g2 g3 g4 g5)⟩
set_option maxHeartbeats 1000000 in
theorem aw4 {p : Program} {l : Launch} {e : Env} {R : Room} {s : State} {m : MethodId} {args : Array Value} {below : List Frame} {meth : Method} {c : Code} {Q : State → Prop} {nL : Nat} {B : Nat} {ad : Nat → Nat} {D : va_G} {ca : Nat → ClassId} {z0 y0 Z Y : Nat} {pc pc2 : Nat} {lv : Lv} {st st2 : List Value} {E E2 : En} {σ σ2 : St} (hz : eZ E2 = eZ E) (hy : eY E2 = eY E) (h : AWf p l e R s m args below meth c Q nL B ad D ca z0 y0 Z Y (pc2, lv, st2, E2, σ2)) (k : ∀ (H : Heap) (locs : List Loc) (ls : Array Slot) (cells slots : Nat), va_S (fun q => B ≤ q) s.heap H locs → lv_has ls nL (cvL ad lv) → HR B ad D ca E σ H → (∀ (H2 : Heap) (locs2 : List Loc), HR B ad D ca E2 σ2 H2 → va_S (fun q => B ≤ q) s.heap H2 locs2 → W p l e R s m args below meth c H2 locs2 cells slots Q (F0 m pc2 ls (st2.map (cv ad)))) → W p l e R s m args below meth c H locs cells slots Q (F0 m pc ls (st.map (cv ad)))) : AWf p l e R s m args below meth c Q nL B ad D ca z0 y0 Z Y (pc, lv, st, E, σ) := by
  have h0 := h.1
  refine ⟨⟨by rw [← hz]; exact h0.1, by rw [← hy]; exact h0.2⟩, fun H locs ls h1 h2 h3 h4 h5 => k H locs ls _ _ h4 h5 h3 fun H2 locs2 h6 h7 => ?_⟩
  have h8 := h.2 H2 locs2 ls (by rw [hz]; exact h1) (by rw [hy]; exact h2) h6 h7 h5
  simp only [hz, hy] at h8
  exact h8
