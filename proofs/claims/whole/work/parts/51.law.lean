/-! THE LAW'S WALK, over the small machine; its call of step by a contract of its own -/
abbrev wStep : Cond := Cond.codeWith yL_step cL_step 6 (some .int) [(0, 12, 15, 13)]
def cPreS (KX : Nat → State → Heap → Prop) (B : Nat) (ad : Nat → Nat) (D : va_G) (ca : Nat → ClassId) (sc : Nat × (Nat → Int32)) (as : List Value) (E : En) (σ : St) : Array Value → State → Prop := va_Pc (as.map (cv ad)) fun U => (HR B ad D ca E σ U.heap ∧ kG B ad D ca sc U U.heap) ∧ KX B U U.heap
/-- what else is known of the start is kept -/
def KXto (KX : Nat → State → Heap → Prop) : Prop := ∀ (B : Nat) (s U : State) (H0 H : Heap), KX B s H0 → s.WarmedH U.vm → (∀ q : Nat, q < H0.size → ¬ B ≤ q → H[q]? = H0[q]?) → KX B U H
def ConS (l : Launch) (KX : Nat → State → Heap → Prop) (sc : Nat × (Nat → Int32)) (as : List Value) (E : En) (σ : St) (r : Option Value) (E1 : En) (σ1 : St) : Prop :=
  eZ E ≤ eZ E1 ∧ eY E ≤ eY E1 ∧ ∀ (B : Nat) (ad : Nat → Nat) (D : va_G) (ca : Nat → ClassId),
    Met l yL_step (wStep :: gW) (rmD 60 (eZ E1 - eZ E) (eY E1 - eY E)) (cPreS KX B ad D ca sc as E σ) (cPost B ad D ca r E1 σ1) (eZ E1 - eZ E) (eY E1 - eY E) (fun q => B ≤ q)
theorem wStep_in : wStep ∈ gW := List.mem_filter.mpr ⟨List.mem_of_getElem? (i := 1149) (by decide +kernel), by decide +kernel⟩
theorem wStepL_in : Cond.methodLink "GoatAbacusLaw" 46 yL_step ∈ gW := List.mem_filter.mpr ⟨List.mem_of_getElem? (i := 1147) (by decide +kernel), by decide +kernel⟩
theorem wStepS_in : Cond.static yL_step ∈ gW := List.mem_filter.mpr ⟨List.mem_of_getElem? (i := 1148) (by decide +kernel), by decide +kernel⟩
theorem wStepI_in : Cond.initialized "GoatAbacusLaw" ∈ gW := List.mem_filter.mpr ⟨List.mem_of_getElem? (i := 78) (by decide +kernel), by decide +kernel⟩
theorem d_law_step : decode code 396 = .ok (.invokestatic 46, 3) := by decide +kernel
theorem gW_inS : GoodIn gW (wStep :: gW) := by
  intro w hw
  rcases List.mem_cons.mp hw with e | e
  · rw [e]; exact ⟨wStep_in, gW_good wStep_in⟩
  · exact ⟨e, gW_good e⟩
theorem cPreS_blind {KX : Nat → State → Heap → Prop} (hKX : KXto KX) {B : Nat} {ad : Nat → Nat} {D : va_G} {ca : Nat → ClassId} {sc : Nat × (Nat → Int32)} {as : List Value} {E : En} {σ : St} : FrameBlind (cPreS KX B ad D ca sc as E σ) := fun a U g mk q => ⟨q.1, ⟨q.2.1.1, q.2.1.2.same rfl⟩, hKX B U _ _ _ q.2.2 (State.WarmedH.refl U) fun _ _ _ => rfl⟩
theorem law_step {p : Program} {l : Launch} {e : Env} {R : Room} {s : State} {m : MethodId} {args : Array Value} {below : List Frame} {meth : Method} {c : Code} {Q : State → Prop} {B : Nat} {ad : Nat → Nat} {D : va_G} {ca : Nat → ClassId} {sc : Nat × (Nat → Int32)} {z0 y0 Z Y : Nat} {KX : Nat → State → Heap → Prop} (hKX : KXto KX) (C : Cx p R s m args c code 7 "GoatAbacusLaw" B ad D ca sc 60 z0 y0 Z Y) (hX : KX B s s.heap) {lv : Lv} {st : List Value} {E E1 : En} {σ σ1 : St} {r : Option Value} (hlen : 5 ≤ st.length) (hcat : Nat.ble (catS (st.drop 5)) 8 = true) (hcon : eZ E1 ≤ 1000000 → ConS l KX sc (st.take 5).reverse E σ r E1 σ1)
    (h : AWf p l e R s m args below meth c Q 7 B ad D ca z0 y0 Z Y (396 + 3, lv, r.toList ++ st.drop 5, E1, σ1)) : AWf p l e R s m args below meth c Q 7 B ad D ca z0 y0 Z Y (396, lv, st, E, σ) := by
  obtain ⟨hx, hb, hml, hown, hts, hG, hfr, hlo, hc, ⟨hs, hm⟩, hB⟩ := C
  have h0 := h.1
  have h0a : eZ E1 ≤ Z := h0.1
  have h0b : eY E1 ≤ Y := h0.2
  obtain ⟨m1, m2, hmet⟩ := hcon (by omega)
  refine ⟨⟨by show eZ E ≤ Z; omega, by show eY E ≤ Y; omega⟩, fun H locs ls h1 h2 h3 h4 h5 => ?_⟩
  have h1 : z0 ≤ eZ E := h1
  have h2 : y0 ≤ eY E := h2
  have g1 : eZ E - z0 + (eZ E1 - eZ E) ≤ R.cells := by omega
  have g2 : eY E - y0 + (eY E1 - eY E) ≤ R.slots := by omega
  have kk : ∀ (H1 : Heap) (locs1 : List Loc), HR B ad D ca E1 σ1 H1 → va_S (fun q => B ≤ q) s.heap H1 locs1 → W p l e R s m args below meth c H1 locs1 (eZ E - z0 + (eZ E1 - eZ E)) (eY E - y0 + (eY E1 - eY E)) Q (F0 m (396 + 3) ls ((r.map (cv ad)).toList ++ (st.drop 5).map (cv ad))) := by
    intro H1 locs1 h6 h7
    have h8 := h.2 H1 locs1 ls (by show z0 ≤ eZ E1; omega) (by show y0 ≤ eY E1; omega) h6 h7 h5
    have e1 : eZ E1 - z0 = eZ E - z0 + (eZ E1 - eZ E) := by omega
    have e2 : eY E1 - y0 = eY E - y0 + (eY E1 - eY E) := by omega
    simp only [e1, e2] at h8
    rw [tget]
    exact h8
  show W p l e R s m args below meth c H locs (eZ E - z0) (eY E - y0) Q (F0 m 396 ls (st.map (cv ad)))
  rw [st_split ad st 5]
  have cw : vx_CSW R s args "GoatAbacusLaw" 46 yL_step cL_step 6 (some .int) [(0, 12, 15, 13)] (wStep :: gW) (rmD 60 (eZ E1 - eZ E) (eY E1 - eY E)) (eZ E1 - eZ E) (eY E1 - eY E) 5 :=
    vx_cwSW 5 hts (fun w hw => by
      simp only [va_wsS, List.mem_append, List.mem_cons, List.not_mem_nil, or_false] at hw
      rcases hw with (hw | hw | hw) | hw | hw
      all_goals first
        | (rw [hw]; first | exact ⟨wStepL_in, gW_good wStepL_in⟩ | exact ⟨wStepS_in, gW_good wStepS_in⟩ | exact ⟨wStepI_in, gW_good wStepI_in⟩ | exact ⟨wStep_in, gW_good wStep_in⟩)
        | exact ⟨hw, gW_good hw⟩) rfl rfl rfl (by decide +kernel) ⟨hfr, by show 8 + (6 + 11) + 64 * 60 ≤ R.locals; omega⟩
  exact x_run (vx_runSW (As := (st.take 5).reverse.map (cv ad)) (rest := (st.drop 5).map (cv ad)) ⟨hx, hb, hml, hown, hts⟩ (hmet B ad D ca) cw ⟨cPreS_blind hKX, fun U hU hWm => ⟨rfl, ⟨by rw [hU]; exact h3, hG.to hWm (by rw [hU]; exact h4.2.1)⟩, hKX B s U s.heap U.heap hX hWm (by rw [hU]; exact h4.2.1)⟩⟩ rfl (by simp; omega) h5.1 rfl (lv_room (by rw [cv_catS]; exact Nat.le_of_ble_eq_true hcat)) d_law_step ⟨g1, g2⟩) h4 kk
