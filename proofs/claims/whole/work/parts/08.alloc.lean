/-! NEW CELLS, COPIES, SWITCHES -/
theorem HR.new {B : Nat} {ad : Nat → Nat} {D : va_G} {ca : Nat → ClassId} {E E2 : En} {σ σ2 : St} {H H2 : Heap} (h : HR B ad D ca E σ H) (hs : H2.size = H.size + 1) (ho : ∀ q, q < H.size → H2[q]? = H[q]?) (hm : eZ E + 1 ≤ 1000000)
    (e1 : ∀ n, n ≠ eZ E → eK E2 n = eK E n) (e2 : ∀ n, n ≠ eZ E → eL E2 n = eL E n) (e3 : eZ E2 = eZ E + 1) (e4 : ∀ n, n ≠ eZ E → eS E2 n = eS E n)
    (hσ : ∀ n, n ≠ eZ E → gI σ2 n = gI σ n ∧ gJ σ2 n = gJ σ n ∧ gR σ2 n = gR σ n) (hc : cellP B ad D ca E2 σ2 H2 (eZ E)) : HR B ad D ca E2 σ2 H2 := by
  refine ⟨by rw [hs, e3, h.1]; omega, by rw [e3]; exact hm, fun n hn => ?_, fun n => ?_⟩
  · rw [e3] at hn
    rw [e1 n (by omega)]
    exact h.2.2.1 n (by omega)
  · by_cases hn : n = eZ E
    · rw [hn]; exact hc
    · obtain ⟨g1, g2, g3⟩ := hσ n hn
      obtain ⟨c1, c2, c3, c4, c5⟩ := h.2.2.2 n
      by_cases hl : n < eZ E
      · have hz : H2[B + n]? = H[B + n]? := ho _ (by rw [h.1]; omega)
        refine ⟨fun w => ?_, fun w => ?_, fun w => ?_, fun w => ?_, fun ci2 q2 k1 k2 => ?_⟩
        · rw [hz, g1, e2 n hn]; exact c1 (by rw [← e1 n hn]; exact w)
        · rw [hz, g2, e2 n hn]; exact c2 (by rw [← e1 n hn]; exact w)
        · rw [hz, g1, e2 n hn]; exact c3 (by rw [← e1 n hn]; exact w)
        · rw [hz, g3, e2 n hn]; exact c4 (by rw [← e1 n hn]; exact w)
        · refine ((c5 ci2 q2 (by rw [← e1 n hn]; exact k1) k2).kept hz).to fun j _ => ?_
          unfold fva
          rw [g1, g2, g3, e4 n hn]
      · have hk0 : eK E2 n = 0 := by rw [e1 n hn]; exact h.2.2.1 n (by omega)
        refine ⟨fun w => ?_, fun w => ?_, fun w => ?_, fun w => ?_, fun ci2 q2 k1 k2 => ?_⟩ <;> first | (rw [hk0] at w; cases w) | (rw [hk0] at k1; cases k1)
theorem clr_o {σ : St} {z : Nat} (n : Nat) (h : n ≠ z) : gI (clr σ z) n = gI σ n ∧ gJ (clr σ z) n = gJ σ n ∧ gR (clr σ z) n = gR σ n := by
  refine ⟨?_, ?_, ?_⟩ <;> funext b <;> simp [gI, gJ, gR, clr, h]
theorem clr_I (σ : St) (z k : Nat) : gI (clr σ z) z k = 0 := by simp [gI, clr]
theorem clr_J (σ : St) (z k : Nat) : gJ (clr σ z) z k = 0 := by simp [gJ, clr]
theorem clr_R (σ : St) (z k : Nat) : gR (clr σ z) z k = none := by simp [gR, clr]
theorem nO_K (E : En) (k n : Nat) : eK (nO E k n) (eZ E) = k := by simp [eK, nO]
theorem nA_K (E : En) (k n : Nat) : eK (nA E k n) (eZ E) = k := by simp [eK, nA]
theorem nA_L (E : En) (k n : Nat) : eL (nA E k n) (eZ E) = n := by simp [eL, nA]
theorem nO_S (E : En) (k n j : Nat) : eS (nO E k n) (eZ E) j = none := by simp [eS, nO]
theorem cls5 : ∀ (ci : Nat) (q : vw_C), vwCl[ci]? = some q → ∀ k, k < q.2.2 → ftab ci k ≠ 5 := by
  intro ci q h
  match ci, h with
  | 0, h => cases h; decide +kernel
  | 1, h => cases h; decide +kernel
  | 2, h => cases h; decide +kernel
  | 3, h => cases h; decide +kernel
  | 4, h => cases h; decide +kernel
  | 5, h => cases h; decide +kernel
  | 6, h => cases h; decide +kernel
  | 7, h => cases h; decide +kernel
  | 8, h => cases h; decide +kernel
  | 9, h => cases h; decide +kernel
  | 10, h => cases h; decide +kernel
  | n + 11, h => cases h
theorem defv {E : En} {σ : St} {ad : Nat → Nat} {z ci k n : Nat} {t : FieldType} {f : Bool} (hf : ftab ci k = ftOf t f) (h5 : ftab ci k ≠ 5) (hz : z = eZ E) : defaultValue t = cv ad (fva (nO E (ci + 1) n) (clr σ z) z (ftab ci k) k) := by
  subst hz
  rw [hf] at h5 ⊢
  cases t <;> cases f <;> first | exact absurd rfl h5 | (simp [ftOf, fva, clr_I, clr_J, clr_R, nO_S, orv, cv, defaultValue]; done)
theorem cb_int : componentBytes (.int : FieldType) ≤ 8 := by decide
theorem cb_long : componentBytes (.long : FieldType) ≤ 8 := by decide
theorem cb_boolean : componentBytes (.boolean : FieldType) ≤ 8 := by decide
theorem nfw : nativeFrameWords "java/lang/System" "arraycopy" 5 + 11 ≤ 40 := by decide +kernel
set_option maxHeartbeats 1000000 in
theorem x_new {p : Program} {l : Launch} {e : Env} {R : Room} {s : State} {m : MethodId} {args : Array Value} {below : List Frame} {meth : Method} {c : Code} {Q : State → Prop} {cc : ByteArray} {nL : Nat} {own : String} {B : Nat} {ad : Nat → Nat} {D : va_G} {ca : Nat → ClassId} {sc : Nat × (Nat → Int32)} {d z0 y0 Z Y : Nat} (C : Cx p R s m args c cc nL own B ad D ca sc d z0 y0 Z Y) {E : En} {σ : St} {H : Heap} {locs : List Loc} {cells slots pc : Nat} {ls : Array Slot} {rest : List Value} (hH : HR B ad D ca E σ H) (hS : va_S (fun q => B ≤ q) s.heap H locs) {ci N idx : Nat} {q : vw_C} (hq : vwCl[ci]? = some q) (hN : N = q.2.2) (hcl : Cond.classLink own idx q.1 ∈ gW) (hit : Cond.instantiable q.1 q.2.2 ∈ gW) (hii : Cond.initialized q.1 ∈ gW) (hm : eZ E + 1 ≤ 1000000) (hcells : cells + 1 ≤ R.cells) (hslots : slots + N ≤ R.slots) (hdg : decode cc pc = .ok (.new idx, 3)) (kk : ∀ (H2 : Heap), HR B ad D ca (nO E (ci + 1) N) (clr σ (eZ E)) H2 → va_S (fun q => B ≤ q) s.heap H2 locs → W p l e R s m args below meth c H2 locs (cells + 1) (slots + N) Q (F0 m (pc + 3) ls (.ref (ad (eZ E)) :: rest))) : W p l e R s m args below meth c H locs cells slots Q (F0 m pc ls rest) := by
  obtain ⟨hx, hb, hml, hown, hts, hG, -⟩ := C
  have ha : ad (eZ E) = H.size := by rw [hG.2.2.2.2.2.2.2.1 (eZ E) (by omega), hH.1]
  subst hN
  have hKn := hG.1.1 ci _ hq
  refine W.newcK hx hb hown (hts _ hcl) (hts _ hit) (hts _ hii) rfl hdg hcells hslots hKn.2.1 rfl fun H2 kC hkC e1 z1 o1 => ?_
  rw [← ha]
  have hci : ci < 11 := by
    have := (List.getElem?_eq_some_iff.mp hq).1
    simpa [vwCl] using this
  refine kk H2 (hH.new z1 o1 hm (fun n hn => by simp [eK, nO, hn]) (fun n hn => rfl) rfl (fun n hn => by funext j; simp [eS, nO, hn]) (fun n hn => clr_o n hn) ?_) ⟨Nat.le_trans hS.1 (by omega), fun x h1 h2 => (o1 x (Nat.lt_of_lt_of_le h1 hS.1)).trans (hS.2.1 x h1 h2), hS.2.2⟩
  refine ⟨fun w => ?_, fun w => ?_, fun w => ?_, fun w => ?_, fun ci2 q2 k1 k2 => ?_⟩
  · rw [nO_K] at w; omega
  · rw [nO_K] at w; omega
  · rw [nO_K] at w; omega
  · rw [nO_K] at w; omega
  · have hc : ci2 = ci := by rw [nO_K] at k1; omega
    subst hc
    have hqq : q2 = q := Option.some.inj (k2.symm.trans hq)
    subst hqq
    have e2 : H2[B + eZ E]? = some (blank (D.1 ci2) kC) := by rw [← hH.1]; exact e1
    exact (u_born (tyOf ci2) hts (clsW ci2 q2 hq) hKn hkC e2 (clsT ci2 q2 hq)).to fun j hj => defv (clsF ci2 q2 hq j) (cls5 ci2 q2 hq j hj) rfl
set_option maxHeartbeats 1000000 in
theorem x_newaI {p : Program} {l : Launch} {e : Env} {R : Room} {s : State} {m : MethodId} {args : Array Value} {below : List Frame} {meth : Method} {c : Code} {Q : State → Prop} {cc : ByteArray} {nL : Nat} {own : String} {B : Nat} {ad : Nat → Nat} {D : va_G} {ca : Nat → ClassId} {sc : Nat × (Nat → Int32)} {d z0 y0 Z Y : Nat} (C : Cx p R s m args c cc nL own B ad D ca sc d z0 y0 Z Y) {E : En} {σ : St} {H : Heap} {locs : List Loc} {cells slots pc : Nat} {ls : Array Slot} {rest : List Value} (hH : HR B ad D ca E σ H) (hS : va_S (fun q => B ≤ q) s.heap H locs) {t : ArrayType} {n : Int32} (ht : newarray.typeOf t = .int) (hac : Cond.arrayClass (newarray.typeOf t) ∈ gW) (hn : ¬ n < 0) (hn2 : n.toNatClampNeg ≤ 100000) (hm : eZ E + 1 ≤ 1000000) (hcells : cells + 1 ≤ R.cells) (hslots : slots + n.toNatClampNeg ≤ R.slots) (hdg : decode cc pc = .ok (.newarray t, 2)) (kk : ∀ (H2 : Heap), HR B ad D ca (nA E 20 n.toNatClampNeg) (clr σ (eZ E)) H2 → va_S (fun q => B ≤ q) s.heap H2 locs → W p l e R s m args below meth c H2 locs (cells + 1) (slots + n.toNatClampNeg) Q (F0 m (pc + 2) ls (.ref (ad (eZ E)) :: rest))) : W p l e R s m args below meth c H locs cells slots Q (F0 m pc ls (.int n :: rest)) := by
  obtain ⟨hx, hb, hml, hown, hts, hG, -⟩ := C
  have ha : ad (eZ E) = H.size := by rw [hG.2.2.2.2.2.2.2.1 (eZ E) (by omega), hH.1]
  refine va_newaK hx hb (hts _ hac) rfl hdg rfl hn rfl (by rw [ht]; exact Nat.le_trans (Nat.mul_le_mul hn2 cb_int) (by decide)) hcells  hslots rfl fun H2 cA e1 z1 o1 hAr hNm => ?_
  rw [ht] at e1 hNm
  have hcA : cA = ca 0 := Option.some.inj (hNm.symm.trans (hG.1.2 0 _ rfl).2)
  subst hcA
  rw [← ha]
  refine kk H2 (hH.new z1 o1 hm (fun n hn => by simp [eK, nA, hn]) (fun n hn => by simp [eL, nA, hn]) rfl (fun n hn => rfl) (fun n hn => clr_o n hn) ?_) ⟨Nat.le_trans hS.1 (by omega), fun x h1 h2 => (o1 x (Nat.lt_of_lt_of_le h1 hS.1)).trans (hS.2.1 x h1 h2), hS.2.2⟩
  refine ⟨fun w => ?_, fun w => ?_, fun w => ?_, fun w => ?_, fun ci2 q2 k1 k2 => ?_⟩
  · rw [nA_L, ← hH.1, e1]; simp only [clr_I, clr_J]; rfl
  · rw [nA_K] at w; omega
  · rw [nA_K] at w; omega
  · rw [nA_K] at w; omega
  · have hc : ci2 = 19 := by rw [nA_K] at k1; omega
    subst hc; cases k2
set_option maxHeartbeats 1000000 in
theorem x_newaJ {p : Program} {l : Launch} {e : Env} {R : Room} {s : State} {m : MethodId} {args : Array Value} {below : List Frame} {meth : Method} {c : Code} {Q : State → Prop} {cc : ByteArray} {nL : Nat} {own : String} {B : Nat} {ad : Nat → Nat} {D : va_G} {ca : Nat → ClassId} {sc : Nat × (Nat → Int32)} {d z0 y0 Z Y : Nat} (C : Cx p R s m args c cc nL own B ad D ca sc d z0 y0 Z Y) {E : En} {σ : St} {H : Heap} {locs : List Loc} {cells slots pc : Nat} {ls : Array Slot} {rest : List Value} (hH : HR B ad D ca E σ H) (hS : va_S (fun q => B ≤ q) s.heap H locs) {t : ArrayType} {n : Int32} (ht : newarray.typeOf t = .long) (hac : Cond.arrayClass (newarray.typeOf t) ∈ gW) (hn : ¬ n < 0) (hn2 : n.toNatClampNeg ≤ 100000) (hm : eZ E + 1 ≤ 1000000) (hcells : cells + 1 ≤ R.cells) (hslots : slots + n.toNatClampNeg ≤ R.slots) (hdg : decode cc pc = .ok (.newarray t, 2)) (kk : ∀ (H2 : Heap), HR B ad D ca (nA E 21 n.toNatClampNeg) (clr σ (eZ E)) H2 → va_S (fun q => B ≤ q) s.heap H2 locs → W p l e R s m args below meth c H2 locs (cells + 1) (slots + n.toNatClampNeg) Q (F0 m (pc + 2) ls (.ref (ad (eZ E)) :: rest))) : W p l e R s m args below meth c H locs cells slots Q (F0 m pc ls (.int n :: rest)) := by
  obtain ⟨hx, hb, hml, hown, hts, hG, -⟩ := C
  have ha : ad (eZ E) = H.size := by rw [hG.2.2.2.2.2.2.2.1 (eZ E) (by omega), hH.1]
  refine va_newaK hx hb (hts _ hac) rfl hdg rfl hn rfl (by rw [ht]; exact Nat.le_trans (Nat.mul_le_mul hn2 cb_long) (by decide)) hcells  hslots rfl fun H2 cA e1 z1 o1 hAr hNm => ?_
  rw [ht] at e1 hNm
  have hcA : cA = ca 1 := Option.some.inj (hNm.symm.trans (hG.1.2 1 _ rfl).2)
  subst hcA
  rw [← ha]
  refine kk H2 (hH.new z1 o1 hm (fun n hn => by simp [eK, nA, hn]) (fun n hn => by simp [eL, nA, hn]) rfl (fun n hn => rfl) (fun n hn => clr_o n hn) ?_) ⟨Nat.le_trans hS.1 (by omega), fun x h1 h2 => (o1 x (Nat.lt_of_lt_of_le h1 hS.1)).trans (hS.2.1 x h1 h2), hS.2.2⟩
  refine ⟨fun w => ?_, fun w => ?_, fun w => ?_, fun w => ?_, fun ci2 q2 k1 k2 => ?_⟩
  · rw [nA_K] at w; omega
  · rw [nA_L, ← hH.1, e1]; simp only [clr_I, clr_J]; rfl
  · rw [nA_K] at w; omega
  · rw [nA_K] at w; omega
  · have hc : ci2 = 20 := by rw [nA_K] at k1; omega
    subst hc; cases k2
set_option maxHeartbeats 1000000 in
theorem x_newaZ {p : Program} {l : Launch} {e : Env} {R : Room} {s : State} {m : MethodId} {args : Array Value} {below : List Frame} {meth : Method} {c : Code} {Q : State → Prop} {cc : ByteArray} {nL : Nat} {own : String} {B : Nat} {ad : Nat → Nat} {D : va_G} {ca : Nat → ClassId} {sc : Nat × (Nat → Int32)} {d z0 y0 Z Y : Nat} (C : Cx p R s m args c cc nL own B ad D ca sc d z0 y0 Z Y) {E : En} {σ : St} {H : Heap} {locs : List Loc} {cells slots pc : Nat} {ls : Array Slot} {rest : List Value} (hH : HR B ad D ca E σ H) (hS : va_S (fun q => B ≤ q) s.heap H locs) {t : ArrayType} {n : Int32} (ht : newarray.typeOf t = .boolean) (hac : Cond.arrayClass (newarray.typeOf t) ∈ gW) (hn : ¬ n < 0) (hn2 : n.toNatClampNeg ≤ 100000) (hm : eZ E + 1 ≤ 1000000) (hcells : cells + 1 ≤ R.cells) (hslots : slots + n.toNatClampNeg ≤ R.slots) (hdg : decode cc pc = .ok (.newarray t, 2)) (kk : ∀ (H2 : Heap), HR B ad D ca (nA E 22 n.toNatClampNeg) (clr σ (eZ E)) H2 → va_S (fun q => B ≤ q) s.heap H2 locs → W p l e R s m args below meth c H2 locs (cells + 1) (slots + n.toNatClampNeg) Q (F0 m (pc + 2) ls (.ref (ad (eZ E)) :: rest))) : W p l e R s m args below meth c H locs cells slots Q (F0 m pc ls (.int n :: rest)) := by
  obtain ⟨hx, hb, hml, hown, hts, hG, -⟩ := C
  have ha : ad (eZ E) = H.size := by rw [hG.2.2.2.2.2.2.2.1 (eZ E) (by omega), hH.1]
  refine va_newaK hx hb (hts _ hac) rfl hdg rfl hn rfl (by rw [ht]; exact Nat.le_trans (Nat.mul_le_mul hn2 cb_boolean) (by decide)) hcells  hslots rfl fun H2 cA e1 z1 o1 hAr hNm => ?_
  rw [ht] at e1 hNm
  have hcA : cA = ca 2 := Option.some.inj (hNm.symm.trans (hG.1.2 2 _ rfl).2)
  subst hcA
  rw [← ha]
  refine kk H2 (hH.new z1 o1 hm (fun n hn => by simp [eK, nA, hn]) (fun n hn => by simp [eL, nA, hn]) rfl (fun n hn => rfl) (fun n hn => clr_o n hn) ?_) ⟨Nat.le_trans hS.1 (by omega), fun x h1 h2 => (o1 x (Nat.lt_of_lt_of_le h1 hS.1)).trans (hS.2.1 x h1 h2), hS.2.2⟩
  refine ⟨fun w => ?_, fun w => ?_, fun w => ?_, fun w => ?_, fun ci2 q2 k1 k2 => ?_⟩
  · rw [nA_K] at w; omega
  · rw [nA_K] at w; omega
  · rw [nA_L, ← hH.1, e1]; simp only [clr_I, clr_J]; rfl
  · rw [nA_K] at w; omega
  · have hc : ci2 = 21 := by rw [nA_K] at k1; omega
    subst hc; cases k2
set_option maxHeartbeats 1000000 in
theorem x_newq {p : Program} {l : Launch} {e : Env} {R : Room} {s : State} {m : MethodId} {args : Array Value} {below : List Frame} {meth : Method} {c : Code} {Q : State → Prop} {cc : ByteArray} {nL : Nat} {own : String} {B : Nat} {ad : Nat → Nat} {D : va_G} {ca : Nat → ClassId} {sc : Nat × (Nat → Int32)} {d z0 y0 Z Y : Nat} (C : Cx p R s m args c cc nL own B ad D ca sc d z0 y0 Z Y) {E : En} {σ : St} {H : Heap} {locs : List Loc} {cells slots pc : Nat} {ls : Array Slot} {rest : List Value} (hH : HR B ad D ca E σ H) (hS : va_S (fun q => B ≤ q) s.heap H locs) {idx : Nat} {n : Int32} (hcl : Cond.classLink own idx "GoatAbacus$Sum" ∈ gW) (hn : ¬ n < 0) (hn2 : n.toNatClampNeg ≤ 100000) (hm : eZ E + 1 ≤ 1000000) (hcells : cells + 1 ≤ R.cells) (hslots : slots + n.toNatClampNeg ≤ R.slots) (hdg : decode cc pc = .ok (.anewarray idx, 3)) (kk : ∀ (H2 : Heap), HR B ad D ca (nA E 23 n.toNatClampNeg) (clr σ (eZ E)) H2 → va_S (fun q => B ≤ q) s.heap H2 locs → W p l e R s m args below meth c H2 locs (cells + 1) (slots + n.toNatClampNeg) Q (F0 m (pc + 3) ls (.ref (ad (eZ E)) :: rest))) : W p l e R s m args below meth c H locs cells slots Q (F0 m pc ls (.int n :: rest)) := by
  obtain ⟨hx, hb, hml, hown, hts, hG, -⟩ := C
  have ha : ad (eZ E) = H.size := by rw [hG.2.2.2.2.2.2.2.1 (eZ E) (by omega), hH.1]
  refine W.anew hx hb hown (hts _ hcl) (va_AO.use hG.2.2.2.2.2.2.2.2.1) rfl hdg rfl hn (by omega) hcells hslots fun cA kA comp f1 f2 f3 f4 => ?_
  generalize hH1 : H.push ({ cls := cA, slots := Array.replicate n.toNatClampNeg .null, vm := .none } : Cell) = H2
  have z1 : H2.size = H.size + 1 := by rw [← hH1, Array.size_push]
  have e1 : H2[H.size]? = some (arrV cA n.toNatClampNeg (fun _ => .null)) := by rw [← hH1, Array.getElem?_push_size, ← arrV_new]
  have o1 : ∀ q : Nat, q < H.size → H2[q]? = H[q]? := fun q hq => by rw [← hH1, Array.getElem?_push, if_neg (Nat.ne_of_lt hq)]
  obtain ⟨kA2, comp2, g1, g2, g3, g4⟩ := (hG.1.2 3 _ rfl).2
  have hcA : cA = ca 3 := Option.some.inj (f1.symm.trans g4)
  subst hcA
  rw [← ha]
  refine kk H2 (hH.new z1 o1 hm (fun n hn => by simp [eK, nA, hn]) (fun n hn => by simp [eL, nA, hn]) rfl (fun n hn => rfl) (fun n hn => clr_o n hn) ?_) ⟨Nat.le_trans hS.1 (by omega), fun x h1 h2 => (o1 x (Nat.lt_of_lt_of_le h1 hS.1)).trans (hS.2.1 x h1 h2), hS.2.2⟩
  refine ⟨fun w => ?_, fun w => ?_, fun w => ?_, fun w => ?_, fun ci2 q2 k1 k2 => ?_⟩
  · rw [nA_K] at w; omega
  · rw [nA_K] at w; omega
  · rw [nA_K] at w; omega
  · rw [nA_L, ← hH.1, e1]; simp only [clr_R]; rfl
  · have hc : ci2 = 22 := by rw [nA_K] at k1; omega
    subst hc; cases k2
set_option maxHeartbeats 1000000 in
theorem x_aast {p : Program} {l : Launch} {e : Env} {R : Room} {s : State} {m : MethodId} {args : Array Value} {below : List Frame} {meth : Method} {c : Code} {Q : State → Prop} {cc : ByteArray} {nL : Nat} {own : String} {B : Nat} {ad : Nat → Nat} {D : va_G} {ca : Nat → ClassId} {sc : Nat × (Nat → Int32)} {d z0 y0 Z Y : Nat} (C : Cx p R s m args c cc nL own B ad D ca sc d z0 y0 Z Y) {E : En} {σ : St} {H : Heap} {locs : List Loc} {cells slots pc : Nat} {ls : Array Slot} {rest : List Value} (hH : HR B ad D ca E σ H) (hS : va_S (fun q => B ≤ q) s.heap H locs) {a v : Nat} {i : Int32} (hK : eK E a = 23) (hV : eK E v = 5) (hin : vp_in i (eL E a)) (hdg : decode cc pc = .ok (.aastore, 1)) (kk : ∀ (H2 : Heap) (locs2 : List Loc), HR B ad D ca E (sR σ a i.toNatClampNeg (some v)) H2 → va_S (fun q => B ≤ q) s.heap H2 locs2 → W p l e R s m args below meth c H2 locs2 cells slots Q (F0 m (pc + 1) ls rest)) : W p l e R s m args below meth c H locs cells slots Q (F0 m pc ls (.ref (ad v) :: .int i :: .ref (ad a) :: rest)) := by
  obtain ⟨hx, hb, hml, hown, hts, hG, -⟩ := C
  have hlt : i.toNatClampNeg < eL E a := Nat.not_le.mp fun q => hin (Or.inr q)
  have h0 : ¬ i < 0 := fun q => hin (Or.inl q)
  have ha : ad a = B + a := hG.2.2.2.2.2.2.2.1 a (Nat.lt_of_lt_of_le (hH.lt hK) hH.2.1)
  have hav : ad v = B + v := hG.2.2.2.2.2.2.2.1 v (Nat.lt_of_lt_of_le (hH.lt hV) hH.2.1)
  have hc4 : vwCl[4]? = some (RX4, TX4, 2) := rfl
  obtain ⟨cellV, g1, g2, g3, -⟩ := (hH.2.2.2 v).2.2.2.2 4 _ hV hc4
  have hcls := (hG.1.1 4 _ hc4).2
  obtain ⟨kA, comp, k1, k2, k3, -⟩ := (hG.1.2 3 _ rfl).2
  have hcomp : comp = D.1 4 := Option.some.inj (k3.symm.trans hcls.1)
  subst hcomp
  obtain ⟨kC, hkC, -⟩ := hcls.2
  rw [ha, hav]
  refine W.aast hx hb ((hH.2.2.2 a).2.2.2.1 hK) (fun q h => by cases h) (fun h => by cases h) k1 k2 rfl hkC ⟨h0, by rw [arrV_size]; exact hlt⟩ g1 (fun q h => by rw [g3] at h; cases h) (by rw [g2]; exact hkC) (by rw [g2]; exact va_assign hcls) rfl rfl hdg fun H2 e z oq => ?_
  refine kk H2 _ (hH.rst hK z oq ?_) (hS.put z oq (by omega))
  rw [e]; simp only [orv, cv, hav]
theorem cpI_o {σ : St} {a b c e f : Nat} (n : Nat) (h : n ≠ c) : gI (cpI σ a b c e f) n = gI σ n ∧ gJ (cpI σ a b c e f) n = gJ σ n ∧ gR (cpI σ a b c e f) n = gR σ n := by
  refine ⟨?_, rfl, rfl⟩
  funext j; simp [gI, cpI, h]
set_option maxHeartbeats 1000000 in
theorem x_copy {p : Program} {l : Launch} {e : Env} {R : Room} {s : State} {m : MethodId} {args : Array Value} {below : List Frame} {meth : Method} {c : Code} {Q : State → Prop} {cc : ByteArray} {nL : Nat} {own : String} {B : Nat} {ad : Nat → Nat} {D : va_G} {ca : Nat → ClassId} {sc : Nat × (Nat → Int32)} {d z0 y0 Z Y : Nat} (C : Cx p R s m args c cc nL own B ad D ca sc d z0 y0 Z Y) {E : En} {σ : St} {H : Heap} {locs : List Loc} {cells slots pc : Nat} {ls : Array Slot} {rest : List Value} (hH : HR B ad D ca E σ H) (hS : va_S (fun q => B ≤ q) s.heap H locs) {idx : Nat} {a a2 : Nat} {sp dp n : Int32} (hls : ls.size = nL) (hl1 : Cond.methodLink own idx arraycopyName ∈ gW) (hl2 : Cond.native arraycopyName ∈ gW) (hl3 : Cond.static arraycopyName ∈ gW) (hl4 : Cond.initialized "java/lang/System" ∈ gW) (hK : eK E a = 20) (hK2 : eK E a2 = 20) (hne : a ≠ a2) (h1 : ¬ sp < 0) (h2 : ¬ dp < 0) (h3 : ¬ n < 0) (h4 : sp.toNatClampNeg + n.toNatClampNeg ≤ eL E a) (h5 : dp.toNatClampNeg + n.toNatClampNeg ≤ eL E a2) (hcat : (rest.map fun v => v.category).sum ≤ 8) (hdg : decode cc pc = .ok (.invokestatic idx, 3)) (kk : ∀ (H2 : Heap) (locs2 : List Loc), HR B ad D ca E (cpI σ a sp.toNatClampNeg a2 dp.toNatClampNeg n.toNatClampNeg) H2 → va_S (fun q => B ≤ q) s.heap H2 locs2 → W p l e R s m args below meth c H2 locs2 cells slots Q (F0 m (pc + 3) ls rest)) : W p l e R s m args below meth c H locs cells slots Q (F0 m pc ls (.int n :: .int dp :: .ref (ad a2) :: .int sp :: .ref (ad a) :: rest)) := by
  obtain ⟨hx, hb, hml, hown, hts, hG, hfr, hlo, -⟩ := C
  have ha : ad a = B + a := hG.2.2.2.2.2.2.2.1 a (Nat.lt_of_lt_of_le (hH.lt hK) hH.2.1)
  have ha2 : ad a2 = B + a2 := hG.2.2.2.2.2.2.2.1 a2 (Nat.lt_of_lt_of_le (hH.lt hK2) hH.2.1)
  rw [ha, ha2]
  have nn : ∀ z : Int32, ¬ z < 0 → z.toInt = (z.toNatClampNeg : Int) := by
    intro z hz
    have hz0 : (0 : Int) ≤ z.toInt := by
      have := Int32.not_lt.mp hz
      simpa using Int32.le_iff_toInt_le.mp this
    show z.toInt = ((z.toInt.toNat : Nat) : Int)
    omega
  intro T hT X
  have hc0 := (hH.2.2.2 a).1 hK
  have hc1 := (hH.2.2.2 a2).1 hK2
  obtain ⟨-, k0, hk0, cm0, hkk0⟩ := (hG.1.2 0 _ rfl).1 (eL E a) (fun j => .int (gI σ a j))
  obtain ⟨vm2, X2, step⟩ := X.arraycopy hx hown (hts _ hl1) (hts _ hl2) (hts _ hl3) (hts _ hl4) (src := B + a) (dst := B + a2) (cs := vp_cell (ca 0) (eL E a, .inl (gI σ a))) (cd := vp_cell (ca 0) (eL E a2, .inl (gI σ a2))) (srcPos := sp) (destPos := dp) (n := n) (by rw [hT]; exact hc0) (by rw [hT]; exact hc1)
    (fun _ h => by cases h) (fun _ h => by cases h) (fun h => by cases h) (fun h => by cases h) hk0 hk0 hkk0 hkk0 (by simp [refKind]) h1 h2 h3
    (by rw [nn sp h1, nn n h3]; show ¬ _ > ((arrV (ca 0) (eL E a) (fun j => .int (gI σ a j))).slots.size : Int); rw [arrV_size]; omega)
    (by rw [nn dp h2, nn n h3]; show ¬ _ > ((arrV (ca 0) (eL E a2) (fun j => .int (gI σ a2 j))).slots.size : Int); rw [arrV_size]; omega)
    (fun vm₁ _ i hi => by
      have e : (vp_cell (ca 0) (eL E a, .inl (gI σ a))).slots.getD (sp.toNatClampNeg + i) .null = .int (gI σ a (sp.toNatClampNeg + i)) := by
        show (arrV (ca 0) (eL E a) (fun j => .int (gI σ a j))).slots.getD _ _ = _
        rw [Array.getD_eq_getD_getElem?, arrV_read _ _ (by omega)]
        rfl
      refine ⟨?_, ?_⟩
      · rw [e]; rfl
      · rw [e]; exact trivial)
    (g := F0 m pc ls (.int n :: .int dp :: .ref (B + a2) :: .int sp :: .ref (B + a) :: rest)) rfl (by rw [hml]; exact hls) (rest := rest) rfl (by rw [hb]; exact hdg) (by omega) (by show 2 * 0 + _ + (nativeFrameWords "java/lang/System" "arraycopy" 5 + 11) ≤ _; have := nfw; omega)
  have e1 : copied (vp_cell (ca 0) (eL E a, .inl (gI σ a))) (vp_cell (ca 0) (eL E a2, .inl (gI σ a2))) sp dp n = vp_cell (ca 0) (eL E a2, .inl (va_cpy (gI σ a) (gI σ a2) sp.toNatClampNeg dp.toNatClampNeg n.toNatClampNeg)) := va_copied (fun z => .int z) (ca 0) (ca 0) (gI σ a) (gI σ a2) h4
  rw [e1] at X2 step
  have hl : B + a2 < H.size := (Array.getElem?_eq_some_iff.mp hc1).1
  have hheap : ((T.setVm vm2).setCell (B + a2) (vp_cell (ca 0) (eL E a2, .inl (va_cpy (gI σ a) (gI σ a2) sp.toNatClampNeg dp.toNatClampNeg n.toNatClampNeg)))).heap = H.setIfInBounds (B + a2) (vp_cell (ca 0) (eL E a2, .inl (va_cpy (gI σ a) (gI σ a2) sp.toNatClampNeg dp.toNatClampNeg n.toNatClampNeg))) := by rw [← hT]; rfl
  have oq : ∀ q : Nat, q ≠ B + a2 → (H.setIfInBounds (B + a2) (vp_cell (ca 0) (eL E a2, .inl (va_cpy (gI σ a) (gI σ a2) sp.toNatClampNeg dp.toNatClampNeg n.toNatClampNeg))))[q]? = H[q]? := fun q hq => by simp [Array.getElem?_setIfInBounds, Ne.symm hq]
  have hH2 : HR B ad D ca E (cpI σ a sp.toNatClampNeg a2 dp.toNatClampNeg n.toNatClampNeg) (H.setIfInBounds (B + a2) (vp_cell (ca 0) (eL E a2, .inl (va_cpy (gI σ a) (gI σ a2) sp.toNatClampNeg dp.toNatClampNeg n.toNatClampNeg)))) := by
    refine hH.upd a2 (by simp) oq (fun n hn => cpI_o n hn) ⟨fun _ => ?_, fun q => absurd (hK2.symm.trans q) (by decide), fun q => absurd (hK2.symm.trans q) (by decide), fun q => absurd (hK2.symm.trans q) (by decide), fun ci q k1 k2 => ?_⟩
    · rw [Array.getElem?_setIfInBounds, if_pos rfl, if_pos hl]
      rw [vp_cell_i]
      congr 2; funext j
      simp [gI, cpI, va_cpy]
    · have : ci = 19 := by omega
      subst this; cases k2
  obtain ⟨t, a1, b1⟩ := kk _ _ hH2 ⟨by simp; exact hS.1, fun q g1 g2 => by
      rw [oq q (fun e => g2 (by rw [e]; omega))]
      exact hS.2.1 q g1 g2, fun q hq => by
      rcases List.mem_append.mp hq with h | h
      · exact hS.2.2 q h
      · obtain ⟨z, -, hz⟩ := List.mem_map.mp h
        rw [← hz]
        show B ≤ B + a2
        omega⟩ _ hheap X2
  exact ⟨t, step t a1, b1⟩
set_option maxHeartbeats 1000000 in
theorem x_clone {p : Program} {l : Launch} {e : Env} {R : Room} {s : State} {m : MethodId} {args : Array Value} {below : List Frame} {meth : Method} {c : Code} {Q : State → Prop} {cc : ByteArray} {nL : Nat} {own : String} {B : Nat} {ad : Nat → Nat} {D : va_G} {ca : Nat → ClassId} {sc : Nat × (Nat → Int32)} {d z0 y0 Z Y : Nat} (C : Cx p R s m args c cc nL own B ad D ca sc d z0 y0 Z Y) {E : En} {σ : St} {H : Heap} {locs : List Loc} {cells slots pc : Nat} {ls : Array Slot} {rest : List Value} (hH : HR B ad D ca E σ H) (hS : va_S (fun q => B ≤ q) s.heap H locs) {idx a : Nat} (hls : ls.size = nL) (hl1 : Cond.methodLink own idx ⟨"[I", "clone", "()Ljava/lang/Object;"⟩ ∈ gW) (hl2 : Cond.sameMethod "[I" "java/lang/Object" "clone" "()Ljava/lang/Object;" ∈ gW) (hl3 : Cond.native ⟨"java/lang/Object", "clone", "()Ljava/lang/Object;"⟩ ∈ gW) (hl4 : Cond.instanceMethod ⟨"java/lang/Object", "clone", "()Ljava/lang/Object;"⟩ ∈ gW) (hl5 : Cond.selects "[I" ⟨"[I", "clone", "()Ljava/lang/Object;"⟩ ⟨"java/lang/Object", "clone", "()Ljava/lang/Object;"⟩ ∈ gW) (hK : eK E a = 20) (hm : eZ E + 1 ≤ 1000000) (hcells : cells + 1 ≤ R.cells) (hslots : slots + eL E a ≤ R.slots) (hcat : (rest.map fun v => v.category).sum ≤ 8) (hdg : decode cc pc = .ok (.invokevirtual idx, 3)) (kk : ∀ (H2 : Heap), HR B ad D ca (nA E 20 (eL E a)) (cln σ a (eZ E)) H2 → va_S (fun q => B ≤ q) s.heap H2 locs → W p l e R s m args below meth c H2 locs (cells + 1) (slots + eL E a) Q (F0 m (pc + 3) ls (.ref (ad (eZ E)) :: rest))) : W p l e R s m args below meth c H locs cells slots Q (F0 m pc ls (.ref (ad a) :: rest)) := by
  obtain ⟨hx, hb, hml, hown, hts, hG, hfr, hlo, -⟩ := C
  have ha : ad (eZ E) = H.size := by rw [hG.2.2.2.2.2.2.2.1 (eZ E) (by omega), hH.1]
  have hlt := hH.lt hK
  have ha2 : ad a = B + a := hG.2.2.2.2.2.2.2.1 a (Nat.lt_of_lt_of_le hlt hH.2.1)
  rw [ha2]
  have hnm : s.vm.findClass "[I" = some (ca 0) := (hG.1.2 0 _ rfl).2
  obtain ⟨c0, t0, f1, f2, f3⟩ := Cond.castable_spec (va_Nw.use (A := args) rfl hG.2.2.2.2.2.2.2.2.2.1)
  cases hnm.symm.trans f1
  intro T hT X
  have hc0 := (hH.2.2.2 a).1 hK
  have hcellT : T.heap[B + a]? = some (vp_cell (ca 0) (eL E a, .inl (gI σ a))) := by rw [hT]; exact hc0
  obtain ⟨-, kA, hkA, comp, hkind⟩ := State.isArrayOf_alike X.warmed.alike ((hG.1.2 0 _ rfl).1 0 (fun _ => .null))
  obtain ⟨-, kS, hkS, compS, hkindS⟩ := (hG.1.2 0 _ rfl).1 0 (fun _ => .null)
  have hsz : (vp_cell (ca 0) (eL E a, .inl (gI σ a))).slots.size = eL E a := arrV_size _ _ _
  obtain ⟨vm2, X2, st⟩ := X.cloneArray hx hown (hts _ hl1) (hts _ hl2) (hts _ hl3) (hts _ hl4) (hts _ hl5) (a := B + a) (cell := vp_cell (ca 0) (eL E a, .inl (gI σ a))) hcellT (fun k h => by cases h) (fun h => by cases h) hnm f2 f3
    (fun i v hv => by
      have hk2 : T.vm.classes[(vp_cell (ca 0) (eL E a, .inl (gI σ a))).cls]? = some kA := hkA
      have hfv : fits .int v = true := by
        by_cases hi : i < eL E a
        · have h9 : (vp_cell (ca 0) (eL E a, .inl (gI σ a))).slots[i]? = some (.int (gI σ a i)) := arrV_read _ _ hi
          rw [h9] at hv; cases hv; rfl
        · rw [Array.getElem?_eq_none (by rw [hsz]; omega)] at hv; cases hv
      simpa [State.fitsSlot, State.slotType?, hk2, hkind] using hfv)
    (g := F0 m pc ls (.ref (B + a) :: rest)) rfl (by rw [hml]; exact hls) rfl (by rw [hb]; exact hdg) (by omega) (by show 2 * 0 + _ + 14 ≤ _; omega) hcells (by rw [hsz]; exact hslots) (hloader := Vm.clonesLoader_of_array hkS hkindS)
  rw [hsz] at X2
  have hcE : ({ cls := (vp_cell (ca 0) (eL E a, .inl (gI σ a))).cls, slots := (vp_cell (ca 0) (eL E a, .inl (gI σ a))).slots } : Cell) = vp_cell (ca 0) (eL E a, .inl (gI σ a)) := rfl
  rw [hcE] at X2
  generalize hH1 : H.push (vp_cell (ca 0) (eL E a, .inl (gI σ a))) = H2
  have z1 : H2.size = H.size + 1 := by rw [← hH1, Array.size_push]
  have e1 : H2[H.size]? = some (vp_cell (ca 0) (eL E a, .inl (gI σ a))) := by rw [← hH1, Array.getElem?_push_size]
  have o1 : ∀ q : Nat, q < H.size → H2[q]? = H[q]? := fun q hq => by rw [← hH1, Array.getElem?_push, if_neg (Nat.ne_of_lt hq)]
  have hH2 : HR B ad D ca (nA E 20 (eL E a)) (cln σ a (eZ E)) H2 := by
    refine hH.new z1 o1 hm (fun n hn => by simp [eK, nA, hn]) (fun n hn => by simp [eL, nA, hn]) rfl (fun n hn => rfl) (fun n hn => ⟨by funext b; simp [gI, cln, hn], rfl, rfl⟩) ?_
    refine ⟨fun w => ?_, fun w => ?_, fun w => ?_, fun w => ?_, fun ci2 q2 k1 k2 => ?_⟩
    · rw [nA_L, ← hH.1, e1, vp_cell_i]; congr 2; funext j; simp [gI, cln]
    · rw [nA_K] at w; omega
    · rw [nA_K] at w; omega
    · rw [nA_K] at w; omega
    · have hc : ci2 = 19 := by rw [nA_K] at k1; omega
      subst hc; cases k2
  obtain ⟨t, b1, b2⟩ := kk H2 hH2 ⟨Nat.le_trans hS.1 (by omega), fun y h1 h2 => (o1 y (Nat.lt_of_lt_of_le h1 hS.1)).trans (hS.2.1 y h1 h2), hS.2.2⟩ ((T.setVm vm2).pushCell (vp_cell (ca 0) (eL E a, .inl (gI σ a)))) (by rw [← hH1, ← hT]; rfl) X2
  refine ⟨t, st t ?_, b2⟩
  rw [ha] at b1
  rw [hcE, hT]
  exact b1
set_option maxHeartbeats 1000000 in
theorem x_cast {p : Program} {l : Launch} {e : Env} {R : Room} {s : State} {m : MethodId} {args : Array Value} {below : List Frame} {meth : Method} {c : Code} {Q : State → Prop} {cc : ByteArray} {nL : Nat} {own : String} {B : Nat} {ad : Nat → Nat} {D : va_G} {ca : Nat → ClassId} {sc : Nat × (Nat → Int32)} {d z0 y0 Z Y : Nat} (C : Cx p R s m args c cc nL own B ad D ca sc d z0 y0 Z Y) {E : En} {σ : St} {H : Heap} {locs : List Loc} {cells slots pc : Nat} {ls : Array Slot} {rest : List Value} (hH : HR B ad D ca E σ H) (hS : va_S (fun q => B ≤ q) s.heap H locs) {idx a : Nat} (hl : Cond.classLink own idx "[I" ∈ gW) (hK : eK E a = 20) (hdg : decode cc pc = .ok (.checkcast idx, 3)) (kk : W p l e R s m args below meth c H locs cells slots Q (F0 m (pc + 3) ls (.ref (ad a) :: rest))) : W p l e R s m args below meth c H locs cells slots Q (F0 m pc ls (.ref (ad a) :: rest)) := by
  obtain ⟨hx, hb, hml, hown, hts, hG, -⟩ := C
  have ha2 : ad a = B + a := hG.2.2.2.2.2.2.2.1 a (Nat.lt_of_lt_of_le (hH.lt hK) hH.2.1)
  rw [ha2] at kk ⊢
  have hnm : s.vm.findClass "[I" = some (ca 0) := (hG.1.2 0 _ rfl).2
  intro T hT X
  obtain ⟨vm2, X2, st⟩ := X.checkcastYes hx hown (hts _ hl) (by rw [hT]; exact (hH.2.2.2 a).1 hK) rfl hnm (va_asg _ _) (g := F0 m pc ls (.ref (B + a) :: rest)) rfl rfl (by rw [hb]; exact hdg)
  obtain ⟨t, a1, b1⟩ := kk (T.setVm vm2) hT X2
  exact ⟨t, st t a1, b1⟩
