/-! THE SMALL MACHINE'S HEAP AND THE REAL ONE: the cell of name n lies at B + n; what was there before B is never written. -/
/-- the words that every method needs -/
def gW : List Cond := lw_tbl.filter goodWord
theorem gW_good {w : Cond} (h : w ∈ gW) : (w.onTables && w.keeps) = true ∨ ∃ ty, w = .arrayClass ty := good_of_word (List.mem_filter.mp h).2
def cv (ad : Nat → Nat) (v : Value) : Value := match v with
  | .ref n => .ref (ad n)
  | v => v
def cvL (ad : Nat → Nat) (lv : Lv) : Lv := lv.map fun q => (q.1, cv ad q.2)
theorem cv_cat (ad : Nat → Nat) (v : Value) : (cv ad v).category = v.category := by cases v <;> rfl
theorem cv_catS (ad : Nat → Nat) (st : List Value) : ((st.map (cv ad)).map fun v => v.category).sum = catS st := by
  unfold catS
  rw [List.map_map]
  congr 1
  exact List.map_congr_left fun v _ => cv_cat ad v
def cellP (B : Nat) (ad : Nat → Nat) (D : va_G) (ca : Nat → ClassId) (E : En) (σ : St) (H : Heap) (n : Nat) : Prop :=
  (eK E n = 20 → H[B + n]? = some (arrV (ca 0) (eL E n) (fun j => .int (gI σ n j)))) ∧
  (eK E n = 21 → H[B + n]? = some (arrV (ca 1) (eL E n) (fun j => .long (gJ σ n j)))) ∧
  (eK E n = 22 → H[B + n]? = some (arrV (ca 2) (eL E n) (fun j => .int (gI σ n j)))) ∧
  (eK E n = 23 → H[B + n]? = some (arrV (ca 3) (eL E n) (fun j => cv ad (orv (gR σ n j))))) ∧
  (∀ (ci : Nat) (q : vw_C), eK E n = ci + 1 → vwCl[ci]? = some q → t_OB (B + n) (D.1 ci) q.2.2 (D.2 ci) H (fun k => cv ad (fva E σ n (ftab ci k) k)))
def HR (B : Nat) (ad : Nat → Nat) (D : va_G) (ca : Nat → ClassId) (E : En) (σ : St) (H : Heap) : Prop :=
  H.size = B + eZ E ∧ eZ E ≤ 1000000 ∧ (∀ n, eZ E ≤ n → eK E n = 0) ∧ ∀ n, cellP B ad D ca E σ H n
theorem HR.lt {B : Nat} {ad : Nat → Nat} {D : va_G} {ca : Nat → ClassId} {E : En} {σ : St} {H : Heap} (h : HR B ad D ca E σ H) {a k : Nat} (hk : eK E a = k + 1) : a < eZ E := by
  rcases Nat.lt_or_ge a (eZ E) with q | q
  · exact q
  · rw [h.2.2.1 a q] at hk; cases hk
theorem fva_o {E : En} {σ σ' : St} {n t k : Nat} (h1 : gI σ' n = gI σ n) (h2 : gJ σ' n = gJ σ n) (h3 : gR σ' n = gR σ n) : fva E σ' n t k = fva E σ n t k := by
  unfold fva; rw [h1, h2, h3]
/-- one cell is written -/
theorem HR.upd {B : Nat} {ad : Nat → Nat} {D : va_G} {ca : Nat → ClassId} {E : En} {σ σ' : St} {H H' : Heap} (a : Nat) (h : HR B ad D ca E σ H) (hs : H'.size = H.size) (ho : ∀ q, q ≠ B + a → H'[q]? = H[q]?)
    (hσ : ∀ n, n ≠ a → gI σ' n = gI σ n ∧ gJ σ' n = gJ σ n ∧ gR σ' n = gR σ n) (hc : cellP B ad D ca E σ' H' a) : HR B ad D ca E σ' H' := by
  refine ⟨by rw [hs]; exact h.1, h.2.1, h.2.2.1, fun n => ?_⟩
  by_cases hn : n = a
  · subst hn; exact hc
  · have hq : H'[B + n]? = H[B + n]? := ho _ (by omega)
    obtain ⟨e1, e2, e3⟩ := hσ n hn
    obtain ⟨c1, c2, c3, c4, c5⟩ := h.2.2.2 n
    refine ⟨fun k => ?_, fun k => ?_, fun k => ?_, fun k => ?_, fun ci q k1 k2 => ?_⟩
    · rw [hq, e1]; exact c1 k
    · rw [hq, e2]; exact c2 k
    · rw [hq, e1]; exact c3 k
    · rw [hq, e3]; exact c4 k
    · exact ((c5 ci q k1 k2).kept hq).to fun j _ => by rw [fva_o e1 e2 e3]
theorem sI_o {σ : St} {a k : Nat} {v : Int32} (n : Nat) (h : n ≠ a) : gI (sI σ a k v) n = gI σ n ∧ gJ (sI σ a k v) n = gJ σ n ∧ gR (sI σ a k v) n = gR σ n := by
  refine ⟨?_, rfl, rfl⟩
  funext b; simp [gI, sI, u2, h]
theorem sJ_o {σ : St} {a k : Nat} {v : Int64} (n : Nat) (h : n ≠ a) : gI (sJ σ a k v) n = gI σ n ∧ gJ (sJ σ a k v) n = gJ σ n ∧ gR (sJ σ a k v) n = gR σ n := by
  refine ⟨rfl, ?_, rfl⟩
  funext b; simp [gJ, sJ, u2, h]
theorem sR_o {σ : St} {a k : Nat} {v : Option Nat} (n : Nat) (h : n ≠ a) : gI (sR σ a k v) n = gI σ n ∧ gJ (sR σ a k v) n = gJ σ n ∧ gR (sR σ a k v) n = gR σ n := by
  refine ⟨rfl, rfl, ?_⟩
  funext b; simp [gR, sR, u2, h]
theorem gI_sI (σ : St) (a k n j : Nat) (v : Int32) : gI (sI σ a k v) n j = if n = a then (if j = k then v else gI σ n j) else gI σ n j := rfl
theorem gJ_sJ (σ : St) (a k n j : Nat) (v : Int64) : gJ (sJ σ a k v) n j = if n = a then (if j = k then v else gJ σ n j) else gJ σ n j := rfl
theorem gR_sR (σ : St) (a k n j : Nat) (v : Option Nat) : gR (sR σ a k v) n j = if n = a then (if j = k then v else gR σ n j) else gR σ n j := rfl
theorem gI_sJ (σ : St) (a k n j : Nat) (v : Int64) : gI (sJ σ a k v) n j = gI σ n j := rfl
theorem gI_sR (σ : St) (a k n j : Nat) (v : Option Nat) : gI (sR σ a k v) n j = gI σ n j := rfl
theorem gJ_sI (σ : St) (a k n j : Nat) (v : Int32) : gJ (sI σ a k v) n j = gJ σ n j := rfl
theorem gJ_sR (σ : St) (a k n j : Nat) (v : Option Nat) : gJ (sR σ a k v) n j = gJ σ n j := rfl
theorem gR_sI (σ : St) (a k n j : Nat) (v : Int32) : gR (sI σ a k v) n j = gR σ n j := rfl
theorem gR_sJ (σ : St) (a k n j : Nat) (v : Int64) : gR (sJ σ a k v) n j = gR σ n j := rfl
/-- stores into arrays -/
theorem HR.ast {B : Nat} {ad : Nat → Nat} {D : va_G} {ca : Nat → ClassId} {E : En} {σ : St} {H H' : Heap} {a j : Nat} {x : Int32} (h : HR B ad D ca E σ H) (hk : eK E a = 20) (hs : H'.size = H.size) (ho : ∀ q, q ≠ B + a → H'[q]? = H[q]?)
    (hc : H'[B + a]? = some ((arrV (ca 0) (eL E a) (fun i => .int (gI σ a i))).setSlot j (.int x))) : HR B ad D ca E (sI σ a j x) H' := by
  refine h.upd a hs ho (fun n hn => sI_o n hn) ⟨fun _ => ?_, fun q => absurd (hk.symm.trans q) (by decide), fun q => absurd (hk.symm.trans q) (by decide), fun q => absurd (hk.symm.trans q) (by decide), fun ci q k1 k2 => ?_⟩
  · rw [hc, arrV_store]
    congr 2; funext i
    rw [gI_sI, if_pos rfl]
    by_cases hi : i = j <;> simp [updV, hi]
  · have : ci = 19 := by omega
    subst this; cases k2
theorem HR.lst {B : Nat} {ad : Nat → Nat} {D : va_G} {ca : Nat → ClassId} {E : En} {σ : St} {H H' : Heap} {a j : Nat} {x : Int64} (h : HR B ad D ca E σ H) (hk : eK E a = 21) (hs : H'.size = H.size) (ho : ∀ q, q ≠ B + a → H'[q]? = H[q]?)
    (hc : H'[B + a]? = some ((arrV (ca 1) (eL E a) (fun i => .long (gJ σ a i))).setSlot j (.long x))) : HR B ad D ca E (sJ σ a j x) H' := by
  refine h.upd a hs ho (fun n hn => sJ_o n hn) ⟨fun q => absurd (hk.symm.trans q) (by decide), fun _ => ?_, fun q => absurd (hk.symm.trans q) (by decide), fun q => absurd (hk.symm.trans q) (by decide), fun ci q k1 k2 => ?_⟩
  · rw [hc, arrV_store]
    congr 2; funext i
    rw [gJ_sJ, if_pos rfl]
    by_cases hi : i = j <;> simp [updV, hi]
  · have : ci = 20 := by omega
    subst this; cases k2
theorem HR.zst {B : Nat} {ad : Nat → Nat} {D : va_G} {ca : Nat → ClassId} {E : En} {σ : St} {H H' : Heap} {a j : Nat} {x : Int32} (h : HR B ad D ca E σ H) (hk : eK E a = 22) (hs : H'.size = H.size) (ho : ∀ q, q ≠ B + a → H'[q]? = H[q]?)
    (hc : H'[B + a]? = some ((arrV (ca 2) (eL E a) (fun i => .int (gI σ a i))).setSlot j (.int x))) : HR B ad D ca E (sI σ a j x) H' := by
  refine h.upd a hs ho (fun n hn => sI_o n hn) ⟨fun q => absurd (hk.symm.trans q) (by decide), fun q => absurd (hk.symm.trans q) (by decide), fun _ => ?_, fun q => absurd (hk.symm.trans q) (by decide), fun ci q k1 k2 => ?_⟩
  · rw [hc, arrV_store]
    congr 2; funext i
    rw [gI_sI, if_pos rfl]
    by_cases hi : i = j <;> simp [updV, hi]
  · have : ci = 21 := by omega
    subst this; cases k2
theorem HR.rst {B : Nat} {ad : Nat → Nat} {D : va_G} {ca : Nat → ClassId} {E : En} {σ : St} {H H' : Heap} {a j : Nat} {x : Option Nat} (h : HR B ad D ca E σ H) (hk : eK E a = 23) (hs : H'.size = H.size) (ho : ∀ q, q ≠ B + a → H'[q]? = H[q]?)
    (hc : H'[B + a]? = some ((arrV (ca 3) (eL E a) (fun i => cv ad (orv (gR σ a i)))).setSlot j (cv ad (orv x)))) : HR B ad D ca E (sR σ a j x) H' := by
  refine h.upd a hs ho (fun n hn => sR_o n hn) ⟨fun q => absurd (hk.symm.trans q) (by decide), fun q => absurd (hk.symm.trans q) (by decide), fun q => absurd (hk.symm.trans q) (by decide), fun _ => ?_, fun ci q k1 k2 => ?_⟩
  · rw [hc, arrV_store]
    congr 2; funext i
    rw [gR_sR, if_pos rfl]
    by_cases hi : i = j <;> simp [updV, hi]
  · have : ci = 22 := by omega
    subst this; cases k2
/-- nest mates' links -/
def nestM : List (String × Nat × MethodName) := [
  ("GoatAbacus", 253, yX8_init), ("GoatAbacus", 36, yX2_init), ("GoatAbacus", 43, yX5_init), ("GoatAbacus", 63, yX3_init), ("GoatAbacus", 70, yX6_init), ("GoatAbacus", 77, yX0_init),
  ("GoatAbacus$Dogs", 107, yX9_isDigit), ("GoatAbacus$Dogs", 68, yX9_digitOf), ("GoatAbacus$Ear", 22, yX9_topPlace), ("GoatAbacus$Ear", 28, yX9_digitOf), ("GoatAbacus$Store", 19, yX9_hasBit), ("GoatAbacus$Tape", 54, yX9_isDigit),
  ("GoatAbacus$Timetable", 58, yX9_digitOf), ("GoatAbacus$Timetable", 79, yX9_isDigit), ("GoatAbacus$Valley", 105, yX9_topPlace), ("GoatAbacus$Valley", 115, yX9_isDigit), ("GoatAbacus$Valley", 72, yX9_digitOf), ("GoatAbacus$Valley", 84, yX9_hasBit)]
def nestF : List (String × Nat) := [("GoatAbacus$Ear", 50), ("GoatAbacus$Valley", 76), ("GoatAbacus$Veil", 51)]
abbrev mW (t : String × Nat × MethodName) : Cond := .methodLinkNest t.1 t.2.1 t.2.2 "GoatAbacus"
abbrev fW (t : String × Nat) : Cond := .fieldLinkNest t.1 t.2 "GoatAbacus" "TENS" "[J" "GoatAbacus"
theorem nestM_ok : ∀ t ∈ nestM, mW t ∈ lw_tbl := by decide +kernel
theorem nestF_ok : ∀ t ∈ nestF, fW t ∈ lw_tbl := by decide +kernel
/-- what is known of the tables and of what was there before -/
def kG (B : Nat) (ad : Nat → Nat) (D : va_G) (ca : Nat → ClassId) (sc : Nat × (Nat → Int32)) (U : State) (H : Heap) : Prop :=
  va_K D vwCl [(ca 0, .int), (ca 1, .long), (ca 2, .boolean), (ca 3, .object "GoatAbacus$Sum")] U ∧ (∀ t ∈ nestM, va_Nw (mW t) U) ∧ (∀ t ∈ nestF, va_Nw (fW t) U) ∧
  va_Z "GoatAbacus" "TENS" "[J" (.ref (ad TN)) (fun q => B ≤ q) U H ∧ va_T .long (ad TN) 13 (fun j => .long (tens j)) (fun q => B ≤ q) U H ∧ va_X (ad SN) sc.1 sc.2 U H ∧ ad SN < B ∧ (∀ n, n < 1000000 → ad n = B + n) ∧ va_AO "GoatAbacus$Sum" U ∧ va_Nw (.castable "[I" "java/lang/Cloneable") U ∧ vk_R "GoatAbacus$Tape" 40 "atdhz" (ad LN) U ∧ ∃ av : Nat, vk_S 1 [5] [[97, 116, 100, 104, 122]] (fun _ => ad LN) (fun _ => av) (fun q => B ≤ q) U H ∧ va_Z "java/lang/String" "COMPACT_STRINGS" "Z" (.int 1) (fun q => B ≤ q) U H
theorem kG.to {B : Nat} {ad : Nat → Nat} {D : va_G} {ca : Nat → ClassId} {sc : Nat × (Nat → Int32)} {s U : State} {H0 H : Heap} (h : kG B ad D ca sc s H0) (hW : s.WarmedH U.vm) (hq : ∀ q : Nat, q < H0.size → ¬ B ≤ q → H[q]? = H0[q]?) : kG B ad D ca sc U H := by
  obtain ⟨h1, h2, h3, h4, h5, h6, h7, h8, h9, h10, h11, av, h12⟩ := h
  refine ⟨h1.moved hW.alike, fun t ht => (h2 t ht).warmM hW, fun t ht => (h3 t ht).warmF hW, (h4.moved hW.alike).kept hq, (h5.moved hW.alike).kept hq, (h6.moved hW.alike).kept (hq _ ?_ (by omega)), h7, h8, h9.moved hW.alike, h10.warmC hW, h11.warm hW, av, (h12.1.moved hW.alike).kept hq, (h12.2.moved hW.alike).kept hq⟩
  obtain ⟨scr, q, -⟩ := h6
  exact (Array.getElem?_eq_some_iff.mp q).1
