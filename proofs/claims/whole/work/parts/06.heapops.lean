/-! FIELDS AND ARRAYS -/
theorem wX0_a : ∀ w ∈ wsX00, w ∈ lw_tbl := by decide +kernel
theorem wX0_b : wsX00.all goodWord = true := by decide +kernel
theorem wX0_g : ∀ w ∈ wsX00, w ∈ gW := fun w h => List.mem_filter.mpr ⟨wX0_a w h, List.all_eq_true.mp wX0_b w h⟩
theorem wX1_a : ∀ w ∈ wsX10, w ∈ lw_tbl := by decide +kernel
theorem wX1_b : wsX10.all goodWord = true := by decide +kernel
theorem wX1_g : ∀ w ∈ wsX10, w ∈ gW := fun w h => List.mem_filter.mpr ⟨wX1_a w h, List.all_eq_true.mp wX1_b w h⟩
theorem wX2_a : ∀ w ∈ wsX20, w ∈ lw_tbl := by decide +kernel
theorem wX2_b : wsX20.all goodWord = true := by decide +kernel
theorem wX2_g : ∀ w ∈ wsX20, w ∈ gW := fun w h => List.mem_filter.mpr ⟨wX2_a w h, List.all_eq_true.mp wX2_b w h⟩
theorem wX3_a : ∀ w ∈ wsX30, w ∈ lw_tbl := by decide +kernel
theorem wX3_b : wsX30.all goodWord = true := by decide +kernel
theorem wX3_g : ∀ w ∈ wsX30, w ∈ gW := fun w h => List.mem_filter.mpr ⟨wX3_a w h, List.all_eq_true.mp wX3_b w h⟩
theorem wX4_a : ∀ w ∈ wsX40, w ∈ lw_tbl := by decide +kernel
theorem wX4_b : wsX40.all goodWord = true := by decide +kernel
theorem wX4_g : ∀ w ∈ wsX40, w ∈ gW := fun w h => List.mem_filter.mpr ⟨wX4_a w h, List.all_eq_true.mp wX4_b w h⟩
theorem wX5_a : ∀ w ∈ wsX50, w ∈ lw_tbl := by decide +kernel
theorem wX5_b : wsX50.all goodWord = true := by decide +kernel
theorem wX5_g : ∀ w ∈ wsX50, w ∈ gW := fun w h => List.mem_filter.mpr ⟨wX5_a w h, List.all_eq_true.mp wX5_b w h⟩
theorem wX6_a : ∀ w ∈ wsX60, w ∈ lw_tbl := by decide +kernel
theorem wX6_b : wsX60.all goodWord = true := by decide +kernel
theorem wX6_g : ∀ w ∈ wsX60, w ∈ gW := fun w h => List.mem_filter.mpr ⟨wX6_a w h, List.all_eq_true.mp wX6_b w h⟩
theorem wX7_a : ∀ w ∈ wsX70, w ∈ lw_tbl := by decide +kernel
theorem wX7_b : wsX70.all goodWord = true := by decide +kernel
theorem wX7_g : ∀ w ∈ wsX70, w ∈ gW := fun w h => List.mem_filter.mpr ⟨wX7_a w h, List.all_eq_true.mp wX7_b w h⟩
theorem wX8_a : ∀ w ∈ wsX80, w ∈ lw_tbl := by decide +kernel
theorem wX8_b : wsX80.all goodWord = true := by decide +kernel
theorem wX8_g : ∀ w ∈ wsX80, w ∈ gW := fun w h => List.mem_filter.mpr ⟨wX8_a w h, List.all_eq_true.mp wX8_b w h⟩
theorem wX9_a : ∀ w ∈ wsX90, w ∈ lw_tbl := by decide +kernel
theorem wX9_b : wsX90.all goodWord = true := by decide +kernel
theorem wX9_g : ∀ w ∈ wsX90, w ∈ gW := fun w h => List.mem_filter.mpr ⟨wX9_a w h, List.all_eq_true.mp wX9_b w h⟩
theorem wX10_a : ∀ w ∈ wsX100, w ∈ lw_tbl := by decide +kernel
theorem wX10_b : wsX100.all goodWord = true := by decide +kernel
theorem wX10_g : ∀ w ∈ wsX100, w ∈ gW := fun w h => List.mem_filter.mpr ⟨wX10_a w h, List.all_eq_true.mp wX10_b w h⟩
def tyOf (ci : Nat) : Nat → FieldType := match ci with
  | 0 => tyX0
  | 1 => tyX1
  | 2 => tyX2
  | 3 => tyX3
  | 4 => tyX4
  | 5 => tyX5
  | 6 => tyX6
  | 7 => tyX7
  | 8 => tyX8
  | 9 => tyX9
  | _ => tyX10
theorem clsW : ∀ (ci : Nat) (q : vw_C), vwCl[ci]? = some q → ∀ w ∈ u_ws q.1 q.2.1 q.2.2, w ∈ gW := by
  intro ci q h
  match ci, h with
  | 0, h => cases h; exact wX0_g
  | 1, h => cases h; exact wX1_g
  | 2, h => cases h; exact wX2_g
  | 3, h => cases h; exact wX3_g
  | 4, h => cases h; exact wX4_g
  | 5, h => cases h; exact wX5_g
  | 6, h => cases h; exact wX6_g
  | 7, h => cases h; exact wX7_g
  | 8, h => cases h; exact wX8_g
  | 9, h => cases h; exact wX9_g
  | 10, h => cases h; exact wX10_g
  | n + 11, h => cases h
theorem clsT : ∀ (ci : Nat) (q : vw_C), vwCl[ci]? = some q → ∀ k, k < q.2.2 → parseFieldDescriptor (q.2.1 k).2.2.1 = some (tyOf ci k) := by
  intro ci q h
  match ci, h with
  | 0, h => cases h; exact tyX0_ok
  | 1, h => cases h; exact tyX1_ok
  | 2, h => cases h; exact tyX2_ok
  | 3, h => cases h; exact tyX3_ok
  | 4, h => cases h; exact tyX4_ok
  | 5, h => cases h; exact tyX5_ok
  | 6, h => cases h; exact tyX6_ok
  | 7, h => cases h; exact tyX7_ok
  | 8, h => cases h; exact tyX8_ok
  | 9, h => cases h; exact tyX9_ok
  | 10, h => cases h; exact tyX10_ok
  | n + 11, h => cases h
theorem clsN : ∀ (ci : Nat) (q : vw_C), vwCl[ci]? = some q → ∀ a, a < q.2.2 → ∀ b, b < q.2.2 → a ≠ b → (q.2.1 a).2.1 ≠ (q.2.1 b).2.1 := by
  intro ci q h
  match ci, h with
  | 0, h => cases h; exact nmX0
  | 1, h => cases h; exact nmX1
  | 2, h => cases h; exact nmX2
  | 3, h => cases h; exact nmX3
  | 4, h => cases h; exact nmX4
  | 5, h => cases h; exact nmX5
  | 6, h => cases h; exact nmX6
  | 7, h => cases h; exact nmX7
  | 8, h => cases h; exact nmX8
  | 9, h => cases h; exact nmX9
  | 10, h => cases h; exact nmX10
  | n + 11, h => cases h
theorem clsF : ∀ (ci : Nat) (q : vw_C), vwCl[ci]? = some q → ∀ k, ftab ci k = ftOf (tyOf ci k) (q.2.1 k).2.2.2 := by
  intro ci q h
  match ci, h with
  | 0, h => cases h; exact (fun _ => rfl)
  | 1, h => cases h; exact (fun _ => rfl)
  | 2, h => cases h; exact (fun _ => rfl)
  | 3, h => cases h; exact (fun _ => rfl)
  | 4, h => cases h; exact (fun _ => rfl)
  | 5, h => cases h; exact (fun _ => rfl)
  | 6, h => cases h; exact (fun _ => rfl)
  | 7, h => cases h; exact (fun _ => rfl)
  | 8, h => cases h; exact (fun _ => rfl)
  | 9, h => cases h; exact (fun _ => rfl)
  | 10, h => cases h; exact (fun _ => rfl)
  | n + 11, h => cases h
set_option maxHeartbeats 1000000 in
theorem x_get {p : Program} {l : Launch} {e : Env} {R : Room} {s : State} {m : MethodId} {args : Array Value} {below : List Frame} {meth : Method} {c : Code} {Q : State → Prop} {cc : ByteArray} {nL : Nat} {own : String} {B : Nat} {ad : Nat → Nat} {D : va_G} {ca : Nat → ClassId} {sc : Nat × (Nat → Int32)} {d z0 y0 Z Y : Nat} (C : Cx p R s m args c cc nL own B ad D ca sc d z0 y0 Z Y) {E : En} {σ : St} {H : Heap} {locs : List Loc} {cells slots pc : Nat} {ls : Array Slot} {rest : List Value} (hH : HR B ad D ca E σ H) (hS : va_S (fun q => B ≤ q) s.heap H locs) {a ci k idx : Nat} {q : vw_C} (hq : vwCl[ci]? = some q) (hK : eK E a = ci + 1) (hk : k < q.2.2) (hlk : Cond.fieldLink own idx q.1 (q.2.1 k).2.1 (q.2.1 k).2.2.1 ∈ gW) (hdl : (q.2.1 k).1 = q.1) (hdg : decode cc pc = .ok (.getfield idx, 3)) (kk : W p l e R s m args below meth c H locs cells slots Q (F0 m (pc + 3) ls (cv ad (fva E σ a (ftab ci k) k) :: rest))) : W p l e R s m args below meth c H locs cells slots Q (F0 m pc ls (.ref (ad a) :: rest)) := by
  obtain ⟨hx, hb, hml, hown, hts, hG, -⟩ := C
  have ha : ad a = B + a := hG.2.2.2.2.2.2.2.1 a (Nat.lt_of_lt_of_le (hH.lt hK) hH.2.1)
  rw [ha]
  obtain ⟨cell, q1, q2, q3, q4⟩ := (hH.2.2.2 a).2.2.2.2 ci q hK hq
  obtain ⟨hSl, hfc, kC, hkC, hkind⟩ := hG.1.1 ci _ hq
  obtain ⟨cf, kf, fi, f, hi, hsl⟩ := hSl k hk
  refine W.getf hx hb hown (hts _ hlk) (by rw [← hdl]; exact hi) (u_facts hfc hkC (u_lays hts (clsW ci q hq) hk) hi).1 q1 (by rw [q3]; exact fun h => by cases h) ?_ rfl rfl hdg kk
  rw [hsl, q4 k hk]
set_option maxHeartbeats 1000000 in
theorem x_put {p : Program} {l : Launch} {e : Env} {R : Room} {s : State} {m : MethodId} {args : Array Value} {below : List Frame} {meth : Method} {c : Code} {Q : State → Prop} {cc : ByteArray} {nL : Nat} {own : String} {B : Nat} {ad : Nat → Nat} {D : va_G} {ca : Nat → ClassId} {sc : Nat × (Nat → Int32)} {d z0 y0 Z Y : Nat} (C : Cx p R s m args c cc nL own B ad D ca sc d z0 y0 Z Y) {E : En} {σ : St} {H : Heap} {locs : List Loc} {cells slots pc : Nat} {ls : Array Slot} {rest : List Value} (hH : HR B ad D ca E σ H) (hS : va_S (fun q => B ≤ q) s.heap H locs) {a ci k idx : Nat} {q : vw_C} (hq : vwCl[ci]? = some q) (hK : eK E a = ci + 1) (hk : k < q.2.2) (hlk : Cond.fieldLink own idx q.1 (q.2.1 k).2.1 (q.2.1 k).2.2.1 ∈ gW) (hdl : (q.2.1 k).1 = q.1) (hfin : (q.2.1 k).2.2.2 = false) {v : Value} (hn : narrow (tyOf ci k) v = v) (hfit : fits (tyOf ci k) v = true) (hdg : decode cc pc = .ok (.putfield idx, 3)) (kk : ∀ (H2 : Heap) (locs2 : List Loc), H2.size = H.size → (∀ z, z ≠ B + a → H2[z]? = H[z]?) → t_OB (B + a) (D.1 ci) q.2.2 (D.2 ci) H2 (updV (fun j => cv ad (fva E σ a (ftab ci j) j)) k v) → va_S (fun q => B ≤ q) s.heap H2 locs2 → W p l e R s m args below meth c H2 locs2 cells slots Q (F0 m (pc + 3) ls rest)) : W p l e R s m args below meth c H locs cells slots Q (F0 m pc ls (v :: .ref (ad a) :: rest)) := by
  obtain ⟨hx, hb, hml, hown, hts, hG, -⟩ := C
  have ha : ad a = B + a := hG.2.2.2.2.2.2.2.1 a (Nat.lt_of_lt_of_le (hH.lt hK) hH.2.1)
  rw [ha]
  have hap := va_apart (own := own) hts (clsW ci q hq) (tyOf ci) (clsT ci q hq) (clsN ci q hq) hG.1 hq
  obtain ⟨cell, q1, q2, q3, q4⟩ := (hH.2.2.2 a).2.2.2.2 ci q hK hq
  obtain ⟨hSl, hfc, kC, hkC, hkind⟩ := hG.1.1 ci _ hq
  obtain ⟨cf, kf, fi, f, hi, hsl⟩ := hSl k hk
  have hlay := hts _ (clsW ci q hq _ (u_in_lay hk))
  unfold u_lay at hlay
  rw [if_neg (by rw [hfin]; decide)] at hlay
  have hst := (u_facts hfc hkC (u_lays hts (clsW ci q hq) hk) hi).1
  have h6 := u_store hfc hkC hkind hlay hi (clsT ci q hq k hk) hn hfit
  refine W.putK hx hb (f := f) ⟨hown, hts _ hlk, ⟨_, _, _, by rw [← hdl]; exact hi⟩, hst⟩ (by rw [q2]; exact h6) q1 q3 (by rw [hsl]; exact k2_hasslot (q4 k hk)) rfl rfl hdg fun H2 e1 e2 e3 => ?_
  rw [hsl] at e1 ⊢
  exact kk H2 _ e2 e3 ⟨_, e1, q2, q3, t_set q4 hap hk v⟩ (hS.put e2 e3 (by omega))
set_option maxHeartbeats 1000000 in
theorem x_putF {p : Program} {l : Launch} {e : Env} {R : Room} {s : State} {m : MethodId} {args : Array Value} {below : List Frame} {meth : Method} {c : Code} {Q : State → Prop} {cc : ByteArray} {nL : Nat} {own : String} {B : Nat} {ad : Nat → Nat} {D : va_G} {ca : Nat → ClassId} {sc : Nat × (Nat → Int32)} {d z0 y0 Z Y : Nat} (C : Cx p R s m args c cc nL own B ad D ca sc d z0 y0 Z Y) {E : En} {σ : St} {H : Heap} {locs : List Loc} {cells slots pc : Nat} {ls : Array Slot} {rest : List Value} (hH : HR B ad D ca E σ H) (hS : va_S (fun q => B ≤ q) s.heap H locs) {a ci k idx : Nat} {q : vw_C} (hq : vwCl[ci]? = some q) (hK : eK E a = ci + 1) (hk : k < q.2.2) (hlk : Cond.fieldLink own idx q.1 (q.2.1 k).2.1 (q.2.1 k).2.2.1 ∈ gW) (hdl : (q.2.1 k).1 = q.1) (hfin : (q.2.1 k).2.2.2 = true) (hin : meth.name = "<init>") (hwn : q.1 = own) {v : Value} (hn : narrow (tyOf ci k) v = v) (hfit : fits (tyOf ci k) v = true) (hdg : decode cc pc = .ok (.putfield idx, 3)) (kk : ∀ (H2 : Heap) (locs2 : List Loc), H2.size = H.size → (∀ z, z ≠ B + a → H2[z]? = H[z]?) → t_OB (B + a) (D.1 ci) q.2.2 (D.2 ci) H2 (updV (fun j => cv ad (fva E σ a (ftab ci j) j)) k v) → va_S (fun q => B ≤ q) s.heap H2 locs2 → W p l e R s m args below meth c H2 locs2 cells slots Q (F0 m (pc + 3) ls rest)) : W p l e R s m args below meth c H locs cells slots Q (F0 m pc ls (v :: .ref (ad a) :: rest)) := by
  obtain ⟨hx, hb, hml, hown, hts, hG, -⟩ := C
  have ha : ad a = B + a := hG.2.2.2.2.2.2.2.1 a (Nat.lt_of_lt_of_le (hH.lt hK) hH.2.1)
  rw [ha]
  have hap := va_apart (own := own) hts (clsW ci q hq) (tyOf ci) (clsT ci q hq) (clsN ci q hq) hG.1 hq
  obtain ⟨cell, q1, q2, q3, q4⟩ := (hH.2.2.2 a).2.2.2.2 ci q hK hq
  obtain ⟨hSl, hfc, kC, hkC, hkind⟩ := hG.1.1 ci _ hq
  obtain ⟨cf, kf, fi, f, hi, hsl⟩ := hSl k hk
  have hlay := hts _ (clsW ci q hq _ (u_in_lay hk))
  unfold u_lay at hlay
  rw [if_pos hfin] at hlay
  have hst := (u_facts hfc hkC (u_lays hts (clsW ci q hq) hk) hi).1
  have hcf : m.cls = cf := by
    obtain ⟨_, _, c2, _, _, _, -, -, hf2, -, -, -, hown2, -⟩ := Cond.laysFinal_spec hlay
    have e1 : c2 = cf := by have := hi.symm.trans hf2; simp at this; exact this.1.symm
    rw [hdl, hwn] at hown2
    rw [← e1]; exact Option.some.inj (hown.symm.trans hown2)
  have h6 := u_fits hfc hkC hkind (Or.inr hlay) hi (clsT ci q hq k hk) hn hfit
  refine W.putFinK hx hb hown (hts _ hlk) (by rw [← hdl]; exact hi) hst hcf hin (by rw [q2]; exact h6) q1 q3 (by rw [hsl]; exact k2_hasslot (q4 k hk)) rfl rfl hdg fun H2 e1 e2 e3 => ?_
  rw [hsl] at e1 ⊢
  exact kk H2 _ e2 e3 ⟨_, e1, q2, q3, t_set q4 hap hk v⟩ (hS.put e2 e3 (by omega))
set_option maxHeartbeats 1000000 in
theorem x_iald {p : Program} {l : Launch} {e : Env} {R : Room} {s : State} {m : MethodId} {args : Array Value} {below : List Frame} {meth : Method} {c : Code} {Q : State → Prop} {cc : ByteArray} {nL : Nat} {own : String} {B : Nat} {ad : Nat → Nat} {D : va_G} {ca : Nat → ClassId} {sc : Nat × (Nat → Int32)} {d z0 y0 Z Y : Nat} (C : Cx p R s m args c cc nL own B ad D ca sc d z0 y0 Z Y) {E : En} {σ : St} {H : Heap} {locs : List Loc} {cells slots pc : Nat} {ls : Array Slot} {rest : List Value} (hH : HR B ad D ca E σ H) (hS : va_S (fun q => B ≤ q) s.heap H locs) {a : Nat} {i : Int32} (hK : eK E a = 20) (hin : vp_in i (eL E a)) (hdg : decode cc pc = .ok (.iaload, 1)) (kk : W p l e R s m args below meth c H locs cells slots Q (F0 m (pc + 1) ls (.int (gI σ a i.toNatClampNeg) :: rest))) : W p l e R s m args below meth c H locs cells slots Q (F0 m pc ls (.int i :: .ref (ad a) :: rest)) := by
  have hlt : i.toNatClampNeg < eL E a := Nat.not_le.mp fun q => hin (Or.inr q)
  obtain ⟨hx, hb, hml, hown, hts, hG, -⟩ := C
  have ha : ad a = B + a := hG.2.2.2.2.2.2.2.1 a (Nat.lt_of_lt_of_le (hH.lt hK) hH.2.1)
  rw [ha]
  exact W.iald (v := .int (gI σ a i.toNatClampNeg)) hx hb ((hH.2.2.2 a).1 hK) ((hG.1.2 0 _ rfl).1 _ _) (fun q => by cases q) (by rw [arrV_size]; exact hin) (by rw [arrV_read _ _ hlt]) rfl rfl hdg kk
set_option maxHeartbeats 1000000 in
theorem x_lald {p : Program} {l : Launch} {e : Env} {R : Room} {s : State} {m : MethodId} {args : Array Value} {below : List Frame} {meth : Method} {c : Code} {Q : State → Prop} {cc : ByteArray} {nL : Nat} {own : String} {B : Nat} {ad : Nat → Nat} {D : va_G} {ca : Nat → ClassId} {sc : Nat × (Nat → Int32)} {d z0 y0 Z Y : Nat} (C : Cx p R s m args c cc nL own B ad D ca sc d z0 y0 Z Y) {E : En} {σ : St} {H : Heap} {locs : List Loc} {cells slots pc : Nat} {ls : Array Slot} {rest : List Value} (hH : HR B ad D ca E σ H) (hS : va_S (fun q => B ≤ q) s.heap H locs) {a : Nat} {i : Int32} (hK : eK E a = 21) (hin : vp_in i (eL E a)) (hdg : decode cc pc = .ok (.laload, 1)) (kk : W p l e R s m args below meth c H locs cells slots Q (F0 m (pc + 1) ls (.long (gJ σ a i.toNatClampNeg) :: rest))) : W p l e R s m args below meth c H locs cells slots Q (F0 m pc ls (.int i :: .ref (ad a) :: rest)) := by
  have hlt : i.toNatClampNeg < eL E a := Nat.not_le.mp fun q => hin (Or.inr q)
  obtain ⟨hx, hb, hml, hown, hts, hG, -⟩ := C
  have ha : ad a = B + a := hG.2.2.2.2.2.2.2.1 a (Nat.lt_of_lt_of_le (hH.lt hK) hH.2.1)
  rw [ha]
  exact W.lald (v := .long (gJ σ a i.toNatClampNeg)) hx hb ((hH.2.2.2 a).2.1 hK) ((hG.1.2 1 _ rfl).1 _ _) (fun q => by cases q) (by rw [arrV_size]; exact hin) (by rw [arrV_read _ _ hlt]) rfl rfl hdg kk
set_option maxHeartbeats 1000000 in
theorem x_zald {p : Program} {l : Launch} {e : Env} {R : Room} {s : State} {m : MethodId} {args : Array Value} {below : List Frame} {meth : Method} {c : Code} {Q : State → Prop} {cc : ByteArray} {nL : Nat} {own : String} {B : Nat} {ad : Nat → Nat} {D : va_G} {ca : Nat → ClassId} {sc : Nat × (Nat → Int32)} {d z0 y0 Z Y : Nat} (C : Cx p R s m args c cc nL own B ad D ca sc d z0 y0 Z Y) {E : En} {σ : St} {H : Heap} {locs : List Loc} {cells slots pc : Nat} {ls : Array Slot} {rest : List Value} (hH : HR B ad D ca E σ H) (hS : va_S (fun q => B ≤ q) s.heap H locs) {a : Nat} {i : Int32} (hK : eK E a = 22) (hin : vp_in i (eL E a)) (hdg : decode cc pc = .ok (.baload, 1)) (kk : W p l e R s m args below meth c H locs cells slots Q (F0 m (pc + 1) ls (.int (gI σ a i.toNatClampNeg) :: rest))) : W p l e R s m args below meth c H locs cells slots Q (F0 m pc ls (.int i :: .ref (ad a) :: rest)) := by
  have hlt : i.toNatClampNeg < eL E a := Nat.not_le.mp fun q => hin (Or.inr q)
  obtain ⟨hx, hb, hml, hown, hts, hG, -⟩ := C
  have ha : ad a = B + a := hG.2.2.2.2.2.2.2.1 a (Nat.lt_of_lt_of_le (hH.lt hK) hH.2.1)
  rw [ha]
  exact W.zald (v := .int (gI σ a i.toNatClampNeg)) hx hb ((hH.2.2.2 a).2.2.1 hK) ((hG.1.2 2 _ rfl).1 _ _) (fun q => by cases q) (by rw [arrV_size]; exact hin) (by rw [arrV_read _ _ hlt]) rfl rfl hdg kk
set_option maxHeartbeats 1000000 in
theorem x_aald {p : Program} {l : Launch} {e : Env} {R : Room} {s : State} {m : MethodId} {args : Array Value} {below : List Frame} {meth : Method} {c : Code} {Q : State → Prop} {cc : ByteArray} {nL : Nat} {own : String} {B : Nat} {ad : Nat → Nat} {D : va_G} {ca : Nat → ClassId} {sc : Nat × (Nat → Int32)} {d z0 y0 Z Y : Nat} (C : Cx p R s m args c cc nL own B ad D ca sc d z0 y0 Z Y) {E : En} {σ : St} {H : Heap} {locs : List Loc} {cells slots pc : Nat} {ls : Array Slot} {rest : List Value} (hH : HR B ad D ca E σ H) (hS : va_S (fun q => B ≤ q) s.heap H locs) {a : Nat} {i : Int32} (hK : eK E a = 23) (hin : vp_in i (eL E a)) (hdg : decode cc pc = .ok (.aaload, 1)) (kk : W p l e R s m args below meth c H locs cells slots Q (F0 m (pc + 1) ls (cv ad (orv (gR σ a i.toNatClampNeg)) :: rest))) : W p l e R s m args below meth c H locs cells slots Q (F0 m pc ls (.int i :: .ref (ad a) :: rest)) := by
  have hlt : i.toNatClampNeg < eL E a := Nat.not_le.mp fun q => hin (Or.inr q)
  obtain ⟨hx, hb, hml, hown, hts, hG, -⟩ := C
  have ha : ad a = B + a := hG.2.2.2.2.2.2.2.1 a (Nat.lt_of_lt_of_le (hH.lt hK) hH.2.1)
  rw [ha]
  exact W.aald (v := cv ad (orv (gR σ a i.toNatClampNeg))) hx hb ((hH.2.2.2 a).2.2.2.1 hK) ((hG.1.2 3 _ rfl).1 _ _) rfl (fun q => by cases q) (by rw [arrV_size]; exact hin) (by rw [arrV_read _ _ hlt]) rfl rfl hdg kk
set_option maxHeartbeats 1000000 in
theorem x_iast {p : Program} {l : Launch} {e : Env} {R : Room} {s : State} {m : MethodId} {args : Array Value} {below : List Frame} {meth : Method} {c : Code} {Q : State → Prop} {cc : ByteArray} {nL : Nat} {own : String} {B : Nat} {ad : Nat → Nat} {D : va_G} {ca : Nat → ClassId} {sc : Nat × (Nat → Int32)} {d z0 y0 Z Y : Nat} (C : Cx p R s m args c cc nL own B ad D ca sc d z0 y0 Z Y) {E : En} {σ : St} {H : Heap} {locs : List Loc} {cells slots pc : Nat} {ls : Array Slot} {rest : List Value} (hH : HR B ad D ca E σ H) (hS : va_S (fun q => B ≤ q) s.heap H locs) {a : Nat} {i : Int32} {v : Int32} (hK : eK E a = 20) (hin : vp_in i (eL E a)) (hdg : decode cc pc = .ok (.iastore, 1)) (kk : ∀ (H2 : Heap) (locs2 : List Loc), HR B ad D ca E (sI σ a i.toNatClampNeg v) H2 → va_S (fun q => B ≤ q) s.heap H2 locs2 → W p l e R s m args below meth c H2 locs2 cells slots Q (F0 m (pc + 1) ls rest)) : W p l e R s m args below meth c H locs cells slots Q (F0 m pc ls (.int v :: .int i :: .ref (ad a) :: rest)) := by
  obtain ⟨hx, hb, hml, hown, hts, hG, -⟩ := C
  have ha : ad a = B + a := hG.2.2.2.2.2.2.2.1 a (Nat.lt_of_lt_of_le (hH.lt hK) hH.2.1)
  rw [ha]
  refine W.iast hx hb ((hH.2.2.2 a).1 hK) ((hG.1.2 0 _ rfl).1 _ _) (fun q => by cases q) (by rw [arrV_size]; exact hin) rfl rfl hdg fun H2 e z oq => ?_
  exact kk H2 _ (hH.ast hK z oq e) (hS.put z oq (by omega))
set_option maxHeartbeats 1000000 in
theorem x_last {p : Program} {l : Launch} {e : Env} {R : Room} {s : State} {m : MethodId} {args : Array Value} {below : List Frame} {meth : Method} {c : Code} {Q : State → Prop} {cc : ByteArray} {nL : Nat} {own : String} {B : Nat} {ad : Nat → Nat} {D : va_G} {ca : Nat → ClassId} {sc : Nat × (Nat → Int32)} {d z0 y0 Z Y : Nat} (C : Cx p R s m args c cc nL own B ad D ca sc d z0 y0 Z Y) {E : En} {σ : St} {H : Heap} {locs : List Loc} {cells slots pc : Nat} {ls : Array Slot} {rest : List Value} (hH : HR B ad D ca E σ H) (hS : va_S (fun q => B ≤ q) s.heap H locs) {a : Nat} {i : Int32} {v : Int64} (hK : eK E a = 21) (hin : vp_in i (eL E a)) (hdg : decode cc pc = .ok (.lastore, 1)) (kk : ∀ (H2 : Heap) (locs2 : List Loc), HR B ad D ca E (sJ σ a i.toNatClampNeg v) H2 → va_S (fun q => B ≤ q) s.heap H2 locs2 → W p l e R s m args below meth c H2 locs2 cells slots Q (F0 m (pc + 1) ls rest)) : W p l e R s m args below meth c H locs cells slots Q (F0 m pc ls (.long v :: .int i :: .ref (ad a) :: rest)) := by
  obtain ⟨hx, hb, hml, hown, hts, hG, -⟩ := C
  have ha : ad a = B + a := hG.2.2.2.2.2.2.2.1 a (Nat.lt_of_lt_of_le (hH.lt hK) hH.2.1)
  rw [ha]
  refine W.last hx hb ((hH.2.2.2 a).2.1 hK) ((hG.1.2 1 _ rfl).1 _ _) (fun q => by cases q) (by rw [arrV_size]; exact hin) rfl rfl hdg fun H2 e z oq => ?_
  exact kk H2 _ (hH.lst hK z oq e) (hS.put z oq (by omega))
set_option maxHeartbeats 1000000 in
theorem x_zast {p : Program} {l : Launch} {e : Env} {R : Room} {s : State} {m : MethodId} {args : Array Value} {below : List Frame} {meth : Method} {c : Code} {Q : State → Prop} {cc : ByteArray} {nL : Nat} {own : String} {B : Nat} {ad : Nat → Nat} {D : va_G} {ca : Nat → ClassId} {sc : Nat × (Nat → Int32)} {d z0 y0 Z Y : Nat} (C : Cx p R s m args c cc nL own B ad D ca sc d z0 y0 Z Y) {E : En} {σ : St} {H : Heap} {locs : List Loc} {cells slots pc : Nat} {ls : Array Slot} {rest : List Value} (hH : HR B ad D ca E σ H) (hS : va_S (fun q => B ≤ q) s.heap H locs) {a : Nat} {i : Int32} {v : Int32} (hv : isb v) (hK : eK E a = 22) (hin : vp_in i (eL E a)) (hdg : decode cc pc = .ok (.bastore, 1)) (kk : ∀ (H2 : Heap) (locs2 : List Loc), HR B ad D ca E (sI σ a i.toNatClampNeg v) H2 → va_S (fun q => B ≤ q) s.heap H2 locs2 → W p l e R s m args below meth c H2 locs2 cells slots Q (F0 m (pc + 1) ls rest)) : W p l e R s m args below meth c H locs cells slots Q (F0 m pc ls (.int v :: .int i :: .ref (ad a) :: rest)) := by
  obtain ⟨hx, hb, hml, hown, hts, hG, -⟩ := C
  have ha : ad a = B + a := hG.2.2.2.2.2.2.2.1 a (Nat.lt_of_lt_of_le (hH.lt hK) hH.2.1)
  rw [ha]
  refine W.zast hx hb ((hH.2.2.2 a).2.2.1 hK) ((hG.1.2 2 _ rfl).1 _ _) (fun q => by cases q) (by rw [arrV_size]; exact hin) rfl rfl hdg fun H2 e z oq => ?_
  have hnv : narrow .boolean (.int v) = .int v := by rcases hv with rfl | rfl <;> rfl
  rw [hnv] at e
  exact kk H2 _ (hH.zst hK z oq e) (hS.put z oq (by omega))
set_option maxHeartbeats 1000000 in
theorem x_lenI {p : Program} {l : Launch} {e : Env} {R : Room} {s : State} {m : MethodId} {args : Array Value} {below : List Frame} {meth : Method} {c : Code} {Q : State → Prop} {cc : ByteArray} {nL : Nat} {own : String} {B : Nat} {ad : Nat → Nat} {D : va_G} {ca : Nat → ClassId} {sc : Nat × (Nat → Int32)} {d z0 y0 Z Y : Nat} (C : Cx p R s m args c cc nL own B ad D ca sc d z0 y0 Z Y) {E : En} {σ : St} {H : Heap} {locs : List Loc} {cells slots pc : Nat} {ls : Array Slot} {rest : List Value} (hH : HR B ad D ca E σ H) (hS : va_S (fun q => B ≤ q) s.heap H locs) {a : Nat} (hK : eK E a = 20) (hdg : decode cc pc = .ok (.arraylength, 1)) (kk : W p l e R s m args below meth c H locs cells slots Q (F0 m (pc + 1) ls (.int (Int32.ofNat (eL E a)) :: rest))) : W p l e R s m args below meth c H locs cells slots Q (F0 m pc ls (.ref (ad a) :: rest)) := by
  obtain ⟨hx, hb, hml, hown, hts, hG, -⟩ := C
  have ha : ad a = B + a := hG.2.2.2.2.2.2.2.1 a (Nat.lt_of_lt_of_le (hH.lt hK) hH.2.1)
  rw [ha]
  exact W.alen (n := Int32.ofNat (eL E a)) hx hb ((hH.2.2.2 a).1 hK) ((hG.1.2 0 _ rfl).1 _ _) (by rw [arrV_size] <;> rfl) rfl rfl hdg kk
set_option maxHeartbeats 1000000 in
theorem x_lenJ {p : Program} {l : Launch} {e : Env} {R : Room} {s : State} {m : MethodId} {args : Array Value} {below : List Frame} {meth : Method} {c : Code} {Q : State → Prop} {cc : ByteArray} {nL : Nat} {own : String} {B : Nat} {ad : Nat → Nat} {D : va_G} {ca : Nat → ClassId} {sc : Nat × (Nat → Int32)} {d z0 y0 Z Y : Nat} (C : Cx p R s m args c cc nL own B ad D ca sc d z0 y0 Z Y) {E : En} {σ : St} {H : Heap} {locs : List Loc} {cells slots pc : Nat} {ls : Array Slot} {rest : List Value} (hH : HR B ad D ca E σ H) (hS : va_S (fun q => B ≤ q) s.heap H locs) {a : Nat} (hK : eK E a = 21) (hdg : decode cc pc = .ok (.arraylength, 1)) (kk : W p l e R s m args below meth c H locs cells slots Q (F0 m (pc + 1) ls (.int (Int32.ofNat (eL E a)) :: rest))) : W p l e R s m args below meth c H locs cells slots Q (F0 m pc ls (.ref (ad a) :: rest)) := by
  obtain ⟨hx, hb, hml, hown, hts, hG, -⟩ := C
  have ha : ad a = B + a := hG.2.2.2.2.2.2.2.1 a (Nat.lt_of_lt_of_le (hH.lt hK) hH.2.1)
  rw [ha]
  exact W.alen (n := Int32.ofNat (eL E a)) hx hb ((hH.2.2.2 a).2.1 hK) ((hG.1.2 1 _ rfl).1 _ _) (by rw [arrV_size] <;> rfl) rfl rfl hdg kk
