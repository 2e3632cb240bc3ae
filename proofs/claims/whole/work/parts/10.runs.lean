/-! THE SMALL MACHINE'S RUNS ARE THE REAL ONE'S -/
theorem pick_cv (ad : Nat → Nat) (lv : Lv) (ks : List Nat) : lv_pick (cvL ad lv) ks = cvL ad (lv_pick lv ks) := by
  unfold lv_pick cvL
  induction ks with
  | nil => rfl
  | cons k ks ih =>
    rw [List.filterMap_cons, List.filterMap_cons, List.getElem?_map]
    cases h : lv[k]? with
    | none => simpa using ih
    | some q => simpa using ih
theorem args_cv (ad : Nat → Nat) : ∀ (as : List Value) (i : Nat), lv_args i (as.map (cv ad)) = cvL ad (lv_args i as)
  | [], i => rfl
  | v :: vs, i => by
    simp only [List.map_cons, lv_args, cvL, List.map_cons, cv_cat]
    rw [args_cv ad vs]; rfl
theorem lgsl_cv (ad : Nat → Nat) : ∀ (as : List Value), (lg_sl (as.map (cv ad))).length = (lg_sl as).length
  | [] => rfl
  | v :: vs => by
    have h := lgsl_cv ad vs
    unfold lg_sl at h ⊢
    simp only [List.map_cons, List.flatMap_cons, List.length_append, cv_cat]
    rw [h]
    split <;> rfl
set_option maxHeartbeats 4000000 in
theorem sem_ok {p : Program} {l : Launch} {e : Env} {R : Room} {s : State} {m : MethodId} {args : Array Value} {below : List Frame} {meth : Method} {c : Code} {Q : State → Prop} {cc : ByteArray} {nL : Nat} {own : String} {B : Nat} {ad : Nat → Nat} {D : va_G} {ca : Nat → ClassId} {sc : Nat × (Nat → Int32)} {d z0 y0 Z Y : Nat} {rty : Option FieldType} {MT : Nat → Option Mrow} {wl : List Cond} {ini : Bool} {cl : Ct} {rt : Rt} (C : Cx p R s m args c cc nL own B ad D ca sc d z0 y0 Z Y) (hwl : ∀ w ∈ wl, w ∈ gW) (hMT : TabP MT) (hini : ini = true → meth.name = "<init>") (hcl : ∀ (mi : Nat) (as : List Value) (E : En) (σ : St) (r : Option Value) (E1 : En) (σ1 : St), cl mi as E σ r E1 σ1 → eZ E1 ≤ 1000000 → ConP l MT sc d mi as E σ r E1 σ1) (hrt : ∀ (v : Option Value) (E1 : En) (σ1 : St), rt v E1 σ1 → (eZ E1 ≤ Z ∧ eY E1 ≤ Y) ∧ ∀ (op : Instr) (pc : Nat) (H : Heap) (locs : List Loc) (ls : Array Slot), retOK rty op v → decode cc pc = .ok (op, 1) → z0 ≤ eZ E1 → y0 ≤ eY E1 → HR B ad D ca E1 σ1 H → va_S (fun q => B ≤ q) s.heap H locs → W p l e R s m args below meth c H locs (eZ E1 - z0) (eY E1 - y0) Q (F0 m pc ls (v.map (cv ad)).toList)) {pc : Nat} {op : Instr} {n : Nat} {x : Xt} {lv : Lv} {st : List Value} {E : En} {σ : St} (hd : decode cc pc = .ok (op, n)) (hok : okx MT wl own ini (pc, op, n, x) = true) {k : Fr → Prop} (hk : ∀ f, k f → AWf p l e R s m args below meth c Q nL B ad D ca z0 y0 Z Y f)
    (h : runO cl rt E σ k (sem nL rty sc (pc, op, n, x) lv st E σ)) : AWf p l e R s m args below meth c Q nL B ad D ca z0 y0 Z Y (pc, lv, st, E, σ) := by
  cases h1 : isS op with
  | true => exact sem_ok1 C hwl hd hok hk (Or.inr trivial) h h1
  | false =>
    cases h2 : isH op with
    | true => exact sem_ok2 C hwl hini hd hok hk h h2
    | false =>
      cases h3 : isC op with
      | true => exact sem_ok3 C hwl hMT hcl hrt hd hok hk h h3
      | false =>
        cases op <;> first | exact h.elim | exact (Bool.false_ne_true h1.symm).elim | exact (Bool.false_ne_true h2.symm).elim | exact (Bool.false_ne_true h3.symm).elim
theorem semN_ok {p : Program} {l : Launch} {e : Env} {R : Room} {s : State} {m : MethodId} {args : Array Value} {below : List Frame} {meth : Method} {c : Code} {Q : State → Prop} {cc : ByteArray} {nL : Nat} {own : String} {B : Nat} {ad : Nat → Nat} {D : va_G} {ca : Nat → ClassId} {sc : Nat × (Nat → Int32)} {d z0 y0 Z Y : Nat} {rty : Option FieldType} {MT : Nat → Option Mrow} {wl : List Cond} {ini : Bool} {cl : Ct} {rt : Rt} (C : Cx p R s m args c cc nL own B ad D ca sc d z0 y0 Z Y) (hwl : ∀ w ∈ wl, w ∈ gW) (hMT : TabP MT) (hini : ini = true → meth.name = "<init>") (hcl : ∀ (mi : Nat) (as : List Value) (E : En) (σ : St) (r : Option Value) (E1 : En) (σ1 : St), cl mi as E σ r E1 σ1 → eZ E1 ≤ 1000000 → ConP l MT sc d mi as E σ r E1 σ1) (hrt : ∀ (v : Option Value) (E1 : En) (σ1 : St), rt v E1 σ1 → (eZ E1 ≤ Z ∧ eY E1 ≤ Y) ∧ ∀ (op : Instr) (pc : Nat) (H : Heap) (locs : List Loc) (ls : Array Slot), retOK rty op v → decode cc pc = .ok (op, 1) → z0 ≤ eZ E1 → y0 ≤ eY E1 → HR B ad D ca E1 σ1 H → va_S (fun q => B ≤ q) s.heap H locs → W p l e R s m args below meth c H locs (eZ E1 - z0) (eY E1 - y0) Q (F0 m pc ls (v.map (cv ad)).toList)) : ∀ (ops : List Ent), (∀ e ∈ ops, decode cc e.1 = .ok (e.2.1, e.2.2.1) ∧ okx MT wl own ini e = true) → ∀ f, semN nL rty sc cl rt (AWf p l e R s m args below meth c Q nL B ad D ca z0 y0 Z Y) ops f → AWf p l e R s m args below meth c Q nL B ad D ca z0 y0 Z Y f
  | [], _, f, h => h
  | e :: r, hv, f, h => by
    unfold semN at h
    cases hb : Nat.beq f.1 e.1 with
    | false => rw [hb] at h; exact h.elim
    | true =>
      rw [hb] at h
      have he := Nat.eq_of_beq_eq_true hb
      obtain ⟨pc, lv, st, E, σ⟩ := f
      obtain ⟨pc2, op, n, x⟩ := e
      simp only at he
      subst he
      have hv0 := hv _ List.mem_cons_self
      exact sem_ok C hwl hMT hini hcl hrt hv0.1 hv0.2 (fun g hg => semN_ok C hwl hMT hini hcl hrt r (fun e2 h2 => hv e2 (List.mem_cons_of_mem _ h2)) g hg) h
theorem suf_mem : ∀ {l : List Ent} {pc : Nat} {ops : List Ent}, sufF l pc = some ops → ∀ e ∈ ops, e ∈ l
  | [], pc, ops, h => by cases h
  | q :: r, pc, ops, h => by
    unfold sufF at h
    cases hb : Nat.beq q.1 pc with
    | true => rw [hb] at h; cases h; exact fun e he => he
    | false => rw [hb] at h; exact fun e he => List.mem_cons_of_mem _ (suf_mem h e he)
theorem blk_mem : ∀ {bs : List (Nat × List Ent)} {pc : Nat} {ops : List Ent}, blkF bs pc = some ops → ∃ q ∈ bs, ∀ e ∈ ops, e ∈ q.2
  | [], pc, ops, h => by cases h
  | q :: r, pc, ops, h => by
    unfold blkF at h
    cases hs : sufF q.2 pc with
    | some o => rw [hs] at h; cases h; exact ⟨q, List.mem_cons_self, suf_mem hs⟩
    | none =>
      rw [hs] at h
      obtain ⟨q2, h1, h2⟩ := blk_mem h
      exact ⟨q2, List.mem_cons_of_mem _ h1, h2⟩
theorem step_ok {p : Program} {l : Launch} {e : Env} {R : Room} {s : State} {m : MethodId} {args : Array Value} {below : List Frame} {meth : Method} {c : Code} {Q : State → Prop} {cc : ByteArray} {nL : Nat} {own : String} {B : Nat} {ad : Nat → Nat} {D : va_G} {ca : Nat → ClassId} {sc : Nat × (Nat → Int32)} {d z0 y0 Z Y : Nat} {rty : Option FieldType} {MT : Nat → Option Mrow} {wl : List Cond} {cl : Ct} {rt : Rt} {w : Mrow} (hrow : rowOK MT wl w = true) (hcc : cc = w.2.1) (hnL : nL = w.2.2.1) (hrty : rty = w.2.2.2.1) (hwn : own = w.1.cls) (C : Cx p R s m args c cc nL own B ad D ca sc d z0 y0 Z Y) (hwl : ∀ w ∈ wl, w ∈ gW) (hMT : TabP MT) (hini : Nat.beq w.2.2.2.2.1 1 = true → meth.name = "<init>") (hcl : ∀ (mi : Nat) (as : List Value) (E : En) (σ : St) (r : Option Value) (E1 : En) (σ1 : St), cl mi as E σ r E1 σ1 → eZ E1 ≤ 1000000 → ConP l MT sc d mi as E σ r E1 σ1) (hrt : ∀ (v : Option Value) (E1 : En) (σ1 : St), rt v E1 σ1 → (eZ E1 ≤ Z ∧ eY E1 ≤ Y) ∧ ∀ (op : Instr) (pc : Nat) (H : Heap) (locs : List Loc) (ls : Array Slot), retOK rty op v → decode cc pc = .ok (op, 1) → z0 ≤ eZ E1 → y0 ≤ eY E1 → HR B ad D ca E1 σ1 H → va_S (fun q => B ≤ q) s.heap H locs → W p l e R s m args below meth c H locs (eZ E1 - z0) (eY E1 - y0) Q (F0 m pc ls (v.map (cv ad)).toList)) (f : Fr) (h : stepP w sc cl rt (AWf p l e R s m args below meth c Q nL B ad D ca z0 y0 Z Y) f) : AWf p l e R s m args below meth c Q nL B ad D ca z0 y0 Z Y f := by
  subst hcc; subst hnL; subst hrty; subst hwn
  obtain ⟨pc, lv, st, E, σ⟩ := f
  rcases h with ⟨ks, h⟩ | ⟨ops, mm, h1, h2⟩
  · exact ⟨h.1, fun H locs ls g1 g2 g3 g4 g5 => h.2 H locs ls g1 g2 g3 g4 (lv_sub g5 ks (pick_cv ad lv ks))⟩
  · simp only [rowOK, Bool.and_eq_true] at hrow
    obtain ⟨q, hq1, hq2⟩ := blk_mem h1
    have hb := List.all_eq_true.mp hrow.2 _ hq1
    refine semN_ok C hwl hMT hini hcl hrt (ops.take mm) (fun e he => ?_) _ h2
    have := List.all_eq_true.mp hb e (hq2 e (List.mem_of_mem_take he))
    simp only [Bool.and_eq_true, decide_eq_true_eq] at this
    exact this
set_option maxHeartbeats 4000000 in
/-- EVERY RUN OF THE SMALL MACHINE IS A CONTRACT OF THE REAL ONE -/
theorem cl_ok (l : Launch) (MT : Nat → Option Mrow) (pr : Ct) (sc : Nat × (Nat → Int32)) (hMT : TabP MT) (hpr : ∀ (d mi : Nat) (as : List Value) (E : En) (σ : St) (r : Option Value) (E1 : En) (σ1 : St), 8 ≤ d → pr mi as E σ r E1 σ1 → eZ E1 ≤ 1000000 → ConP l MT sc (d + 1) mi as E σ r E1 σ1) :
    ∀ (d mi : Nat) (as : List Value) (E : En) (σ : St) (r : Option Value) (E1 : En) (σ1 : St), Cl MT pr sc d mi as E σ r E1 σ1 → eZ E1 ≤ 1000000 → ConP l MT sc d mi as E σ r E1 σ1
  | 0, _, _, _, _, _, _, _, h, _ => h.elim
  | d + 1, mi, as, E, σ, r, E1, σ1, h, hm => by
    rcases h with h | ⟨w, hw, hsl, ⟨hz, hy⟩, hex⟩
    · exact hpr d mi as E σ r E1 σ1 h.1 h.2 hm
    · refine ⟨hz, hy, w, hw, fun B ad D ca => ?_⟩
      obtain ⟨wl, hwl, hrow⟩ := hMT mi w hw
      have hrow2 := hrow
      simp only [rowOK, Bool.and_eq_true] at hrow2
      refine va_MetF (cc := w.2.1) (maxL := w.2.2.1) (ret := w.2.2.2.1) hrow2.1.1.2 rfl ?_
      intro p e s m args below meth c s₁ BB hml hv
      obtain ⟨rfl, hH, hG⟩ := hv
      have hts : ∀ x ∈ gW, x.before (as.map (cv ad)).toArray s = true := fun x hx => atoms_spec (ws := Cond.code w.1 w.2.1 w.2.2.1 w.2.2.2.1 :: gW) BB.pre x (List.mem_cons_of_mem _ hx)
      have hown : s.vm.findClass w.1.cls = some m.cls := findClass_of_methodNamed BB.named
      have C : Cx p (rmD (d + 1) (eZ E1 - eZ E) (eY E1 - eY E)) s m (as.map (cv ad)).toArray c w.2.1 w.2.2.1 w.1.cls B ad D ca sc d (eZ E) (eY E) (eZ E1) (eY E1) :=
        ⟨BB.exec, BB.bytes, hml, hown, hts, hG, Nat.le_refl _, by show 64 * d + 64 ≤ 64 * (d + 1); omega, Nat.le_refl _, ⟨Nat.le_refl _, hm⟩, by rw [hH.1]; omega⟩
      have hlocks := BB.notSynchronized
      have hnm : meth.name = w.1.name := (name_of_methodNamed BB.named BB.method).1
      have hini : Nat.beq w.2.2.2.2.1 1 = true → meth.name = "<init>" := fun hb => by
        have := hrow2.1.2
        rw [hb] at this
        simpa [hnm] using this
      have key := hex (AWf p l e (rmD (d + 1) (eZ E1 - eZ E) (eY E1 - eY E)) s m (as.map (cv ad)).toArray below meth c (MQ below (cPost B ad D ca r E1 σ1) (as.map (cv ad)).toArray s (eZ E1 - eZ E) (eY E1 - eY E) (fun q => B ≤ q)) w.2.2.1 B ad D ca (eZ E) (eY E) (eZ E1) (eY E1))
        (fun g hg => step_ok (cl := Cl MT pr sc d) (rt := fun r2 E2 σ2 => r2 = r ∧ E2 = E1 ∧ σ2 = σ1) hrow rfl rfl rfl rfl C hwl hMT hini (fun mi as E σ r E1 σ1 hc hm => cl_ok l MT pr sc hMT hpr d mi as E σ r E1 σ1 hc hm) (fun v E2 σ2 hv => by
          obtain ⟨e1, e2, e3⟩ := hv
          have e1 := e1.symm
          have e2 := e2.symm
          have e3 := e3.symm
          subst e1; subst e2; subst e3
          refine ⟨⟨Nat.le_refl _, Nat.le_refl _⟩, fun op pc H locs ls hok hd h1 h2 hH1 hS => ?_⟩
          cases op with
          | ireturn =>
            obtain ⟨x, rfl, ho⟩ := hok
            rcases ho with ho | ⟨ho, hx⟩
            · exact W.iret BB.exec BB.bytes (BB.returns.trans ho) (fun t ht _ => ⟨rfl, by rw [ht]; exact hH1, hS.F ht⟩) hS.2.2 hd
            · exact W.zret BB.exec BB.bytes (BB.returns.trans ho) (by rcases hx with rfl | rfl <;> rfl) (fun t ht _ => ⟨rfl, by rw [ht]; exact hH1, hS.F ht⟩) hS.2.2 hd
          | lreturn =>
            obtain ⟨x, rfl, ho⟩ := hok
            exact W.lret BB.exec BB.bytes (BB.returns.trans ho) (fun t ht _ => ⟨rfl, by rw [ht]; exact hH1, hS.F ht⟩) hS.2.2 hd
          | areturn =>
            obtain ⟨ho, x, rfl⟩ := hok
            have hvv : cv ad (orv x) = .null ∨ ∃ a, cv ad (orv x) = .ref a := match x with
              | none => Or.inl rfl
              | some a => Or.inr ⟨_, rfl⟩
            rcases ho with ⟨nm, ho⟩ | ⟨nm, ho⟩
            · exact W.aret BB.exec BB.bytes (BB.returns.trans ho) (Or.inl ⟨_, rfl⟩) hvv (fun t ht _ => ⟨rfl, by rw [ht]; exact hH1, hS.F ht⟩) hS.2.2 hd
            · exact W.aret BB.exec BB.bytes (BB.returns.trans ho) (Or.inr ⟨_, rfl⟩) hvv (fun t ht _ => ⟨rfl, by rw [ht]; exact hH1, hS.F ht⟩) hS.2.2 hd
          | return_ =>
            obtain ⟨rfl, ho⟩ := hok
            exact W.vret BB.exec BB.bytes (BB.returns.trans ho) (fun t ht _ => ⟨rfl, by rw [ht]; exact hH1, hS.F ht⟩) hS.2.2 hd
          | _ => exact hok.elim) g hg)
      rw [lg_entry_eq]
      have hl := lv_entry (as.map (cv ad)) (n := w.2.2.1) (by rw [lgsl_cv]; exact Nat.le_of_ble_eq_true hsl)
      rw [args_cv] at hl
      have k2 := key.2 s.heap [] _ (Nat.le_refl _) (Nat.le_refl _) hH va_S.rf hl
      simp only [Nat.sub_self] at k2
      exact k2
