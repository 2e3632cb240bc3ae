/-! THE CONTRACT OF THE LAW'S step -/
theorem dLs_7 : decode cL_step 7 = .ok (.invokevirtual 7, 3) := by decide +kernel
theorem dLs_15 : decode cL_step 15 = .ok (.astore 5, 2) := by decide +kernel
theorem dLs_17 : decode cL_step 17 = .ok (.iconst 1, 1) := by decide +kernel
theorem dLs_18 : decode cL_step 18 = .ok (.ireturn, 1) := by decide +kernel
theorem wLs_c : Cond.code yX9_step cX9_step 5 (some .int) ∈ gW := wg_X9_step _ (by decide +kernel)
theorem wLs_m : Cond.methodLink "GoatAbacusLaw" 7 yX9_step ∈ gW := List.mem_filter.mpr ⟨List.mem_of_getElem? (i := 1151) (by decide +kernel), by decide +kernel⟩
theorem wLs_i : Cond.instanceMethod yX9_step ∈ gW := List.mem_filter.mpr ⟨List.mem_of_getElem? (i := 1152) (by decide +kernel), by decide +kernel⟩
theorem wLs_s : Cond.selects "GoatAbacus" yX9_step yX9_step ∈ gW := List.mem_filter.mpr ⟨List.mem_of_getElem? (i := 1153) (by decide +kernel), by decide +kernel⟩
theorem wLs_n : Cond.initialized "GoatAbacus" ∈ gW := List.mem_filter.mpr ⟨List.mem_of_getElem? (i := 79) (by decide +kernel), by decide +kernel⟩
set_option maxHeartbeats 4000000 in
theorem con_Lstep {l : Launch} (hl : l.stackTraces = false) {pr : Ct} {sc : Nat × (Nat → Int32)} (hMT : TabP MT) (hpr : ∀ (d mi : Nat) (as : List Value) (E : En) (σ : St) (r : Option Value) (E1 : En) (σ1 : St), 8 ≤ d → pr mi as E σ r E1 σ1 → eZ E1 ≤ 1000000 → ConP l MT sc (d + 1) mi as E σ r E1 σ1)
    {a b c : Int32} {X X2 : En} {σ σ1 : St} {r1 : Int32} (h : g_L_step a b c X σ = some (r1, X2, σ1)) (hz : eZ X2 ≤ 1000000) : ConS l kX sc [.ref 0, .int a, .int b, .int c, .ref 71] (mk X) σ (some (.int r1)) (mk X2) σ1 := by
  unfold g_L_step at h
  obtain ⟨⟨r, X', σ'⟩, hs, h⟩ := bind_sp h
  obtain ⟨e1, e2⟩ := step_same hs
  subst e1; subst e2
  obtain ⟨mc, ms, hm, hZ, hY⟩ : ∃ mc ms : Nat, ((r = none ∧ mc = 1 ∧ ms = 6) ∨ ((∃ x, r = some x) ∧ mc = 0 ∧ ms = 0)) ∧ eZ X2 = eZ X' + mc ∧ eY X2 = eY X' + ms := by
    cases r with
    | none => cases h; exact ⟨1, 6, Or.inl ⟨rfl, rfl, rfl⟩, rfl, rfl⟩
    | some v => cases h; exact ⟨0, 0, Or.inr ⟨⟨v, rfl⟩, rfl, rfl⟩, rfl, rfl⟩
  refine ⟨by show eZ X' ≤ eZ X2; omega, by show eY X' ≤ eY X2; omega, fun B ad D ca => ?_⟩
  have hmc : eZ (mk X2) - eZ (mk X') = mc := by show eZ X2 - eZ X' = mc; omega
  have hms : eY (mk X2) - eY (mk X') = ms := by show eY X2 - eY X' = ms; omega
  rw [hmc, hms]
  refine va_MetW (cc := cL_step) (maxL := 6) (ret := some .int) (hh := [(0, 12, 15, 13)]) (by decide) rfl ?_
  intro p e s m args below meth c' s₁ BB hml hv
  obtain ⟨rfl, ⟨hH, hG⟩, hK⟩ := hv
  have hts : ∀ x ∈ gW, x.before ([Value.ref 0, .int a, .int b, .int c, .ref 71].map (cv ad)).toArray s = true := fun x hx => atoms_spec (ws := wStep :: gW) BB.pre x (List.mem_cons_of_mem _ hx)
  have hown : s.vm.findClass "GoatAbacusLaw" = some m.cls := findClass_of_methodNamed BB.named
  have htab := vx_table (x := yL_step) BB (atoms_spec (ws := wStep :: gW) BB.pre wStep List.mem_cons_self)
  have hsz : s.heap.size = B + eZ X' := hH.1
  have hlocks := BB.notSynchronized
  have C : Cx p (rmD 60 mc ms) s m ([Value.ref 0, .int a, .int b, .int c, .ref 71].map (cv ad)).toArray c' cL_step 6 "GoatAbacusLaw" B ad D ca sc 59 (eZ X') (eY X') (eZ X' + mc) (eY X' + ms) :=
    ⟨BB.exec, BB.bytes, hml, hown, hts, hG, by show 59 + 1 ≤ 60; omega, by show 64 * 59 + 64 ≤ 64 * 60; omega, by show eZ X' + mc - eZ X' ≤ mc; omega, ⟨by show eY X' + ms - eY X' ≤ ms; omega, by omega⟩, by omega⟩
  have hrt : ∀ (v : Option Value) (E1 : En) (σ2 : St), (v = some (.int r1) ∧ E1 = mk X2 ∧ σ2 = σ1) → (eZ E1 ≤ eZ X' + mc ∧ eY E1 ≤ eY X' + ms) ∧ ∀ (op : Instr) (pc : Nat) (H : Heap) (locs : List Loc) (ls : Array Slot), retOK (some .int) op v → decode cL_step pc = .ok (op, 1) → eZ X' ≤ eZ E1 → eY X' ≤ eY E1 → HR B ad D ca E1 σ2 H → va_S (fun q => B ≤ q) s.heap H locs → W p l e (rmD 60 mc ms) s m ([Value.ref 0, .int a, .int b, .int c, .ref 71].map (cv ad)).toArray below meth c' H locs (eZ E1 - eZ X') (eY E1 - eY X') (MQ below (cPost B ad D ca (some (.int r1)) (mk X2) σ1) ([Value.ref 0, .int a, .int b, .int c, .ref 71].map (cv ad)).toArray s mc ms (fun q => B ≤ q)) (F0 m pc ls (v.map (cv ad)).toList) := by
    intro v E1 σ2 hv
    obtain ⟨q1, q2, q3⟩ := hv
    subst q1; subst q2; subst q3
    refine ⟨⟨by show eZ X2 ≤ _; omega, by show eY X2 ≤ _; omega⟩, fun op pc H locs ls hok hd h1 h2 hH1 hS => ?_⟩
    cases op with
    | ireturn =>
      exact W.widen (k := mc) (n := ms) (by show eZ X2 - eZ X' ≤ mc; omega) (by show eY X2 - eY X' ≤ ms; omega) (W.iret BB.exec BB.bytes BB.returns (fun t ht _ => ⟨rfl, by rw [ht]; exact hH1, hS.F ht⟩) hS.2.2 hd)
    | lreturn => obtain ⟨y, hy, -⟩ := hok; cases hy
    | areturn => obtain ⟨-, y, hy⟩ := hok; cases y <;> cases hy
    | return_ => obtain ⟨hy, -⟩ := hok; cases hy
    | _ => exact hok.elim
  have hcl : ∀ (mi : Nat) (as : List Value) (E : En) (σ : St) (r : Option Value) (E1 : En) (σ1 : St), Cl MT pr sc 59 mi as E σ r E1 σ1 → eZ E1 ≤ 1000000 → ConP l MT sc 59 mi as E σ r E1 σ1 := fun mi as E σ r E1 σ1 hc hm => cl_ok l MT pr sc hMT hpr 59 mi as E σ r E1 σ1 hc hm
  have blk : ∀ (q : Nat × List Ent), q ∈ mr_L_step.2.2.2.2.2 → ∀ f, semN 6 (some .int) sc (Cl MT pr sc 59) (fun v E1 σ2 => v = some (.int r1) ∧ E1 = mk X2 ∧ σ2 = σ1) (AWf p l e (rmD 60 mc ms) s m ([Value.ref 0, .int a, .int b, .int c, .ref 71].map (cv ad)).toArray below meth c' (MQ below (cPost B ad D ca (some (.int r1)) (mk X2) σ1) ([Value.ref 0, .int a, .int b, .int c, .ref 71].map (cv ad)).toArray s mc ms (fun q => B ≤ q)) 6 B ad D ca (eZ X') (eY X') (eZ X' + mc) (eY X' + ms)) q.2 f → AWf p l e (rmD 60 mc ms) s m ([Value.ref 0, .int a, .int b, .int c, .ref 71].map (cv ad)).toArray below meth c' (MQ below (cPost B ad D ca (some (.int r1)) (mk X2) σ1) ([Value.ref 0, .int a, .int b, .int c, .ref 71].map (cv ad)).toArray s mc ms (fun q => B ≤ q)) 6 B ad D ca (eZ X') (eY X') (eZ X' + mc) (eY X' + ms) f := by
    intro q hq f hf
    refine semN_ok (ini := false) C wg_L_step hMT (fun q => by cases q) hcl hrt q.2 (fun e he => ?_) f hf
    have := List.all_eq_true.mp (List.all_eq_true.mp ok_L_step q hq) e he
    simp only [Bool.and_eq_true, decide_eq_true_eq] at this
    exact this
  have key : AWf p l e (rmD 60 mc ms) s m ([Value.ref 0, .int a, .int b, .int c, .ref 71].map (cv ad)).toArray below meth c' (MQ below (cPost B ad D ca (some (.int r1)) (mk X2) σ1) ([Value.ref 0, .int a, .int b, .int c, .ref 71].map (cv ad)).toArray s mc ms (fun q => B ≤ q)) 6 B ad D ca (eZ X') (eY X') (eZ X' + mc) (eY X' + ms) (0, [(0, .ref 0), (1, .int a), (2, .int b), (3, .int c), (4, .ref 71)], [], mk X', σ') := by
    refine blk _ (List.mem_of_getElem? (i := 0) rfl) _ ?_
    show AWf p l e (rmD 60 mc ms) s m ([Value.ref 0, .int a, .int b, .int c, .ref 71].map (cv ad)).toArray below meth c' (MQ below (cPost B ad D ca (some (.int r1)) (mk X2) σ1) ([Value.ref 0, .int a, .int b, .int c, .ref 71].map (cv ad)).toArray s mc ms (fun q => B ≤ q)) 6 B ad D ca (eZ X') (eY X') (eZ X' + mc) (eY X' + ms) (7, [(0, .ref 0), (1, .int a), (2, .int b), (3, .int c), (4, .ref 71)], [.int c, .int b, .int a, .ref 0, .int 0, .ref 71], mk X', σ')
    refine ⟨⟨by show eZ X' ≤ eZ X' + mc; omega, by show eY X' ≤ eY X' + ms; omega⟩, fun H locs ls h1 h2 h3 h4 h5 => ?_⟩
    have ha : ad 0 = B + 0 := hG.2.2.2.2.2.2.2.1 0 (by omega)
    have hrun := vx_runV (C := "GoatAbacus") (b := ad 0) (As := [.int a, .int b, .int c]) (rest := [.int 0, .ref (ad 71)]) (H := H) (locs := locs) (cells := eZ (mk X') - eZ X') (slots := eY (mk X') - eY X') (below := below) (l := l) (e := e) (meth := meth) (R := rmD 60 mc ms) (g := F0 m 7 ls [.int c, .int b, .int a, .ref (ad 0), .int 0, .ref (ad 71)]) ⟨BB.exec, BB.bytes, hml, hown, hts⟩ (con_step hl hMT hpr hs hm (by omega) B ad D ca) ⟨callB_of 3 hts (gW_in wLs_c) rfl rfl rfl (hts _ wLs_n) (hts _ wLs_m) (by decide +kernel) ⟨by show 40 + 1 ≤ 60; omega, by show 8 + (5 + 11) + 64 * 40 ≤ 64 * 60; omega⟩, hts _ wLs_i, hts _ wLs_s⟩
      ⟨cPreS_blind kX_to, (by obtain ⟨cell, z1, z2, z3, -⟩ := (h3.2.2.2 0).2.2.2.2 9 _ rfl rfl; exact ⟨cell, by rw [ha]; exact z1, by rw [z3]; rfl, by rw [z2]; exact (hG.1.1 9 _ rfl).2.1⟩), fun U hU hWm => ⟨rfl, ⟨by rw [hU]; exact h3, hG.to hWm (by rw [hU]; exact h4.2.1)⟩, kX_to B s U s.heap U.heap hK hWm (by rw [hU]; exact h4.2.1)⟩⟩ rfl rfl h5.1 rfl (lv_room (by show 1 + (1 + 0) ≤ 8; omega)) dLs_7 ⟨by show eZ X' - eZ X' + mc ≤ mc; omega, by show eY X' - eY X' + ms ≤ ms; omega⟩
    intro T hT Xs
    rcases hrun T hT Xs with ⟨v, st₀, t, T2, Lk, h0, Xs2, hLk, e1, e2, ⟨x, hr, hv, hp, hF⟩, st⟩ | ⟨q, st₀, t, T2, Lk, Ex, ce, h0, Xs2, hLk, e1, e2, ⟨hr, hE, hp, hF⟩, hce, hcv, hcl2, st⟩
    · cases hv
      subst hr
      cases h
      have hm0 : mc = 0 ∧ ms = 0 := by
        rcases hm with ⟨q, -⟩ | ⟨-, q⟩
        · cases q
        · exact q
      obtain ⟨rfl, rfl⟩ := hm0
      have k1 := blk _ (List.mem_of_getElem? (i := 1) rfl) (10, [(0, .ref 0), (1, .int a), (2, .int b), (3, .int c), (4, .ref 71)], [.int x, .int 0, .ref 71], mk X', σ') (by
        refine And.intro (inb_ok (i := 0) (n := 1) (by decide)) ?_
        exact blk _ (List.mem_of_getElem? (i := 3) rfl) (19, [(0, .ref 0), (1, .int a), (2, .int b), (3, .int c), (4, .ref 71)], [], mk X', sJ σ' 71 0 x.toInt64) (And.intro trivial ⟨rfl, rfl, rfl⟩))
      obtain ⟨hz2, hkq⟩ := hF
      rw [h0] at hz2 hkq
      have k2 := k1.2 T2.heap (locs ++ Lk) ls (Nat.le_refl _) (Nat.le_refl _) (by rw [e1]; exact hp) ⟨Nat.le_trans h4.1 (by rw [e1]; exact hz2), fun q h1 h2 => by rw [e1, hkq q (Nat.lt_of_lt_of_le h1 h4.1) h2]; exact h4.2.1 q h1 h2, fun q hq => by
        rcases List.mem_append.mp hq with hh | hh
        · exact h4.2.2 q hh
        · exact hLk q hh⟩ h5
      obtain ⟨t2, a1, b1⟩ := k2 T2 rfl Xs2
      exact ⟨t2, st t2 a1, b1⟩
    · subst hr
      cases h
      subst hE
      have hm0 : mc = 1 ∧ ms = 6 := by
        rcases hm with ⟨-, q⟩ | ⟨⟨x, q⟩, -⟩
        · exact q
        · cases q
      obtain ⟨rfl, rfl⟩ := hm0
      obtain ⟨hz2, hkq⟩ := hF
      rw [h0] at hz2 hkq
      have hS2 : va_S (fun q => B ≤ q) s.heap T2.heap (locs ++ Lk) := ⟨Nat.le_trans h4.1 (by rw [e1]; exact hz2), fun q h1 h2 => by rw [e1, hkq q (Nat.lt_of_lt_of_le h1 h4.1) h2]; exact h4.2.1 q h1 h2, fun q hq => by
        rcases List.mem_append.mp hq with hh | hh
        · exact h4.2.2 q hh
        · exact hLk q hh⟩
      have kk : W p l e (rmD 60 1 6) s m ([Value.ref 0, .int a, .int b, .int c, .ref 71].map (cv ad)).toArray below meth c' T2.heap (locs ++ Lk) (eZ (mk X') - eZ X' + 1) (eY (mk X') - eY X' + 6) (MQ below (cPost B ad D ca (some (.int 1)) (mk (jk X' 1 6)) σ') ([Value.ref 0, .int a, .int b, .int c, .ref 71].map (cv ad)).toArray s 1 6 (fun q => B ≤ q)) (F0 m 15 ls [.ref q]) := by
        refine lv_astore BB.exec BB.bytes dLs_15 h5 (by omega) rfl (fun ls' hl' => ?_)
        refine lv_iconst BB.exec BB.bytes dLs_17 (v := 1) rfl ?_
        exact W.widen (k := 1) (n := 6) (by show eZ X' - eZ X' + 1 ≤ 1; omega) (by show eY X' - eY X' + 6 ≤ 6; omega) (W.iret BB.exec BB.bytes BB.returns (fun t ht _ => ⟨rfl, by rw [ht, e1]; exact hp, hS2.F ht⟩) hS2.2.2 dLs_18)
      have hcat := vx_catch (own := "GoatAbacusLaw") (name := NSE) (E := NSE) (ce := ce) (q := q) (pc := 7) (ls := ls) (rest := [.int 0, .ref (ad 71)]) hown [] ⟨0, 12, 15, 13⟩ [] htab (fun z hz => nomatch hz) (by decide) (by decide) (hts _ wT_l) (va_Nw.use rfl hK.2.2.2.2.1) (by rw [e1]; exact hce) hcv hcl2 kk
      obtain ⟨t2, a1, b1⟩ := hcat T2 rfl Xs2
      exact ⟨t2, st.trans a1, b1⟩
  rw [lg_entry_eq]
  have hl2 := lv_entry ([Value.ref 0, .int a, .int b, .int c, .ref 71].map (cv ad)) (n := 6) (by rw [lgsl_cv]; show 5 ≤ 6; omega)
  rw [args_cv] at hl2
  have k2 := key.2 s.heap [] _ (Nat.le_refl _) (Nat.le_refl _) hH va_S.rf hl2
  have q1 : eZ (mk X') - eZ X' = 0 := by show eZ X' - eZ X' = 0; omega
  have q2 : eY (mk X') - eY X' = 0 := by show eY X' - eY X' = 0; omega
  simp only [q1, q2] at k2
  exact k2
