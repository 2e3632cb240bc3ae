/-! THE LAW'S RUN IN THE SMALL MACHINE IS ITS RUN -/
theorem law_semN {p : Program} {l : Launch} {e : Env} {R : Room} {s : State} {m : MethodId} {args : Array Value} {below : List Frame} {meth : Method} {c : Code} {Q : State → Prop} {B : Nat} {ad : Nat → Nat} {D : va_G} {ca : Nat → ClassId} {sc : Nat × (Nat → Int32)} {z0 y0 Z Y : Nat} {pr : Ct} {rt : Rt} (C : Cx p R s m args c code 7 "GoatAbacusLaw" B ad D ca sc 60 z0 y0 Z Y) (hMT : TabP MT)
    (hcl : ∀ (mi : Nat) (as : List Value) (E : En) (σ : St) (r : Option Value) (E1 : En) (σ1 : St), Cl MT pr sc 60 mi as E σ r E1 σ1 → eZ E1 ≤ 1000000 → ConP l MT sc 60 mi as E σ r E1 σ1)
    (hrt : ∀ (v : Option Value) (E1 : En) (σ1 : St), rt v E1 σ1 → (eZ E1 ≤ Z ∧ eY E1 ≤ Y) ∧ ∀ (op : Instr) (pc : Nat) (H : Heap) (locs : List Loc) (ls : Array Slot), retOK (some .boolean) op v → decode code pc = .ok (op, 1) → z0 ≤ eZ E1 → y0 ≤ eY E1 → HR B ad D ca E1 σ1 H → va_S (fun q => B ≤ q) s.heap H locs → W p l e R s m args below meth c H locs (eZ E1 - z0) (eY E1 - y0) Q (F0 m pc ls (v.map (cv ad)).toList)) :
    ∀ (ops : List Ent), (∀ e ∈ ops, lawE e) → ∀ f, semN 7 (some .boolean) sc (Cl MT pr sc 60) rt (AWf p l e R s m args below meth c Q 7 B ad D ca z0 y0 Z Y) ops f → AWf p l e R s m args below meth c Q 7 B ad D ca z0 y0 Z Y f
  | [], _, f, h => h
  | e :: r, hv, f, h => by
    unfold semN at h
    cases hb : Nat.beq f.1 e.1 with
    | false => rw [hb] at h; exact h.elim
    | true =>
      rw [hb] at h
      have he := Nat.eq_of_beq_eq_true hb
      obtain ⟨pc, lv, st, E, σ⟩ := f
      obtain ⟨pc2, op, n, x⟩ := e
      simp only at he
      subst he
      obtain ⟨hd, wl, hwl, hok⟩ := hv _ List.mem_cons_self
      exact sem_ok C hwl hMT (fun q => by cases q) hcl hrt hd hok (fun g hg => law_semN C hMT hcl hrt r (fun e2 h2 => hv e2 (List.mem_cons_of_mem _ h2)) g hg) h
/-- the law comes to its end, with true, if its run in the small machine does -/
theorem law_ok {p : Program} {e : Env} {s : State} {m : MethodId} {below : List Frame} {meth : Method} {c : Code} (l : Launch) {b L : Nat} {xs : Nat → Int32} {B : Nat} {ad : Nat → Nat} {D : va_G} {ca : Nat → ClassId} {pr : Ct} {KX : Nat → State → Heap → Prop} (hKX : KXto KX) (hL : L ≤ 3073) (C0 : lw_At p s m meth c b L xs) (hB : B = s.heap.size) (hb : ad SN = b) (hG : kG B ad D ca (L, xs) s s.heap) (hX : KX B s s.heap) (hMT : TabP MT)
    (hcl : ∀ (mi : Nat) (as : List Value) (E : En) (σ : St) (r : Option Value) (E1 : En) (σ1 : St), Cl MT pr (L, xs) 60 mi as E σ r E1 σ1 → eZ E1 ≤ 1000000 → ConP l MT (L, xs) 60 mi as E σ r E1 σ1)
    (hst : ∀ (a b c : Int32) (X X2 : En) (σ σ1 : St) (r1 : Int32), g_L_step a b c X σ = some (r1, X2, σ1) → eZ X2 ≤ 1000000 → ConS l KX (L, xs) [.ref 0, .int a, .int b, .int c, .ref 71] (mk X) σ (some (.int r1)) (mk X2) σ1)
    {σ0 : St} (hex : ExL pr (L, xs) (fun r E1 _ => r = some (.int 1) ∧ eZ E1 ≤ 601024 ∧ eY E1 ≤ 7293000) (0, [(0, .ref SN)], [], (fun _ => 0, fun _ => 0, fun _ _ => none, 0, 0), σ0)) :
    W p l e room_1 s m #[Value.ref b] below meth c s.heap [] 0 0 (lw_Z below #[Value.ref b] s) (entryFrame m ([Value.ref b] : List Value).toArray 7) := by
  obtain ⟨hx, hbc, hr, hml, hown, hts0, -, -, hlk, -⟩ := C0
  have hts : ∀ w ∈ gW, w.before #[Value.ref b] s = true := fun w hw => hts0 w (List.mem_filter.mp hw).1
  have C : Cx p room_1 s m #[Value.ref b] c code 7 "GoatAbacusLaw" B ad D ca (L, xs) 60 0 0 601024 7293000 :=
    ⟨hx, hbc, hml, hown, hts, hG, by decide, by decide, by decide, ⟨by decide, by decide⟩, by rw [hB]; exact Nat.le_refl _⟩
  have hrt : ∀ (v : Option Value) (E1 : En) (σ1 : St), (v = some (.int 1) ∧ eZ E1 ≤ 601024 ∧ eY E1 ≤ 7293000) → (eZ E1 ≤ 601024 ∧ eY E1 ≤ 7293000) ∧ ∀ (op : Instr) (pc : Nat) (H : Heap) (locs : List Loc) (ls : Array Slot), retOK (some .boolean) op v → decode code pc = .ok (op, 1) → 0 ≤ eZ E1 → 0 ≤ eY E1 → HR B ad D ca E1 σ1 H → va_S (fun q => B ≤ q) s.heap H locs → W p l e room_1 s m #[Value.ref b] below meth c H locs (eZ E1 - 0) (eY E1 - 0) (lw_Z below #[Value.ref b] s) (F0 m pc ls (v.map (cv ad)).toList) := by
    intro v E1 σ1 hv
    obtain ⟨rfl, h1, h2⟩ := hv
    refine ⟨⟨h1, h2⟩, fun op pc H locs ls hok hd _ _ hH hS => ?_⟩
    cases op with
    | ireturn =>
      refine W.widen (k := 601024) (n := 7293000) (by omega) (by omega) ?_
      exact va_forget (fun q hq => by have := hS.2.2 q hq; rw [hB] at this; exact this) (lw_ret hx hbc hr hlk hd)
    | lreturn => obtain ⟨y, hy, -⟩ := hok; cases hy
    | areturn => obtain ⟨-, y, hy⟩ := hok; cases y <;> cases hy
    | return_ => obtain ⟨hy, -⟩ := hok; cases hy
    | _ => exact hok.elim
  have key := hex (AWf p l e room_1 s m #[Value.ref b] below meth c (lw_Z below #[Value.ref b] s) 7 B ad D ca 0 0 601024 7293000)
    (fun g hg => by
      obtain ⟨pc, lv, st, E, σ⟩ := g
      rcases hg with ⟨ks, h⟩ | ⟨ops, mm, h1, h2⟩
      · exact ⟨h.1, fun H locs ls g1 g2 g3 g4 g5 => h.2 H locs ls g1 g2 g3 g4 (lv_sub g5 ks (pick_cv ad lv ks))⟩
      · obtain ⟨q, hq1, hq2⟩ := blk_mem h1
        exact law_semN C hMT hcl hrt (ops.take mm) (fun e he => law_E q hq1 e (hq2 e (List.mem_of_mem_take he))) _ h2)
    (fun lv st E σ r E1 σ1 h1 h2 h3 h4 => by
      obtain ⟨a, b2, c2, X, X2, r1, q1, q2, q3, q4, q5⟩ := h3
      subst q2; subst q4; subst q5
      exact law_step hKX C hX h1 h2 (fun hz => by rw [q1]; exact hst a b2 c2 X X2 σ σ1 r1 q3 hz) h4)
  have hl := lv_entry ([Value.ref b] : List Value) (n := 7) (by show 1 ≤ 7; omega)
  have hH : HR B ad D ca (fun _ => 0, fun _ => 0, fun _ _ => none, 0, 0) σ0 s.heap := by
    refine ⟨hB.symm, by decide, fun _ _ => rfl, fun n => ⟨fun h => ?_, fun h => ?_, fun h => ?_, fun h => ?_, fun ci q h => ?_⟩⟩
    · cases h
    · cases h
    · cases h
    · cases h
    · cases h
  rw [lg_entry_eq]
  have k2 := key.2 s.heap [] _ (Nat.le_refl _) (Nat.le_refl _) hH va_S.rf (by
    show lv_has _ 7 [(0, Value.ref (ad SN))]
    rw [hb]
    exact hl)
  exact k2
