/-! THE CLAIM OUT OF THE PURE FUNCTIONS -/
theorem runO_rt {cl : Ct} {rt rt' : Rt} {E : En} {σ : St} {k : Fr → Prop} (hr : ∀ v E σ, rt v E σ → rt' v E σ) (o : Option Ob) (h : runO cl rt E σ k o) : runO cl rt' E σ k o := by
  match o, h with
  | none, h => exact h
  | some (.inl f), h => exact h
  | some (.inr (.inl (g, f))), h => exact h
  | some (.inr (.inr (.inl (c, f, f')))), h => exact h
  | some (.inr (.inr (.inr (.inl (cs, f))))), h => exact h
  | some (.inr (.inr (.inr (.inr (.inl (mi, as, pc, lv, st)))))), h => exact h
  | some (.inr (.inr (.inr (.inr (.inr (g, v)))))), h => exact ⟨h.1, hr _ _ _ h.2⟩
theorem semN_rt {nL : Nat} {rty : Option FieldType} {sc : Nat × (Nat → Int32)} {cl : Ct} {rt rt' : Rt} {k : Fr → Prop} (hr : ∀ v E σ, rt v E σ → rt' v E σ) : ∀ (ops : List Ent) (f : Fr), semN nL rty sc cl rt k ops f → semN nL rty sc cl rt' k ops f
  | [], f, h => h
  | e :: r, f, h => by
    unfold semN at h ⊢
    cases hb : Nat.beq f.1 e.1 with
    | true => rw [hb] at h; exact runO_rt hr _ (runO_mono (fun g hg => semN_rt hr r g hg) _ h)
    | false => rw [hb] at h; exact h
theorem ExL.rt {pr : Ct} {sc : Nat × (Nat → Int32)} {rt rt' : Rt} (hr : ∀ v E σ, rt v E σ → rt' v E σ) {f : Fr} (h : ExL pr sc rt f) : ExL pr sc rt' f := fun P hP hT => h P (fun g hg => hP g (by
  rcases hg with ⟨ks, hg⟩ | ⟨ops, m, h1, h2⟩
  · exact Or.inl ⟨ks, hg⟩
  · exact Or.inr ⟨ops, m, h1, semN_rt hr _ _ h2⟩)) hT
/-- nothing is there yet -/
def E00 : En := (fun _ => 0, fun _ => 0, fun _ _ => none, 0, 0)
def σ00 : St := (fun _ _ => 0, fun _ _ => 0, fun _ _ => none)
/-- WHAT THE PURE FUNCTIONS OWE: the law's own function comes to 1, within the room -/
def PureLaw (sc : Nat × (Nat → Int32)) : Prop := ∃ (X1 X2 : En) (σ1 σ2 : St), e_L_pre_z sc E00 σ00 = some (0, 38, 71, mk X1, σ1) ∧ g_L_33 sc FU 1 X1 σ1 = some (1, X2, σ2) ∧ eZ X2 ≤ 601024 ∧ eY X2 ≤ 7293000
theorem law_ex {sc : Nat × (Nat → Int32)} (hsc : sc.1 ≤ 3073) (h : PureLaw sc) : ExL prI sc (fun r E1 _ => r = some (.int 1) ∧ eZ E1 ≤ 601024 ∧ eY E1 ≤ 7293000) (0, [(0, .ref SN)], [], E00, σ00) := by
  obtain ⟨X1, X2, σ1, σ2, h1, h2, h3, h4⟩ := h
  have k := lg_L_33 (pr := prI) sc hsc prI_cl FU 1 X1 σ1 h2
  refine le_L_pre_z (pr := prI) sc hsc prI_cl E00 σ00 h1 ?_
  refine ExL.pick (lv' := [(0, .ref SN), (1, .ref 0), (2, .ref 38), (3, .ref 71), (4, .int 1)]) [4, 3, 2, 1, 0] rfl ?_
  exact k.rt (fun v E σ q => by obtain ⟨q1, q2, q3⟩ := q; subst q2; exact ⟨q1, h3, h4⟩)
theorem whole_start {p : Program} {e : Env} {s : State} {m : MethodId} {below : List Frame} {meth : Method} {c : Code} (l : Launch) (hl : l.stackTraces = false) (hpure : ∀ sc : Nat × (Nat → Int32), sc.1 ≤ 3073 → PureLaw sc) {b L : Nat} {xs : Nat → Int32} (hL : L ≤ 3073) (C0 : lw_At p s m meth c b L xs) : W p l e room_1 s m #[Value.ref b] below meth c s.heap [] 0 0 (lw_Z below #[Value.ref b] s) (entryFrame m ([Value.ref b] : List Value).toArray 7) := by
  obtain ⟨ad, D, ca, hb, hG⟩ := kG_at C0
  have hX := kX_at C0
  exact law_ok (pr := prI) (KX := kX) l kX_to hL C0 rfl hb hG hX MT_ok (fun mi as E σ r E1 σ1 h hz => cl_ok l MT prI (L, xs) MT_ok (prI_ok l (L, xs)) 60 mi as E σ r E1 σ1 h hz)
    (fun a b c X X2 σ σ1 r1 h hz => con_Lstep hl MT_ok (prI_ok l (L, xs)) h hz) (law_ex hL (hpure (L, xs) hL))
