/-! THE INSTRUCTIONS THAT TOUCH CELLS -/
theorem ft0 {t : FieldType} {f : Bool} (h : ftOf t f = 0) : t = .int := by cases t <;> cases f <;> first | rfl | cases h
theorem ft1 {t : FieldType} {f : Bool} (h : ftOf t f = 1) : t = .long := by cases t <;> cases f <;> first | rfl | cases h
theorem ft4 {t : FieldType} {f : Bool} (h : ftOf t f = 4) : t = .boolean := by cases t <;> cases f <;> first | rfl | cases h
theorem ft2 {t : FieldType} {f : Bool} (h : ftOf t f = 2) : f = false ∧ ((∃ n, t = .object n) ∨ ∃ u, t = .array u) := by
  cases t <;> cases f <;> first | exact ⟨rfl, Or.inl ⟨_, rfl⟩⟩ | exact ⟨rfl, Or.inr ⟨_, rfl⟩⟩ | cases h
theorem ft3 {t : FieldType} {f : Bool} (h : ftOf t f = 3) : f = true ∧ ((∃ n, t = .object n) ∨ ∃ u, t = .array u) := by
  cases t <;> cases f <;> first | exact ⟨rfl, Or.inl ⟨_, rfl⟩⟩ | exact ⟨rfl, Or.inr ⟨_, rfl⟩⟩ | cases h
theorem ftF0 {t : FieldType} {f : Bool} {c : Nat} (h : ftOf t f = c) (hc : c = 0 ∨ c = 1 ∨ c = 4) : (∃ n, t = .object n) ∨ (∃ u, t = .array u) → False := by
  rintro (⟨n, rfl⟩ | ⟨u, rfl⟩) <;> cases f <;> (simp [ftOf] at h; omega)
theorem nar_r {t : FieldType} (h : (∃ n, t = .object n) ∨ ∃ u, t = .array u) (a : Nat) : narrow t (.ref a) = .ref a ∧ fits t (.ref a) = true ∧ narrow t .null = .null ∧ fits t .null = true := by
  rcases h with ⟨n, rfl⟩ | ⟨u, rfl⟩ <;> exact ⟨rfl, rfl, rfl, rfl⟩
/-- one object's field is written -/
theorem HR.fld {B : Nat} {ad : Nat → Nat} {D : va_G} {ca : Nat → ClassId} {E E2 : En} {σ σ2 : St} {H H2 : Heap} {a ci k : Nat} {q : vw_C} {v : Value} (h : HR B ad D ca E σ H) (hq : vwCl[ci]? = some q) (hK : eK E a = ci + 1) (hs : H2.size = H.size) (ho : ∀ z, z ≠ B + a → H2[z]? = H[z]?)
    (ht : t_OB (B + a) (D.1 ci) q.2.2 (D.2 ci) H2 (updV (fun j => cv ad (fva E σ a (ftab ci j) j)) k v)) (e1 : eK E2 = eK E) (e2 : eL E2 = eL E) (e3 : eZ E2 = eZ E) (e4 : ∀ n, n ≠ a → eS E2 n = eS E n)
    (hσ : ∀ n, n ≠ a → gI σ2 n = gI σ n ∧ gJ σ2 n = gJ σ n ∧ gR σ2 n = gR σ n) (hv : cv ad (fva E2 σ2 a (ftab ci k) k) = v) (hj : ∀ j, j ≠ k → fva E2 σ2 a (ftab ci j) j = fva E σ a (ftab ci j) j) : HR B ad D ca E2 σ2 H2 := by
  have hci : ci < 11 := by
    have := (List.getElem?_eq_some_iff.mp hq).1
    simpa [vwCl] using this
  refine ⟨by rw [hs, e3]; exact h.1, by rw [e3]; exact h.2.1, by rw [e3, e1]; exact h.2.2.1, fun n => ?_⟩
  by_cases hn : n = a
  · subst hn
    refine ⟨fun z => ?_, fun z => ?_, fun z => ?_, fun z => ?_, fun ci2 q2 k1 k2 => ?_⟩
    · rw [e1, hK] at z; omega
    · rw [e1, hK] at z; omega
    · rw [e1, hK] at z; omega
    · rw [e1, hK] at z; omega
    · have hc : ci2 = ci := by rw [e1, hK] at k1; omega
      subst hc
      have hqq : q2 = q := Option.some.inj (k2.symm.trans hq)
      subst hqq
      refine ht.to fun j _ => ?_
      by_cases hjk : j = k
      · subst hjk; simp [updV, hv]
      · simp [updV, hjk, hj j hjk]
  · have hz : H2[B + n]? = H[B + n]? := ho _ (by omega)
    obtain ⟨g1, g2, g3⟩ := hσ n hn
    obtain ⟨c1, c2, c3, c4, c5⟩ := h.2.2.2 n
    refine ⟨fun w => ?_, fun w => ?_, fun w => ?_, fun w => ?_, fun ci2 q2 k1 k2 => ?_⟩
    · rw [hz, g1, e2]; exact c1 (by rw [← e1]; exact w)
    · rw [hz, g2, e2]; exact c2 (by rw [← e1]; exact w)
    · rw [hz, g1, e2]; exact c3 (by rw [← e1]; exact w)
    · rw [hz, g3, e2]; exact c4 (by rw [← e1]; exact w)
    · refine ((c5 ci2 q2 (by rw [← e1]; exact k1) k2).kept hz).to fun j _ => ?_
      unfold fva
      rw [g1, g2, g3, e4 n hn]
theorem fva_sI {E : En} {σ : St} {a k t j : Nat} {x : Int32} (h : j ≠ k) : fva E (sI σ a k x) a t j = fva E σ a t j := by
  unfold fva; simp only [gI_sI, gJ_sI, gR_sI, h, if_false, if_true]
theorem fva_sJ {E : En} {σ : St} {a k t j : Nat} {x : Int64} (h : j ≠ k) : fva E (sJ σ a k x) a t j = fva E σ a t j := by
  unfold fva; simp only [gI_sJ, gJ_sJ, gR_sJ, h, if_false, if_true]
theorem fva_sR {E : En} {σ : St} {a k t j : Nat} {x : Option Nat} (h : j ≠ k) : fva E (sR σ a k x) a t j = fva E σ a t j := by
  unfold fva; simp only [gI_sR, gJ_sR, gR_sR, h, if_false, if_true]
theorem eS_sS (E : En) (a k n j : Nat) (v : Option Nat) : eS (sS E a k v) n j = if n = a then (if j = k then v else eS E n j) else eS E n j := rfl
theorem fva_sS {E : En} {σ : St} {a k t j : Nat} {x : Option Nat} (h : j ≠ k) : fva (sS E a k x) σ a t j = fva E σ a t j := by
  unfold fva; simp only [eS_sS, h, if_false, if_true]
theorem sS_o {E : En} {a k : Nat} {x : Option Nat} (n : Nat) (h : n ≠ a) : eS (sS E a k x) n = eS E n := by funext j; simp [eS_sS, h]
def isH : Instr → Bool
  | .getfield _ => true
  | .putfield _ => true
  | .iaload => true
  | .laload => true
  | .baload => true
  | .aaload => true
  | .iastore => true
  | .lastore => true
  | .bastore => true
  | .arraylength => true
  | _ => false
set_option maxHeartbeats 8000000 in
set_option maxRecDepth 100000 in
theorem sem_ok2 {p : Program} {l : Launch} {e : Env} {R : Room} {s : State} {m : MethodId} {args : Array Value} {below : List Frame} {meth : Method} {c : Code} {Q : State → Prop} {cc : ByteArray} {nL : Nat} {own : String} {B : Nat} {ad : Nat → Nat} {D : va_G} {ca : Nat → ClassId} {sc : Nat × (Nat → Int32)} {d z0 y0 Z Y : Nat} {rty : Option FieldType} {MT : Nat → Option Mrow} {wl : List Cond} {ini : Bool} {cl : Ct} {rt : Rt} (C : Cx p R s m args c cc nL own B ad D ca sc d z0 y0 Z Y) (hwl : ∀ w ∈ wl, w ∈ gW) (hini : ini = true → meth.name = "<init>") {pc : Nat} {op : Instr} {n : Nat} {x : Xt} {lv : Lv} {st : List Value} {E : En} {σ : St} (hd : decode cc pc = .ok (op, n)) (hok : okx MT wl own ini (pc, op, n, x) = true) {k : Fr → Prop} (hk : ∀ f, k f → AWf p l e R s m args below meth c Q nL B ad D ca z0 y0 Z Y f)
    (h : runO cl rt E σ k (sem nL rty sc (pc, op, n, x) lv st E σ)) (hkind : isH op = true) : AWf p l e R s m args below meth c Q nL B ad D ca z0 y0 Z Y (pc, lv, st, E, σ) := by
  cases op with
  | getfield i => 
    simp only [okx, Bool.and_eq_true] at hok
    obtain ⟨q1, q2⟩ := hok
    obtain rfl := Nat.eq_of_beq_eq_true q1
    split at q2
    rotate_left
    · cases q2
    rename_i q hq
    simp only [Bool.and_eq_true, decide_eq_true_eq] at q2
    obtain ⟨⟨q3, q4⟩, q5⟩ := q2
    dsimp only [sem] at h
    split at h
    · rename_i a r
      cases hc : Nat.beq (eK E a) (xA x + 1) with
      | true =>
        rw [hc] at h
        have hK := Nat.eq_of_beq_eq_true hc
        exact aw1 (hk _ h) fun H locs ls _ _ hS _ hH w => x_get C hH hS hq hK q3 (hwl _ q5) q4 hd w
      | false => rw [hc] at h; exact h.elim
    · exact h.elim
  | putfield i => 
    simp only [okx, Bool.and_eq_true] at hok
    obtain ⟨q1, q2⟩ := hok
    obtain rfl := Nat.eq_of_beq_eq_true q1
    split at q2
    rotate_left
    · cases q2
    rename_i q hq
    simp only [Bool.and_eq_true, Bool.or_eq_true, decide_eq_true_eq] at q2
    obtain ⟨⟨⟨q3, q4⟩, q5⟩, q6⟩ := q2
    have hF := clsF _ _ hq (xB x)
    dsimp only [sem] at h
    split at h
    · rename_i v a r hft
      rw [hft] at hF
      cases hc : Nat.beq (eK E a) (xA x + 1) with
      | true =>
        rw [hc] at h
        have hK := Nat.eq_of_beq_eq_true hc
        have hnn : narrow (tyOf (xA x) (xB x)) (.int v) = (.int v) := by rw [ft0 hF.symm]; rfl
        have hfi : fits (tyOf (xA x) (xB x)) (.int v) = true := by rw [ft0 hF.symm]; rfl
        cases hff : (q.2.1 (xB x)).2.2.2 with
        | false => exact aw4 rfl rfl (hk _ h) fun H locs ls _ _ hS _ hH w => x_put C hH hS hq hK q3 (hwl _ q5) q4 hff hnn hfi hd fun H2 locs2 e1 e2 e3 e4 => w H2 locs2 (hH.fld hq hK e1 e2 e3 rfl rfl rfl (fun _ _ => rfl) (fun n hn => sI_o n hn) (by rw [hft]; simp [fva, gI_sI, cv]) (fun j hj => fva_sI hj)) e4
        | true =>
          rw [hff] at q6
          rcases q6 with q6 | q6
          · cases q6
          · exact aw4 rfl rfl (hk _ h) fun H locs ls _ _ hS _ hH w => x_putF C hH hS hq hK q3 (hwl _ q5) q4 hff (hini q6.1) q6.2 hnn hfi hd fun H2 locs2 e1 e2 e3 e4 => w H2 locs2 (hH.fld hq hK e1 e2 e3 rfl rfl rfl (fun _ _ => rfl) (fun n hn => sI_o n hn) (by rw [hft]; simp [fva, gI_sI, cv]) (fun j hj => fva_sI hj)) e4
      | false => rw [hc] at h; exact h.elim
    · rename_i v a r hft
      rw [hft] at hF
      cases hc : Nat.beq (eK E a) (xA x + 1) with
      | true =>
        rw [hc] at h
        have hK := Nat.eq_of_beq_eq_true hc
        have hnn : narrow (tyOf (xA x) (xB x)) (.long v) = (.long v) := by rw [ft1 hF.symm]; rfl
        have hfi : fits (tyOf (xA x) (xB x)) (.long v) = true := by rw [ft1 hF.symm]; rfl
        cases hff : (q.2.1 (xB x)).2.2.2 with
        | false => exact aw4 rfl rfl (hk _ h) fun H locs ls _ _ hS _ hH w => x_put C hH hS hq hK q3 (hwl _ q5) q4 hff hnn hfi hd fun H2 locs2 e1 e2 e3 e4 => w H2 locs2 (hH.fld hq hK e1 e2 e3 rfl rfl rfl (fun _ _ => rfl) (fun n hn => sJ_o n hn) (by rw [hft]; simp [fva, gJ_sJ, cv]) (fun j hj => fva_sJ hj)) e4
        | true =>
          rw [hff] at q6
          rcases q6 with q6 | q6
          · cases q6
          · exact aw4 rfl rfl (hk _ h) fun H locs ls _ _ hS _ hH w => x_putF C hH hS hq hK q3 (hwl _ q5) q4 hff (hini q6.1) q6.2 hnn hfi hd fun H2 locs2 e1 e2 e3 e4 => w H2 locs2 (hH.fld hq hK e1 e2 e3 rfl rfl rfl (fun _ _ => rfl) (fun n hn => sJ_o n hn) (by rw [hft]; simp [fva, gJ_sJ, cv]) (fun j hj => fva_sJ hj)) e4
      | false => rw [hc] at h; exact h.elim
    · rename_i v a r hft
      rw [hft] at hF
      cases hc : Nat.beq (eK E a) (xA x + 1) with
      | true =>
        rw [hc] at h
        have hK := Nat.eq_of_beq_eq_true hc
        have hnn : narrow (tyOf (xA x) (xB x)) (.ref (ad v)) = (.ref (ad v)) := (nar_r (ft2 hF.symm).2 (ad v)).1
        have hfi : fits (tyOf (xA x) (xB x)) (.ref (ad v)) = true := (nar_r (ft2 hF.symm).2 (ad v)).2.1
        have hff := (ft2 hF.symm).1
        exact aw4 rfl rfl (hk _ h) fun H locs ls _ _ hS _ hH w => x_put C hH hS hq hK q3 (hwl _ q5) q4 hff hnn hfi hd fun H2 locs2 e1 e2 e3 e4 => w H2 locs2 (hH.fld hq hK e1 e2 e3 rfl rfl rfl (fun _ _ => rfl) (fun n hn => sR_o n hn) (by rw [hft]; simp [fva, gR_sR, orv, cv]) (fun j hj => fva_sR hj)) e4
      | false => rw [hc] at h; exact h.elim
    · rename_i a r hft
      rw [hft] at hF
      cases hc : Nat.beq (eK E a) (xA x + 1) with
      | true =>
        rw [hc] at h
        have hK := Nat.eq_of_beq_eq_true hc
        have hnn : narrow (tyOf (xA x) (xB x)) .null = .null := (nar_r (ft2 hF.symm).2 (ad 0)).2.2.1
        have hfi : fits (tyOf (xA x) (xB x)) .null = true := (nar_r (ft2 hF.symm).2 (ad 0)).2.2.2
        have hff := (ft2 hF.symm).1
        exact aw4 rfl rfl (hk _ h) fun H locs ls _ _ hS _ hH w => x_put C hH hS hq hK q3 (hwl _ q5) q4 hff hnn hfi hd fun H2 locs2 e1 e2 e3 e4 => w H2 locs2 (hH.fld hq hK e1 e2 e3 rfl rfl rfl (fun _ _ => rfl) (fun n hn => sR_o n hn) (by rw [hft]; simp [fva, gR_sR, orv, cv]) (fun j hj => fva_sR hj)) e4
      | false => rw [hc] at h; exact h.elim
    · rename_i v a r hft
      rw [hft] at hF
      cases hc : Nat.beq (eK E a) (xA x + 1) with
      | true =>
        rw [hc] at h
        have hK := Nat.eq_of_beq_eq_true hc
        have hnn : narrow (tyOf (xA x) (xB x)) (.ref (ad v)) = (.ref (ad v)) := (nar_r (ft3 hF.symm).2 (ad v)).1
        have hfi : fits (tyOf (xA x) (xB x)) (.ref (ad v)) = true := (nar_r (ft3 hF.symm).2 (ad v)).2.1
        have hff := (ft3 hF.symm).1
        rw [hff] at q6
        rcases q6 with q6 | q6
        · cases q6
        · exact aw4 (E2 := sS E a (xB x) (some v)) rfl rfl (hk _ h) fun H locs ls _ _ hS _ hH w => x_putF C hH hS hq hK q3 (hwl _ q5) q4 hff (hini q6.1) q6.2 hnn hfi hd fun H2 locs2 e1 e2 e3 e4 => w H2 locs2 (hH.fld hq hK e1 e2 e3 rfl rfl rfl (fun n hn => sS_o n hn) (fun _ _ => ⟨rfl, rfl, rfl⟩) (by rw [hft]; simp [fva, eS_sS, orv, cv]) (fun j hj => fva_sS hj)) e4
      | false => rw [hc] at h; exact h.elim
    · rename_i v a r hft
      rw [hft] at hF
      cases hc : Nat.beq (eK E a) (xA x + 1) with
      | true =>
        rw [hc] at h
        have hK := Nat.eq_of_beq_eq_true hc
        have hnn : narrow (tyOf (xA x) (xB x)) (.int v) = .int v := by rw [ft4 hF.symm]; rcases h.1 with rfl | rfl <;> rfl
        have hfi : fits (tyOf (xA x) (xB x)) (.int v) = true := by rw [ft4 hF.symm]; rcases h.1 with rfl | rfl <;> rfl
        cases hff : (q.2.1 (xB x)).2.2.2 with
        | false => exact aw4 rfl rfl (hk _ h.2) fun H locs ls _ _ hS _ hH w => x_put C hH hS hq hK q3 (hwl _ q5) q4 hff hnn hfi hd fun H2 locs2 e1 e2 e3 e4 => w H2 locs2 (hH.fld hq hK e1 e2 e3 rfl rfl rfl (fun _ _ => rfl) (fun n hn => sI_o n hn) (by rw [hft]; simp [fva, gI_sI, cv]) (fun j hj => fva_sI hj)) e4
        | true =>
          rw [hff] at q6
          rcases q6 with q6 | q6
          · cases q6
          · exact aw4 rfl rfl (hk _ h.2) fun H locs ls _ _ hS _ hH w => x_putF C hH hS hq hK q3 (hwl _ q5) q4 hff (hini q6.1) q6.2 hnn hfi hd fun H2 locs2 e1 e2 e3 e4 => w H2 locs2 (hH.fld hq hK e1 e2 e3 rfl rfl rfl (fun _ _ => rfl) (fun n hn => sI_o n hn) (by rw [hft]; simp [fva, gI_sI, cv]) (fun j hj => fva_sI hj)) e4
      | false => rw [hc] at h; exact h.elim
    · exact h.elim
  | iaload => 
    obtain rfl := Nat.eq_of_beq_eq_true hok
    dsimp only [sem] at h
    split at h
    · rename_i i a r
      cases hc0 : Nat.beq a SN with
      | true =>
        rw [hc0] at h
        have ha := Nat.eq_of_beq_eq_true hc0
        subst ha
        exact aw1 (hk _ h.2) fun H locs ls _ _ hS _ hH w => va_sld C.1 C.2.1 C.2.2.2.2.2.1.2.2.2.2.2.1 (Nat.lt_of_lt_of_le C.2.2.2.2.2.1.2.2.2.2.2.2.1 C.2.2.2.2.2.2.2.2.2.2) (Nat.not_le.mpr C.2.2.2.2.2.1.2.2.2.2.2.2.1) hS h.1 hd w
      | false =>
        rw [hc0] at h
        cases hc : Nat.beq (eK E a) 20 with
        | true =>
          rw [hc] at h
          have hK := Nat.eq_of_beq_eq_true hc
          exact aw1 (hk _ h.2) fun H locs ls _ _ hS _ hH w => x_iald C hH hS hK h.1 hd w
        | false => rw [hc] at h; exact h.elim
    · exact h.elim
  | laload => 
    obtain rfl := Nat.eq_of_beq_eq_true hok
    dsimp only [sem] at h
    split at h
    · rename_i i a r
      cases hc0 : Nat.beq a TN with
      | true =>
        rw [hc0] at h
        have ha := Nat.eq_of_beq_eq_true hc0
        subst ha
        exact aw1 (hk _ h.2) fun H locs ls _ _ hS _ hH w => va_tl C.1 C.2.1 C.2.2.2.2.2.1.2.2.2.2.1 hS h.1 rfl hd w
      | false =>
        rw [hc0] at h
        cases hc : Nat.beq (eK E a) 21 with
        | true =>
          rw [hc] at h
          have hK := Nat.eq_of_beq_eq_true hc
          exact aw1 (hk _ h.2) fun H locs ls _ _ hS _ hH w => x_lald C hH hS hK h.1 hd w
        | false => rw [hc] at h; exact h.elim
    · exact h.elim
  | baload => 
    obtain rfl := Nat.eq_of_beq_eq_true hok
    dsimp only [sem] at h
    split at h
    · rename_i i a r
      cases hc : Nat.beq (eK E a) 22 with
      | true =>
        rw [hc] at h
        have hK := Nat.eq_of_beq_eq_true hc
        exact aw1 (hk _ h.2) fun H locs ls _ _ hS _ hH w => x_zald C hH hS hK h.1 hd w
      | false => rw [hc] at h; exact h.elim
    · exact h.elim
  | aaload => 
    obtain rfl := Nat.eq_of_beq_eq_true hok
    dsimp only [sem] at h
    split at h
    · rename_i i a r
      cases hc : Nat.beq (eK E a) 23 with
      | true =>
        rw [hc] at h
        have hK := Nat.eq_of_beq_eq_true hc
        exact aw1 (hk _ h.2) fun H locs ls _ _ hS _ hH w => x_aald C hH hS hK h.1 hd w
      | false => rw [hc] at h; exact h.elim
    · exact h.elim
  | iastore => 
    obtain rfl := Nat.eq_of_beq_eq_true hok
    dsimp only [sem] at h
    split at h
    · rename_i v i a r
      cases hc : Nat.beq (eK E a) 20 with
      | true =>
        rw [hc] at h
        have hK := Nat.eq_of_beq_eq_true hc
        exact aw4 rfl rfl (hk _ h.2) fun H locs ls _ _ hS _ hH w => x_iast C hH hS hK h.1 hd w
      | false => rw [hc] at h; exact h.elim
    · exact h.elim
  | lastore => 
    obtain rfl := Nat.eq_of_beq_eq_true hok
    dsimp only [sem] at h
    split at h
    · rename_i v i a r
      cases hc : Nat.beq (eK E a) 21 with
      | true =>
        rw [hc] at h
        have hK := Nat.eq_of_beq_eq_true hc
        exact aw4 rfl rfl (hk _ h.2) fun H locs ls _ _ hS _ hH w => x_last C hH hS hK h.1 hd w
      | false => rw [hc] at h; exact h.elim
    · exact h.elim
  | bastore => 
    obtain rfl := Nat.eq_of_beq_eq_true hok
    dsimp only [sem] at h
    split at h
    · rename_i v i a r
      cases hc : Nat.beq (eK E a) 22 with
      | true =>
        rw [hc] at h
        have hK := Nat.eq_of_beq_eq_true hc
        exact aw4 rfl rfl (hk _ h.2) fun H locs ls _ _ hS _ hH w => x_zast C hH hS h.1.2 hK h.1.1 hd w
      | false => rw [hc] at h; exact h.elim
    · exact h.elim
  | arraylength => 
    obtain rfl := Nat.eq_of_beq_eq_true hok
    dsimp only [sem] at h
    split at h
    · rename_i a r
      cases hc0 : Nat.beq a TN with
      | true =>
        rw [hc0] at h
        have ha := Nat.eq_of_beq_eq_true hc0
        subst ha
        exact aw1 (hk _ h) fun H locs ls _ _ hS _ hH w => va_tlen C.1 C.2.1 C.2.2.2.2.2.1.2.2.2.2.1 hS rfl hd w
      | false =>
        rw [hc0] at h
        cases hc1 : Nat.beq a SN with
        | true =>
          rw [hc1] at h
          have ha := Nat.eq_of_beq_eq_true hc1
          subst ha
          exact aw1 (hk _ h) fun H locs ls _ _ hS _ hH w => va_slen C.1 C.2.1 C.2.2.2.2.2.1.2.2.2.2.2.1 (Nat.lt_of_lt_of_le C.2.2.2.2.2.1.2.2.2.2.2.2.1 C.2.2.2.2.2.2.2.2.2.2) (Nat.not_le.mpr C.2.2.2.2.2.1.2.2.2.2.2.2.1) hS hd w
        | false =>
          rw [hc1] at h
          cases hc : (Nat.beq (eK E a) 20 || Nat.beq (eK E a) 21) with
          | true =>
            rw [hc] at h
            rcases Bool.or_eq_true_iff.mp hc with hc | hc
            · exact aw1 (hk _ h) fun H locs ls _ _ hS _ hH w => x_lenI C hH hS (Nat.eq_of_beq_eq_true hc) hd w
            · exact aw1 (hk _ h) fun H locs ls _ _ hS _ hH w => x_lenJ C hH hS (Nat.eq_of_beq_eq_true hc) hd w
          | false => rw [hc] at h; exact h.elim
    · exact h.elim
  | _ => cases hkind
