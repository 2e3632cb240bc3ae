/-! WHAT AN ENTRY MUST SAY TRULY (checked by the kernel, method by method) -/
def okT (pc : Nat) (off : Int) (t : Nat) : Bool := decide ((pc : Int) + off = (t : Int))
def okM (wl : List Cond) (own : String) (idx : Nat) (y : MethodName) : Bool := decide (Cond.methodLink own idx y ∈ wl) || decide ((own, idx, y) ∈ nestM)
def okY (y : MethodName) (n : Nat) : Bool := decide (y.cls ≠ "java/lang/invoke/MethodHandle") && decide (y.cls ≠ "java/lang/invoke/VarHandle") && decide ((parseMethodDescriptor y.desc).map (fun d => d.parameters.length) = some n)
def okx (MT : Nat → Option Mrow) (wl : List Cond) (own : String) (ini : Bool) (e : Ent) : Bool :=
  let pc := e.1
  let n := e.2.2.1
  let x := e.2.2.2
  match e.2.1 with
  | .aconst_null => Nat.beq n 1
  | .iconst i => Nat.beq n 1 && decide (Int32.ofInt i = xV x)
  | .bipush i => Nat.beq n 2 && decide ((Int8.ofInt i).toInt32 = xV x)
  | .sipush i => Nat.beq n 3 && decide ((Int16.ofInt i).toInt32 = xV x)
  | .lconst i => Nat.beq n 1 && decide (Int64.ofNat (i : Nat) = xW x)
  | .ldc i => Nat.beq n 2 && ((Nat.beq (xA x) 0 && decide (Cond.constant own i (xV x) ∈ wl)) || (Nat.beq (xA x) 1 && decide (own = "GoatAbacus$Tape") && Nat.beq i 40))
  | .ldc_w i => Nat.beq n 3 && decide (Cond.constant own i (xV x) ∈ wl)
  | .ldc2_w i => Nat.beq n 3 && decide (Cond.constantLong own i (xW x) ∈ wl)
  | .getstatic i => Nat.beq n 3 && (decide (Cond.fieldLink own i "GoatAbacus" "TENS" "[J" ∈ wl) || decide ((own, i) ∈ nestF))
  | .iload _ | .lload _ | .aload _ | .istore _ | .lstore _ | .astore _ => Nat.beq n 2
  | .iload_n _ | .lload_n _ | .aload_n _ | .istore_n _ | .lstore_n _ | .astore_n _ => Nat.beq n 1
  | .iinc _ i => Nat.beq n 3 && decide (Int32.ofInt i = xV x)
  | .ifCond _ off | .if_icmp _ off | .ifnull off | .ifnonnull off | .goto off => Nat.beq n 3 && okT pc off (xA x)
  | .tableswitch d lo hi offs => decide (lo = 0) && decide (xV x = 0) && decide (0 ≤ hi) && decide (hi < 1000) && decide ((offs.size : Int) = hi + 1) && decide (0 ≤ (pc : Int) + d) && offs.toList.all (fun t => decide (0 ≤ (pc : Int) + t))
  | .getfield i => Nat.beq n 3 && (match vwCl[xA x]? with
    | some q => decide (xB x < q.2.2) && decide ((q.2.1 (xB x)).1 = q.1) && decide (Cond.fieldLink own i q.1 (q.2.1 (xB x)).2.1 (q.2.1 (xB x)).2.2.1 ∈ wl)
    | none => false)
  | .putfield i => Nat.beq n 3 && (match vwCl[xA x]? with
    | some q => decide (xB x < q.2.2) && decide ((q.2.1 (xB x)).1 = q.1) && decide (Cond.fieldLink own i q.1 (q.2.1 (xB x)).2.1 (q.2.1 (xB x)).2.2.1 ∈ wl) && (!(q.2.1 (xB x)).2.2.2 || (ini && decide (q.1 = own)))
    | none => false)
  | .newarray t => Nat.beq n 2 && decide (Cond.arrayClass (newarray.typeOf t) ∈ wl) && ((Nat.beq (xA x) 20 && decide (newarray.typeOf t = .int)) || (Nat.beq (xA x) 21 && decide (newarray.typeOf t = .long)) || (Nat.beq (xA x) 22 && decide (newarray.typeOf t = .boolean)))
  | .anewarray i => Nat.beq n 3 && decide (Cond.classLink own i "GoatAbacus$Sum" ∈ wl)
  | .new i => Nat.beq n 3 && (match vwCl[xA x]? with
    | some q => Nat.beq (xB x) q.2.2 && decide (Cond.classLink own i q.1 ∈ wl) && decide (Cond.instantiable q.1 q.2.2 ∈ wl) && decide (Cond.initialized q.1 ∈ wl)
    | none => false)
  | .invokestatic i => Nat.beq n 3 && (match xC x with
    | 0 => (match MT (xA x) with
      | some w => okM wl own i w.1 && okY w.1 (xB x) && decide (Cond.static w.1 ∈ wl) && decide (Cond.initialized w.1.cls ∈ wl)
      | none => false)
    | 1 => decide (Cond.methodLink own i arraycopyName ∈ wl) && decide (Cond.native arraycopyName ∈ wl) && decide (Cond.static arraycopyName ∈ wl) && decide (Cond.initialized "java/lang/System" ∈ wl)
    | 2 => decide (Cond.methodLink own i Lib.Math.max.name ∈ wl) && decide (Cond.static Lib.Math.max.name ∈ wl) && decide (Cond.initialized "java/lang/Math" ∈ wl) && decide (Cond.code Lib.Math.max.name Lib.Math.max.code 2 (some .int) ∈ wl)
    | 3 => decide (Cond.methodLink own i Lib.Math.min.name ∈ wl) && decide (Cond.static Lib.Math.min.name ∈ wl) && decide (Cond.initialized "java/lang/Math" ∈ wl) && decide (Cond.code Lib.Math.min.name Lib.Math.min.code 2 (some .int) ∈ wl)
    | 4 => decide (Cond.methodLink own i Lib.Math.abs.name ∈ wl) && decide (Cond.static Lib.Math.abs.name ∈ wl) && decide (Cond.initialized "java/lang/Math" ∈ wl) && decide (Cond.code Lib.Math.abs.name Lib.Math.abs.code 1 (some .int) ∈ wl)
    | 5 => decide (Cond.methodLink own i Lib.MathLoose.max_long.x ∈ wl) && decide (Cond.static Lib.MathLoose.max_long.x ∈ wl) && decide (Cond.initialized "java/lang/Math" ∈ wl) && decide (Cond.code Lib.MathLoose.max_long.x Lib.MathLoose.max_long.code 4 (some .long) ∈ wl)
    | 6 => decide (Cond.methodLink own i Lib.MathLoose.min_long.x ∈ wl) && decide (Cond.static Lib.MathLoose.min_long.x ∈ wl) && decide (Cond.initialized "java/lang/Math" ∈ wl) && decide (Cond.code Lib.MathLoose.min_long.x Lib.MathLoose.min_long.code 4 (some .long) ∈ wl)
    | _ => false)
  | .checkcast i => Nat.beq n 3 && decide (Cond.classLink own i "[I" ∈ wl)
  | .invokevirtual i => Nat.beq n 3 && (bif Nat.beq (xC x) 98 then
      decide (Cond.methodLink own i ⟨"[I", "clone", "()Ljava/lang/Object;"⟩ ∈ wl) && decide (Cond.sameMethod "[I" "java/lang/Object" "clone" "()Ljava/lang/Object;" ∈ wl) && decide (Cond.native ⟨"java/lang/Object", "clone", "()Ljava/lang/Object;"⟩ ∈ wl) && decide (Cond.instanceMethod ⟨"java/lang/Object", "clone", "()Ljava/lang/Object;"⟩ ∈ wl) && decide (Cond.selects "[I" ⟨"[I", "clone", "()Ljava/lang/Object;"⟩ ⟨"java/lang/Object", "clone", "()Ljava/lang/Object;"⟩ ∈ wl)
    else bif Nat.beq (xC x) 99 then (match MT (xA x) with
      | some w => decide (w.1.cls = "java/lang/String") && decide (Cond.methodLink own i w.1 ∈ wl) && okY w.1 (xB x) && decide (Cond.instanceMethod w.1 ∈ wl) && decide (Cond.selects "java/lang/String" w.1 w.1 ∈ wl) && decide (Cond.initialized w.1.cls ∈ wl)
      | none => false)
    else match MT (xA x), vwCl[xC x]? with
    | some w, some q => decide (w.1.cls = q.1) && okM wl own i w.1 && okY w.1 (xB x) && decide (Cond.instanceMethod w.1 ∈ wl) && decide (Cond.selects q.1 w.1 w.1 ∈ wl) && decide (Cond.initialized w.1.cls ∈ wl)
    | _, _ => false)
  | .invokespecial i => Nat.beq n 3 && (match xC x with
    | 0 => Nat.beq (xB x) 0 && decide (Cond.methodLink own i objectInit ∈ wl) && decide (Cond.instanceMethod objectInit ∈ wl) && decide (Cond.code objectInit ⟨#[0xb1]⟩ 1 none ∈ wl)
    | _ => (match MT (xA x) with
      | some w => okM wl own i w.1 && okY w.1 (xB x) && decide (w.1.name = "<init>") && decide (w.2.2.2.1 = none) && decide (Cond.instanceMethod w.1 ∈ wl) && decide (Cond.initialized w.1.cls ∈ wl)
      | none => false))
  | .ireturn | .lreturn | .areturn | .return_ => Nat.beq n 1
  | _ => Nat.beq n 1

def isS : Instr → Bool
  | .iadd => true
  | .isub => true
  | .imul => true
  | .iand => true
  | .ior => true
  | .ixor => true
  | .ishl => true
  | .ishr => true
  | .ladd => true
  | .lsub => true
  | .lmul => true
  | .land => true
  | .lor => true
  | .lxor => true
  | .idiv => true
  | .irem => true
  | .ldiv => true
  | .lrem => true
  | .iushr => true
  | .lshl => true
  | .lshr => true
  | .lushr => true
  | .i2l => true
  | .l2i => true
  | .i2c => true
  | .ineg => true
  | .lneg => true
  | .lcmp => true
  | .aconst_null => true
  | .iconst _ => true
  | .bipush _ => true
  | .sipush _ => true
  | .lconst _ => true
  | .ldc _ => true
  | .ldc_w _ => true
  | .ldc2_w _ => true
  | .getstatic _ => true
  | .iload _ => true
  | .iload_n _ => true
  | .lload _ => true
  | .lload_n _ => true
  | .aload _ => true
  | .aload_n _ => true
  | .istore _ => true
  | .lstore _ => true
  | .istore_n _ => true
  | .lstore_n _ => true
  | .astore _ => true
  | .astore_n _ => true
  | .iinc _ _ => true
  | .dup => true
  | .pop => true
  | .dup2 => true
  | .ifCond _ _ => true
  | .if_icmp _ _ => true
  | .ifnull _ => true
  | .ifnonnull _ => true
  | .goto _ => true
  | _ => false
set_option maxHeartbeats 4000000 in
set_option maxRecDepth 100000 in
/-- the instructions that touch no cell -/
theorem sem_ok1 {p : Program} {l : Launch} {e : Env} {R : Room} {s : State} {m : MethodId} {args : Array Value} {below : List Frame} {meth : Method} {c : Code} {Q : State → Prop} {cc : ByteArray} {nL : Nat} {own : String} {B : Nat} {ad : Nat → Nat} {D : va_G} {ca : Nat → ClassId} {sc : Nat × (Nat → Int32)} {d z0 y0 Z Y : Nat} {rty : Option FieldType} {MT : Nat → Option Mrow} {wl : List Cond} {ini : Bool} {cl : Ct} {rt : Rt} (C : Cx p R s m args c cc nL own B ad D ca sc d z0 y0 Z Y) (hwl : ∀ w ∈ wl, w ∈ gW) {pc : Nat} {op : Instr} {n : Nat} {x : Xt} {lv : Lv} {st : List Value} {E : En} {σ : St} (hd : decode cc pc = .ok (op, n)) (hok : okx MT wl own ini (pc, op, n, x) = true) {k : Fr → Prop} (hk : ∀ f, k f → AWf p l e R s m args below meth c Q nL B ad D ca z0 y0 Z Y f) (hh : AWf p l e R s m args below meth c Q nL B ad D ca z0 y0 Z Y (pc, lv, st, E, σ) ∨ True)
    (h : runO cl rt E σ k (sem nL rty sc (pc, op, n, x) lv st E σ)) (hkind : isS op = true) : AWf p l e R s m args below meth c Q nL B ad D ca z0 y0 Z Y (pc, lv, st, E, σ) := by
  obtain ⟨hx, hb, hml, hown, hts, hG, -⟩ := C
  clear hh
  cases op with
  | iadd => 
    obtain rfl := Nat.eq_of_beq_eq_true hok
    dsimp only [sem] at h
    split at h
    · exact aw1 (hk _ h) fun H locs ls _ _ _ _ _ w => lv_iadd hx hb hd w
    · exact h.elim
  | isub => 
    obtain rfl := Nat.eq_of_beq_eq_true hok
    dsimp only [sem] at h
    split at h
    · exact aw1 (hk _ h) fun H locs ls _ _ _ _ _ w => lv_isub hx hb hd w
    · exact h.elim
  | imul => 
    obtain rfl := Nat.eq_of_beq_eq_true hok
    dsimp only [sem] at h
    split at h
    · exact aw1 (hk _ h) fun H locs ls _ _ _ _ _ w => lv_imul hx hb hd w
    · exact h.elim
  | iand => 
    obtain rfl := Nat.eq_of_beq_eq_true hok
    dsimp only [sem] at h
    split at h
    · exact aw1 (hk _ h) fun H locs ls _ _ _ _ _ w => lv_iand hx hb hd w
    · exact h.elim
  | ior => 
    obtain rfl := Nat.eq_of_beq_eq_true hok
    dsimp only [sem] at h
    split at h
    · exact aw1 (hk _ h) fun H locs ls _ _ _ _ _ w => lv_ior hx hb hd w
    · exact h.elim
  | ixor => 
    obtain rfl := Nat.eq_of_beq_eq_true hok
    dsimp only [sem] at h
    split at h
    · exact aw1 (hk _ h) fun H locs ls _ _ _ _ _ w => lv_ixor hx hb hd w
    · exact h.elim
  | ishl => 
    obtain rfl := Nat.eq_of_beq_eq_true hok
    dsimp only [sem] at h
    split at h
    · exact aw1 (hk _ h) fun H locs ls _ _ _ _ _ w => lv_ishl hx hb hd w
    · exact h.elim
  | ishr => 
    obtain rfl := Nat.eq_of_beq_eq_true hok
    dsimp only [sem] at h
    split at h
    · exact aw1 (hk _ h) fun H locs ls _ _ _ _ _ w => lv_ishr hx hb hd w
    · exact h.elim
  | ladd => 
    obtain rfl := Nat.eq_of_beq_eq_true hok
    dsimp only [sem] at h
    split at h
    · exact aw1 (hk _ h) fun H locs ls _ _ _ _ _ w => lv_ladd hx hb hd w
    · exact h.elim
  | lsub => 
    obtain rfl := Nat.eq_of_beq_eq_true hok
    dsimp only [sem] at h
    split at h
    · exact aw1 (hk _ h) fun H locs ls _ _ _ _ _ w => lv_lsub hx hb hd w
    · exact h.elim
  | lmul => 
    obtain rfl := Nat.eq_of_beq_eq_true hok
    dsimp only [sem] at h
    split at h
    · exact aw1 (hk _ h) fun H locs ls _ _ _ _ _ w => lv_lmul hx hb hd w
    · exact h.elim
  | land => 
    obtain rfl := Nat.eq_of_beq_eq_true hok
    dsimp only [sem] at h
    split at h
    · exact aw1 (hk _ h) fun H locs ls _ _ _ _ _ w => lv_land hx hb hd w
    · exact h.elim
  | lor => 
    obtain rfl := Nat.eq_of_beq_eq_true hok
    dsimp only [sem] at h
    split at h
    · exact aw1 (hk _ h) fun H locs ls _ _ _ _ _ w => lv_lor hx hb hd w
    · exact h.elim
  | lxor => 
    obtain rfl := Nat.eq_of_beq_eq_true hok
    dsimp only [sem] at h
    split at h
    · exact aw1 (hk _ h) fun H locs ls _ _ _ _ _ w => lv_lxor hx hb hd w
    · exact h.elim
  | idiv => 
    obtain rfl := Nat.eq_of_beq_eq_true hok
    dsimp only [sem] at h
    split at h
    · exact aw1 (hk _ h.2) fun H locs ls _ _ _ _ _ w => lv_idiv hx hb hd h.1 w
    · exact h.elim
  | irem => 
    obtain rfl := Nat.eq_of_beq_eq_true hok
    dsimp only [sem] at h
    split at h
    · exact aw1 (hk _ h.2) fun H locs ls _ _ _ _ _ w => lv_irem hx hb hd h.1 w
    · exact h.elim
  | ldiv => 
    obtain rfl := Nat.eq_of_beq_eq_true hok
    dsimp only [sem] at h
    split at h
    · exact aw1 (hk _ h.2) fun H locs ls _ _ _ _ _ w => lv_ldiv hx hb hd h.1 w
    · exact h.elim
  | lrem => 
    obtain rfl := Nat.eq_of_beq_eq_true hok
    dsimp only [sem] at h
    split at h
    · exact aw1 (hk _ h.2) fun H locs ls _ _ _ _ _ w => lv_lrem hx hb hd h.1 w
    · exact h.elim
  | iushr => 
    obtain rfl := Nat.eq_of_beq_eq_true hok
    dsimp only [sem] at h
    split at h
    · exact aw1 (hk _ h) fun H locs ls _ _ _ _ _ w => lv_iushr hx hb hd rfl w
    · exact h.elim
  | lshl => 
    obtain rfl := Nat.eq_of_beq_eq_true hok
    dsimp only [sem] at h
    split at h
    · exact aw1 (hk _ h) fun H locs ls _ _ _ _ _ w => lv_lshl hx hb hd rfl w
    · exact h.elim
  | lshr => 
    obtain rfl := Nat.eq_of_beq_eq_true hok
    dsimp only [sem] at h
    split at h
    · exact aw1 (hk _ h) fun H locs ls _ _ _ _ _ w => lv_lshr hx hb hd rfl w
    · exact h.elim
  | lushr => 
    obtain rfl := Nat.eq_of_beq_eq_true hok
    dsimp only [sem] at h
    split at h
    · exact aw1 (hk _ h) fun H locs ls _ _ _ _ _ w => lv_lushr hx hb hd rfl w
    · exact h.elim
  | i2l => 
    obtain rfl := Nat.eq_of_beq_eq_true hok
    dsimp only [sem] at h
    split at h
    · exact aw1 (hk _ h) fun H locs ls _ _ _ _ _ w => lv_i2l hx hb hd rfl w
    · exact h.elim
  | l2i => 
    obtain rfl := Nat.eq_of_beq_eq_true hok
    dsimp only [sem] at h
    split at h
    · exact aw1 (hk _ h) fun H locs ls _ _ _ _ _ w => lv_l2i hx hb hd rfl w
    · exact h.elim
  | i2c => 
    obtain rfl := Nat.eq_of_beq_eq_true hok
    dsimp only [sem] at h
    split at h
    · exact aw1 (hk _ h) fun H locs ls _ _ _ _ _ w => lv_i2c hx hb hd rfl w
    · exact h.elim
  | ineg => 
    obtain rfl := Nat.eq_of_beq_eq_true hok
    dsimp only [sem] at h
    split at h
    · exact aw1 (hk _ h) fun H locs ls _ _ _ _ _ w => lv_ineg hx hb hd w
    · exact h.elim
  | lneg => 
    obtain rfl := Nat.eq_of_beq_eq_true hok
    dsimp only [sem] at h
    split at h
    · exact aw1 (hk _ h) fun H locs ls _ _ _ _ _ w => lv_lneg hx hb hd w
    · exact h.elim
  | lcmp => 
    obtain rfl := Nat.eq_of_beq_eq_true hok
    dsimp only [sem] at h
    split at h
    · exact aw1 (hk _ h) fun H locs ls _ _ _ _ _ w => W.lcmp hx hb hd w
    · exact h.elim
  | aconst_null => 
    obtain rfl := Nat.eq_of_beq_eq_true hok
    exact aw1 (hk _ h) fun H locs ls _ _ _ _ _ w => lv_null hx hb hd w
  | iconst i => 
    simp only [okx, Bool.and_eq_true, decide_eq_true_eq] at hok
    obtain ⟨q1, q2⟩ := hok
    obtain rfl := Nat.eq_of_beq_eq_true q1
    exact aw1 (hk _ h) fun H locs ls _ _ _ _ _ w => lv_iconst hx hb hd q2 w
  | bipush i => 
    simp only [okx, Bool.and_eq_true, decide_eq_true_eq] at hok
    obtain ⟨q1, q2⟩ := hok
    obtain rfl := Nat.eq_of_beq_eq_true q1
    exact aw1 (hk _ h) fun H locs ls _ _ _ _ _ w => lv_bipush hx hb hd q2 w
  | sipush i => 
    simp only [okx, Bool.and_eq_true, decide_eq_true_eq] at hok
    obtain ⟨q1, q2⟩ := hok
    obtain rfl := Nat.eq_of_beq_eq_true q1
    exact aw1 (hk _ h) fun H locs ls _ _ _ _ _ w => lv_sipush hx hb hd q2 w
  | lconst i => 
    simp only [okx, Bool.and_eq_true, decide_eq_true_eq] at hok
    obtain ⟨q1, q2⟩ := hok
    obtain rfl := Nat.eq_of_beq_eq_true q1
    exact aw1 (hk _ h) fun H locs ls _ _ _ _ _ w => lv_lconst hx hb hd q2 w
  | ldc i => 
    simp only [okx, Bool.and_eq_true, Bool.or_eq_true, decide_eq_true_eq] at hok
    obtain ⟨q1, q2⟩ := hok
    obtain rfl := Nat.eq_of_beq_eq_true q1
    rcases q2 with ⟨q3, q2⟩ | ⟨⟨q3, q4⟩, q5⟩
    · have q6 : xA x = 0 := Nat.eq_of_beq_eq_true q3
      dsimp only [sem] at h
      rw [q6] at h
      exact aw1 (hk _ h) fun H locs ls _ _ _ _ _ w => lv_ldc hx hb hown (hts _ (hwl _ q2)) hd w
    · have q6 : xA x = 1 := Nat.eq_of_beq_eq_true q3
      have q7 : i = 40 := Nat.eq_of_beq_eq_true q5
      subst q7
      subst q4
      dsimp only [sem] at h
      rw [q6] at h
      exact aw1 (hk _ h) fun H locs ls _ _ _ _ _ w => va_ldcS hx hb hown hG.2.2.2.2.2.2.2.2.2.2.1 hd w
  | ldc_w i => 
    simp only [okx, Bool.and_eq_true, decide_eq_true_eq] at hok
    obtain ⟨q1, q2⟩ := hok
    obtain rfl := Nat.eq_of_beq_eq_true q1
    exact aw1 (hk _ h) fun H locs ls _ _ _ _ _ w => lv_ldcw hx hb hown (hts _ (hwl _ q2)) hd w
  | ldc2_w i => 
    simp only [okx, Bool.and_eq_true, decide_eq_true_eq] at hok
    obtain ⟨q1, q2⟩ := hok
    obtain rfl := Nat.eq_of_beq_eq_true q1
    exact aw1 (hk _ h) fun H locs ls _ _ _ _ _ w => lv_ldc2 hx hb hown (hts _ (hwl _ q2)) hd w
  | getstatic i => 
    simp only [okx, Bool.and_eq_true, Bool.or_eq_true, decide_eq_true_eq] at hok
    obtain ⟨q1, q2⟩ := hok
    obtain rfl := Nat.eq_of_beq_eq_true q1
    rcases q2 with q2 | q2
    · exact aw1 (hk _ h) fun H locs ls _ _ hS _ _ w => va_gets hx hb hG.2.2.2.1 hS hown (hts _ (hwl _ q2)) (fun _ z => z) hd w
    · exact aw1 (hk _ h) fun H locs ls _ _ hS _ _ w => va_getsN hx hb hG.2.2.2.1 hS hown (va_Nw.use rfl (hG.2.2.1 _ q2)) (fun _ z => z) hd w
  | iload i => 
    obtain rfl := Nat.eq_of_beq_eq_true hok
    dsimp only [sem] at h
    split at h
    · rename_i v hv
      exact aw1 (hk _ h) fun H locs ls _ _ _ hl _ w => lv_iload hx hb hd (lk_at hv hl) w
    · exact h.elim
  | iload_n i => 
    obtain rfl := Nat.eq_of_beq_eq_true hok
    dsimp only [sem] at h
    split at h
    · rename_i v hv
      exact aw1 (hk _ h) fun H locs ls _ _ _ hl _ w => lv_iload_n hx hb hd rfl (lk_at hv hl) w
    · exact h.elim
  | lload i => 
    obtain rfl := Nat.eq_of_beq_eq_true hok
    dsimp only [sem] at h
    split at h
    · rename_i v hv
      exact aw1 (hk _ h) fun H locs ls _ _ _ hl _ w => lv_lload hx hb hd (lk_at hv hl) w
    · exact h.elim
  | lload_n i => 
    obtain rfl := Nat.eq_of_beq_eq_true hok
    dsimp only [sem] at h
    split at h
    · rename_i v hv
      exact aw1 (hk _ h) fun H locs ls _ _ _ hl _ w => lv_lload_n hx hb hd rfl (lk_at hv hl) w
    · exact h.elim
  | aload i => 
    obtain rfl := Nat.eq_of_beq_eq_true hok
    dsimp only [sem] at h
    split at h
    · rename_i v hv
      exact aw1 (hk _ h) fun H locs ls _ _ _ hl _ w => lv_aload hx hb hd (lk_at hv hl) w
    · rename_i hv
      exact aw1 (hk _ h) fun H locs ls _ _ _ hl _ w => lv_aloadN hx hb hd (lk_at hv hl) w
    · exact h.elim
  | aload_n i => 
    obtain rfl := Nat.eq_of_beq_eq_true hok
    dsimp only [sem] at h
    split at h
    · rename_i v hv
      exact aw1 (hk _ h) fun H locs ls _ _ _ hl _ w => lv_aload_n hx hb hd rfl (lk_at hv hl) w
    · rename_i hv
      exact aw1 (hk _ h) fun H locs ls _ _ _ hl _ w => lv_aload_nN hx hb hd rfl (lk_at hv hl) w
    · exact h.elim
  | istore i => 
    obtain rfl := Nat.eq_of_beq_eq_true hok
    dsimp only [sem] at h
    split at h
    · skip
      cases hlt : Nat.blt i nL with
      | true =>
        rw [hlt] at h
        exact aw2 (hk _ h) fun H locs ls _ _ hl w => lv_istore hx hb hd hl (Nat.le_of_ble_eq_true hlt) (cvL_stA ad lv _ (.int _)) w
      | false => rw [hlt] at h; exact h.elim
    · exact h.elim
  | lstore i => 
    obtain rfl := Nat.eq_of_beq_eq_true hok
    dsimp only [sem] at h
    split at h
    · skip
      cases hlt : Nat.blt (i + 1) nL with
      | true =>
        rw [hlt] at h
        exact aw2 (hk _ h) fun H locs ls _ _ hl w => lv_lstore hx hb hd hl (Nat.le_of_ble_eq_true hlt) (cvL_stB ad lv _ (.long _)) w
      | false => rw [hlt] at h; exact h.elim
    · exact h.elim
  | istore_n i => 
    obtain rfl := Nat.eq_of_beq_eq_true hok
    dsimp only [sem] at h
    split at h
    · skip
      cases hlt : Nat.blt i nL with
      | true =>
        rw [hlt] at h
        exact aw2 (hk _ h) fun H locs ls _ _ hl w => lv_istore_n hx hb hd rfl hl (Nat.le_of_ble_eq_true hlt) (cvL_stA ad lv _ (.int _)) w
      | false => rw [hlt] at h; exact h.elim
    · exact h.elim
  | lstore_n i => 
    obtain rfl := Nat.eq_of_beq_eq_true hok
    dsimp only [sem] at h
    split at h
    · skip
      cases hlt : Nat.blt (i + 1) nL with
      | true =>
        rw [hlt] at h
        exact aw2 (hk _ h) fun H locs ls _ _ hl w => lv_lstore_n hx hb hd rfl hl (Nat.le_of_ble_eq_true hlt) (cvL_stB ad lv _ (.long _)) w
      | false => rw [hlt] at h; exact h.elim
    · exact h.elim
  | astore i => 
    obtain rfl := Nat.eq_of_beq_eq_true hok
    dsimp only [sem] at h
    split at h
    · skip
      cases hlt : Nat.blt i nL with
      | true =>
        rw [hlt] at h
        exact aw2 (hk _ h) fun H locs ls _ _ hl w => lv_astore hx hb hd hl (Nat.le_of_ble_eq_true hlt) (cvL_stA ad lv _ (.ref _)) w
      | false => rw [hlt] at h; exact h.elim
    · skip
      cases hlt : Nat.blt i nL with
      | true =>
        rw [hlt] at h
        exact aw2 (hk _ h) fun H locs ls _ _ hl w => lv_astoreN hx hb hd hl (Nat.le_of_ble_eq_true hlt) (cvL_stA ad lv _ .null) w
      | false => rw [hlt] at h; exact h.elim
    · exact h.elim
  | astore_n i => 
    obtain rfl := Nat.eq_of_beq_eq_true hok
    dsimp only [sem] at h
    split at h
    · skip
      cases hlt : Nat.blt i nL with
      | true =>
        rw [hlt] at h
        exact aw2 (hk _ h) fun H locs ls _ _ hl w => lv_astore_n hx hb hd rfl hl (Nat.le_of_ble_eq_true hlt) (cvL_stA ad lv _ (.ref _)) w
      | false => rw [hlt] at h; exact h.elim
    · skip
      cases hlt : Nat.blt i nL with
      | true =>
        rw [hlt] at h
        exact aw2 (hk _ h) fun H locs ls _ _ hl w => lv_astore_nN hx hb hd rfl hl (Nat.le_of_ble_eq_true hlt) (cvL_stA ad lv _ .null) w
      | false => rw [hlt] at h; exact h.elim
    · exact h.elim
  | iinc i j => 
    simp only [okx, Bool.and_eq_true, decide_eq_true_eq] at hok
    obtain ⟨q1, q2⟩ := hok
    obtain rfl := Nat.eq_of_beq_eq_true q1
    dsimp only [sem] at h
    split at h
    · rename_i v hv
      cases hlt : Nat.blt i nL with
      | true =>
        rw [hlt] at h
        obtain ⟨kk, hkk⟩ := lk_ix (ad := ad) hv
        exact aw2 (hk _ h) fun H locs ls _ _ hl w => lv_iinc hx hb hd hl hkk (by rw [q2]) (Nat.le_of_ble_eq_true hlt) (cvL_stA ad lv _ (.int _)) w
      | false => rw [hlt] at h; exact h.elim
    · exact h.elim
  | dup => 
    obtain rfl := Nat.eq_of_beq_eq_true hok
    dsimp only [sem] at h
    split at h
    · rename_i a r
      cases hc : Nat.beq a.category 1 with
      | true =>
        rw [hc] at h
        exact aw1 (hk _ h) fun H locs ls _ _ _ _ _ w => lv_dup hx hb hd (by rw [cv_cat]; exact Nat.eq_of_beq_eq_true hc) w
      | false => rw [hc] at h; exact h.elim
    · exact h.elim
  | pop => 
    obtain rfl := Nat.eq_of_beq_eq_true hok
    dsimp only [sem] at h
    split at h
    · rename_i a r
      cases hc : Nat.beq a.category 1 with
      | true =>
        rw [hc] at h
        exact aw1 (hk _ h) fun H locs ls _ _ _ _ _ w => lv_pop hx hb hd (by rw [cv_cat]; exact Nat.eq_of_beq_eq_true hc) w
      | false => rw [hc] at h; exact h.elim
    · exact h.elim
  | dup2 => 
    obtain rfl := Nat.eq_of_beq_eq_true hok
    dsimp only [sem] at h
    split at h
    · exact aw1 (hk _ h) fun H locs ls _ _ _ _ _ w => lv_dup2_2 hx hb hd rfl w
    · rename_i a b r _
      cases hc : (Nat.beq a.category 1 && Nat.beq b.category 1) with
      | true =>
        rw [hc] at h
        simp only [Bool.and_eq_true] at hc
        exact aw1 (hk _ h) fun H locs ls _ _ _ _ _ w => lv_dup2_11 hx hb hd (by rw [cv_cat]; exact Nat.eq_of_beq_eq_true hc.1) (by rw [cv_cat]; exact Nat.eq_of_beq_eq_true hc.2) w
      | false => rw [hc] at h; exact h.elim
    · exact h.elim
  | ifCond cd off => 
    simp only [okx, okT, Bool.and_eq_true, decide_eq_true_eq] at hok
    obtain ⟨q1, q2⟩ := hok
    obtain rfl := Nat.eq_of_beq_eq_true q1
    dsimp only [sem] at h
    split at h
    · rename_i a r
      cases cd with
      | eq => exact aw3 (fun q => hk _ (h.1 q)) (fun q => hk _ (h.2 q)) fun H locs ls _ _ t f => lv_if_eq hx hb hd q2 t f
      | ne => exact aw3 (fun q => hk _ (h.1 q)) (fun q => hk _ (h.2 q)) fun H locs ls _ _ t f => lv_if_ne hx hb hd q2 t (fun q => f (fun w => w q))
      | lt => exact aw3 (fun q => hk _ (h.1 q)) (fun q => hk _ (h.2 q)) fun H locs ls _ _ t f => lv_if_lt hx hb hd q2 t f
      | ge => exact aw3 (fun q => hk _ (h.1 q)) (fun q => hk _ (h.2 q)) fun H locs ls _ _ t f => lv_if_ge hx hb hd q2 t f
      | gt => exact aw3 (fun q => hk _ (h.1 q)) (fun q => hk _ (h.2 q)) fun H locs ls _ _ t f => lv_if_gt hx hb hd q2 t f
      | le => exact aw3 (fun q => hk _ (h.1 q)) (fun q => hk _ (h.2 q)) fun H locs ls _ _ t f => lv_if_le hx hb hd q2 t f
    · exact h.elim
  | if_icmp cd off => 
    simp only [okx, okT, Bool.and_eq_true, decide_eq_true_eq] at hok
    obtain ⟨q1, q2⟩ := hok
    obtain rfl := Nat.eq_of_beq_eq_true q1
    dsimp only [sem] at h
    split at h
    · rename_i b a r
      cases cd with
      | eq => exact aw3 (fun q => hk _ (h.1 q)) (fun q => hk _ (h.2 q)) fun H locs ls _ _ t f => lv_icmp_eq hx hb hd q2 t f
      | ne => exact aw3 (fun q => hk _ (h.1 q)) (fun q => hk _ (h.2 q)) fun H locs ls _ _ t f => lv_icmp_ne hx hb hd q2 t (fun q => f (fun w => w q))
      | lt => exact aw3 (fun q => hk _ (h.1 q)) (fun q => hk _ (h.2 q)) fun H locs ls _ _ t f => lv_icmp_lt hx hb hd q2 t f
      | ge => exact aw3 (fun q => hk _ (h.1 q)) (fun q => hk _ (h.2 q)) fun H locs ls _ _ t f => lv_icmp_ge hx hb hd q2 t f
      | gt => exact aw3 (fun q => hk _ (h.1 q)) (fun q => hk _ (h.2 q)) fun H locs ls _ _ t f => lv_icmp_gt hx hb hd q2 t f
      | le => exact aw3 (fun q => hk _ (h.1 q)) (fun q => hk _ (h.2 q)) fun H locs ls _ _ t f => lv_icmp_le hx hb hd q2 t f
    · exact h.elim
  | ifnull off => 
    simp only [okx, okT, Bool.and_eq_true, decide_eq_true_eq] at hok
    obtain ⟨q1, q2⟩ := hok
    obtain rfl := Nat.eq_of_beq_eq_true q1
    dsimp only [sem] at h
    split at h
    · exact aw1 (hk _ h) fun H locs ls _ _ _ _ _ w => lv_ifnullN hx hb hd q2 w
    · exact aw1 (hk _ h) fun H locs ls _ _ _ _ _ w => lv_ifnull hx hb hd w
    · exact h.elim
  | ifnonnull off => 
    simp only [okx, okT, Bool.and_eq_true, decide_eq_true_eq] at hok
    obtain ⟨q1, q2⟩ := hok
    obtain rfl := Nat.eq_of_beq_eq_true q1
    dsimp only [sem] at h
    split at h
    · exact aw1 (hk _ h) fun H locs ls _ _ _ _ _ w => lv_ifnonnullN hx hb hd w
    · exact aw1 (hk _ h) fun H locs ls _ _ _ _ _ w => lv_ifnonnull hx hb hd q2 w
    · exact h.elim
  | goto off => 
    simp only [okx, okT, Bool.and_eq_true, decide_eq_true_eq] at hok
    obtain ⟨q1, q2⟩ := hok
    obtain rfl := Nat.eq_of_beq_eq_true q1
    exact aw1 (hk _ h) fun H locs ls _ _ _ _ _ w => lv_goto hx hb hd q2 w
  | _ => cases hkind
