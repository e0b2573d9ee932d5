/-! The base of the walks: guards, loops with fuel, contracts of methods that read and of methods that write, their calls. -/
def gI (i : Int32) (n : Nat) : Bool := !(decide (i < 0)) && decide (i.toNatClampNeg < n)
theorem gI_in {i : Int32} {n : Nat} (h : gI i n = true) : vp_in i n := by
  simp only [gI, Bool.and_eq_true, Bool.not_eq_true', decide_eq_false_iff_not, decide_eq_true_eq] at h
  exact fun q => q.elim h.1 (fun q => absurd h.2 (Nat.not_lt.mpr q))
def gN (y : Int32) : Bool := !(decide (y = 0))
theorem gN_ne {y : Int32} (h : gN y = true) : ¬ y = 0 := by
  simp only [gN, Bool.not_eq_true', decide_eq_false_iff_not] at h
  exact h
def gM (y : Int64) : Bool := !(decide (y = 0))
theorem gM_ne {y : Int64} (h : gM y = true) : ¬ y = 0 := by
  simp only [gM, Bool.not_eq_true', decide_eq_false_iff_not] at h
  exact h
theorem og {c : Bool} {α : Type} {x : Option α} {r : α} (h : (if c = true then x else none) = some r) : c = true ∧ x = some r := by
  cases c with
  | true => exact ⟨rfl, h⟩
  | false => exact absurd h (by simp)
theorem ob {α β : Type} {x : Option α} {f : α → Option β} {r : β} (h : x.bind f = some r) : ∃ a, x = some a ∧ f a = some r := by
  cases x with
  | none => exact absurd h (by simp)
  | some a => exact ⟨a, rfl, h⟩
/-- a loop with fuel: its body says what goes on -/
def lp {V Z : Type} (F : (V → Option Z) → V → Option Z) : Nat → V → Option Z
  | 0 => fun _ => none
  | n + 1 => F (lp F n)
theorem lp_0 {V Z : Type} {F : (V → Option Z) → V → Option Z} {v : V} {z : Z} (h : lp F 0 v = some z) : False := by
  exact absurd h (by simp [lp])
theorem lp_s {V Z : Type} {F : (V → Option Z) → V → Option Z} {n : Nat} {v : V} {z : Z} (h : lp F (n + 1) v = some z) : F (lp F n) v = some z := h
/-- addresses: apart, and in A -/
def AD (A : Nat → Prop) (ad : Nat → Nat) (n : Nat) : Prop := (∀ i j : Nat, i < n → j < n → ad i = ad j → i = j) ∧ ∀ i : Nat, i < n → A (ad i)
theorem AD_D {A : Nat → Prop} {ad : Nat → Nat} {n : Nat} (h : AD A ad n) {ws : va_W} (hw : ws.map Prod.fst = (List.range n).map ad) : va_D A ws := by
  have key : ∀ (k : Nat) (q : Nat × va_E), ws[k]? = some q → k < n ∧ q.1 = ad k := by
    intro k q hq
    have h1 : (ws.map Prod.fst)[k]? = some q.1 := by rw [List.getElem?_map, hq]; rfl
    rw [hw, List.getElem?_map] at h1
    by_cases hk : k < n
    · rw [List.getElem?_range hk] at h1
      exact ⟨hk, (Option.some.inj h1).symm⟩
    · rw [List.getElem?_eq_none (by simp; omega)] at h1
      exact absurd h1 (by simp)
  refine ⟨fun i j p q hi hj e => ?_, fun k q hq => ?_⟩
  · obtain ⟨h1, h2⟩ := key i p hi
    obtain ⟨h3, h4⟩ := key j q hj
    exact h.1 i j h1 h3 (by rw [← h2, ← h4, e])
  · obtain ⟨h1, h2⟩ := key k q hq
    rw [h2]
    exact h.2 k h1
abbrev rmN (f lo : Nat) : Room := { frames := f, cells := 0, slots := 0, locals := lo }
def FU : Nat := 1000
abbrev tyL (cI cB cZ : ClassId) : List (ClassId × FieldType) := [(cI, .int), (cB, .byte), (cZ, .boolean)]
/-- a method that reads: the cells are there -/
def PR (D : va_G) (tys : List (ClassId × FieldType)) (ws : va_W) (av : List Value) : Array Value → State → Prop := va_Pc av (fun U => va_P D vwCl ws U.heap ∧ va_K D vwCl tys U)
/-- a static method over numbers -/
def PS (av : List Value) : Array Value → State → Prop := va_Pc av (fun _ => True)
theorem PR_fb {D : va_G} {tys : List (ClassId × FieldType)} {ws : va_W} {av : List Value} : FrameBlind (PR D tys ws av) := fun a U g mk q => by
  obtain ⟨q0, qP, qK⟩ := q
  exact ⟨q0, qP, va_K.moved (u := U) (U := U.calling g mk a) (Vm.Alike.refl U.vm) qK⟩
theorem PS_fb {av : List Value} : FrameBlind (PS av) := fun _ _ _ _ q => q
def SI (val : Int32) : Array Value → State → Outcome → State → Prop := vp_Si (fun r => r = val)
def SL (val : Int64) : Array Value → State → Outcome → State → Prop := vp_Sl (fun r => r = val)
def QI (D : va_G) (ws' : va_W) (A : Nat → Prop) (val : Int32) : Array Value → State → Outcome → State → Prop := va_Qi (S := Unit) (fun r _ => r = val) (fun _ t => va_P D vwCl ws' t.heap) A
def QV (D : va_G) (ws' : va_W) (A : Nat → Prop) : Array Value → State → Outcome → State → Prop := va_Qv (S := Unit) (fun _ => True) (fun _ t => va_P D vwCl ws' t.heap) A
/-- a contract's beginning, with the locals as they come -/
theorem mk_met {l : Launch} {y : MethodName} {ws ws' : List Cond} {rm : Room} {av : List Value} {Bp : State → Prop} {Qc : Array Value → State → Outcome → State → Prop} {mc ms : Nat} {free : Addr → Prop} (cc : ByteArray) (maxL : Nat) (ret : Option FieldType)
    (hy : plainName y.cls = true) (hw : ws = Cond.code y cc maxL ret :: ws') (hlen : (lg_sl av).length ≤ maxL)
    (body : ∀ (p : Program) (e : Env) (s : State) (m : MethodId) (args : Array Value) (below : List Frame) (meth : Method) (c : Code) (ls : Array Slot), p.tables.exec = Jvm.exec → c.code = cc → meth.sig.returnType = ret → meth.locks = false → c.maxLocals = maxL → s.vm.findClass y.cls = some m.cls → (∀ w ∈ ws, w.before args s = true) → Bp s → lv_has ls maxL (lv_args 0 av) → W p l e rm s m args below meth c s.heap [] 0 0 (MQ below Qc args s mc ms free) (F0 m 0 ls [])) :
    Met l y ws rm (va_Pc av Bp) Qc mc ms free := by
  refine Met.ofW (cc := cc) (maxL := maxL) (ret := ret) hy hw ?_
  intro p e s m args below meth c s₁ B hml hv
  obtain ⟨rfl, hB⟩ := hv
  have hl := lv_entry av (n := maxL) hlen
  rw [lg_entry_eq]
  exact body p e s m _ below meth c _ B.exec B.bytes B.returns B.notSynchronized hml (findClass_of_methodNamed B.named) (atoms_spec (ws := ws) B.pre) hB hl
section BASE
variable {p : Program} {l : Launch} {e : Env} {R : Room} {s : State} {m : MethodId} {args : Array Value} {below : List Frame} {meth : Method} {c : Code} {H : Heap} {locs : List Loc} {cells slots : Nat} {Q : State → Prop}
variable {D : va_G} {tys : List (ClassId × FieldType)} {wsw wsw' : va_W} {A : Nat → Prop} {H0 : Heap}
variable {y : MethodName} {bytes cc : ByteArray} {maxL nL n index pc : Nat} {ret : Option FieldType} {ws : List Cond} {rm : Room} {Ts : List Cond} {own C : String} {b : Addr} {As rest st : List Value} {ls : Array Slot}
/-- ends of a method that reads -/
theorem re_i {v val : Int32} (hx : p.tables.exec = Jvm.exec) (hb : c.code = cc) (hr : meth.sig.returnType = some .int) (hlocks : meth.locks = false) (hdg : decode cc pc = .ok (.ireturn, 1)) (hv : some v = some val) : W p l e R s m args below meth c s.heap [] 0 0 (MQ below (SI val) args s 0 0 (fun _ => False)) (F0 m pc ls [.int v]) :=
  W.iret hx hb hr (fun t ht _ => ⟨v, rfl, Option.some.inj hv, ht⟩) (fun q h => absurd h List.not_mem_nil) hdg hlocks
theorem re_z {v val : Int32} (hx : p.tables.exec = Jvm.exec) (hb : c.code = cc) (hr : meth.sig.returnType = some .boolean) (hlocks : meth.locks = false) (hn : narrow .boolean (.int v) = .int v) (hdg : decode cc pc = .ok (.ireturn, 1)) (hv : some v = some val) : W p l e R s m args below meth c s.heap [] 0 0 (MQ below (SI val) args s 0 0 (fun _ => False)) (F0 m pc ls [.int v]) :=
  W.zret hx hb hr hn (fun t ht _ => ⟨v, rfl, Option.some.inj hv, ht⟩) (fun q h => absurd h List.not_mem_nil) hdg hlocks
theorem re_l {v val : Int64} (hx : p.tables.exec = Jvm.exec) (hb : c.code = cc) (hr : meth.sig.returnType = some .long) (hlocks : meth.locks = false) (hdg : decode cc pc = .ok (.lreturn, 1)) (hv : some v = some val) : W p l e R s m args below meth c s.heap [] 0 0 (MQ below (SL val) args s 0 0 (fun _ => False)) (F0 m pc ls [.long v]) :=
  W.lret hx hb hr (fun t ht _ => ⟨v, rfl, Option.some.inj hv, ht⟩) (fun q h => absurd h List.not_mem_nil) hdg hlocks
/-- ends of a method that writes -/
theorem rm_i {v : Int32} (hx : p.tables.exec = Jvm.exec) (hb : c.code = cc) (hr : meth.sig.returnType = some .int) (hlocks : meth.locks = false) (hP : va_P D vwCl wsw H) (hS : va_S A s.heap H locs) (hdg : decode cc pc = .ok (.ireturn, 1)) : W p l e R s m args below meth c H locs 0 0 (MQ below (QI D wsw A v) args s 0 0 A) (F0 m pc ls [.int v]) :=
  W.iret hx hb hr (fun t ht _ => ⟨⟨v, (), rfl, rfl, by show va_P D vwCl wsw t.heap; rw [ht]; exact hP⟩, hS.F ht⟩) hS.2.2 hdg hlocks
theorem rm_z {v : Int32} (hx : p.tables.exec = Jvm.exec) (hb : c.code = cc) (hr : meth.sig.returnType = some .boolean) (hlocks : meth.locks = false) (hn : narrow .boolean (.int v) = .int v) (hP : va_P D vwCl wsw H) (hS : va_S A s.heap H locs) (hdg : decode cc pc = .ok (.ireturn, 1)) : W p l e R s m args below meth c H locs 0 0 (MQ below (QI D wsw A v) args s 0 0 A) (F0 m pc ls [.int v]) :=
  W.zret hx hb hr hn (fun t ht _ => ⟨⟨v, (), rfl, rfl, by show va_P D vwCl wsw t.heap; rw [ht]; exact hP⟩, hS.F ht⟩) hS.2.2 hdg hlocks
theorem rm_v (hx : p.tables.exec = Jvm.exec) (hb : c.code = cc) (hr : meth.sig.returnType = none) (hlocks : meth.locks = false) (hP : va_P D vwCl wsw H) (hS : va_S A s.heap H locs) (hdg : decode cc pc = .ok (.return_, 1)) : W p l e R s m args below meth c H locs 0 0 (MQ below (QV D wsw A) args s 0 0 A) (F0 m pc ls []) :=
  W.vret hx hb hr (fun t ht _ => ⟨⟨(), rfl, trivial, by show va_P D vwCl wsw t.heap; rw [ht]; exact hP⟩, hS.F ht⟩) hS.2.2 hdg hlocks
/-- a call of a method that reads -/
theorem rcV {val : Int32} (q0 ci : Nat) (S : CallFix p m c cc nL s args Ts own) (hM : Met l y ws rm (PR D tys wsw (.ref b :: As)) (SI val) 0 0 (fun _ => False)) (cw : CallW R s args own C index y bytes maxL ret ws rm 0 0 n) (hK : va_K D vwCl tys s) (hP : va_P D vwCl wsw H) {fs : List Value} {T : u_T} {N : Nat} (hc : vwCl[ci]? = some (C, T, N)) (he : wsw[q0]? = some (b, .inr (ci, fs)))
    (hn : As.length = n) (hsize : ls.size = nL) (hstack : st = As.reverse ++ .ref b :: rest) (hW : (rest.map fun v => v.category).sum ≤ 8) (hdg : decode cc pc = .ok (.invokevirtual index, 3)) (hf : cells + 0 ≤ R.cells ∧ slots + 0 ≤ R.slots)
    (kk : W p l e R s m args below meth c H locs cells slots Q (F0 m (pc + 3) ls (.int val :: rest))) : W p l e R s m args below meth c H locs cells slots Q (F0 m pc ls st) := by
  subst hstack
  exact vp_callSi (W.runV (As := As) (rest := rest) S hM cw ⟨PR_fb, va_recv hK hP hc he, fun U hU hW => ⟨rfl, by rw [hU]; exact hP, va_K.moved hW.alike hK⟩⟩ rfl hn hsize rfl (lv_room hW) hdg hf) (fun r hr => by rw [hr]; exact kk)
theorem rcVl {val : Int64} (q0 ci : Nat) (S : CallFix p m c cc nL s args Ts own) (hM : Met l y ws rm (PR D tys wsw (.ref b :: As)) (SL val) 0 0 (fun _ => False)) (cw : CallW R s args own C index y bytes maxL ret ws rm 0 0 n) (hK : va_K D vwCl tys s) (hP : va_P D vwCl wsw H) {fs : List Value} {T : u_T} {N : Nat} (hc : vwCl[ci]? = some (C, T, N)) (he : wsw[q0]? = some (b, .inr (ci, fs)))
    (hn : As.length = n) (hsize : ls.size = nL) (hstack : st = As.reverse ++ .ref b :: rest) (hW : (rest.map fun v => v.category).sum ≤ 8) (hdg : decode cc pc = .ok (.invokevirtual index, 3)) (hf : cells + 0 ≤ R.cells ∧ slots + 0 ≤ R.slots)
    (kk : W p l e R s m args below meth c H locs cells slots Q (F0 m (pc + 3) ls (.long val :: rest))) : W p l e R s m args below meth c H locs cells slots Q (F0 m pc ls st) := by
  subst hstack
  exact vp_callSl (W.runV (As := As) (rest := rest) S hM cw ⟨PR_fb, va_recv hK hP hc he, fun U hU hW => ⟨rfl, by rw [hU]; exact hP, va_K.moved hW.alike hK⟩⟩ rfl hn hsize rfl (lv_room hW) hdg hf) (fun r hr => by rw [hr]; exact kk)
/-- a call of a static method over numbers -/
theorem rcS {val : Int32} (S : CallFix p m c cc nL s args Ts own) (hM : Met l y ws rm (PS As) (SI val) 0 0 (fun _ => False)) (cw : CallB R s args own index y bytes maxL ret ws rm 0 0 n ∧ (Cond.static y).before args s = true)
    (hn : As.length = n) (hsize : ls.size = nL) (hstack : st = As.reverse ++ rest) (hW : (rest.map fun v => v.category).sum ≤ 8) (hdg : decode cc pc = .ok (.invokestatic index, 3)) (hf : cells + 0 ≤ R.cells ∧ slots + 0 ≤ R.slots)
    (kk : W p l e R s m args below meth c H locs cells slots Q (F0 m (pc + 3) ls (.int val :: rest))) : W p l e R s m args below meth c H locs cells slots Q (F0 m pc ls st) := by
  subst hstack
  exact vp_callSi (W.runS (As := As) (rest := rest) S hM cw ⟨PS_fb, fun U _ _ => ⟨rfl, trivial⟩⟩ rfl hn hsize rfl (lv_room hW) hdg hf) (fun r hr => by rw [hr]; exact kk)
/-- calls of methods that write -/
theorem mcVi {val : Int32} (q0 ci : Nat) (S : CallFix p m c cc nL s args Ts own) (hM : Met l y ws rm (PR D tys wsw (.ref b :: As)) (QI D wsw' A val) 0 0 A) (cw : CallW R s args own C index y bytes maxL ret ws rm 0 0 n) (hK : va_K D vwCl tys s) (hP : va_P D vwCl wsw H) (hS : va_S A H0 H locs) {fs : List Value} {T : u_T} {N : Nat} (hc : vwCl[ci]? = some (C, T, N)) (he : wsw[q0]? = some (b, .inr (ci, fs)))
    (hn : As.length = n) (hsize : ls.size = nL) (hstack : st = As.reverse ++ .ref b :: rest) (hW : (rest.map fun v => v.category).sum ≤ 8) (hdg : decode cc pc = .ok (.invokevirtual index, 3)) (hf : cells + 0 ≤ R.cells ∧ slots + 0 ≤ R.slots)
    (kk : ∀ (H1 : Heap) (locs1 : List Loc), va_P D vwCl wsw' H1 → va_S A H0 H1 locs1 → W p l e R s m args below meth c H1 locs1 cells slots Q (F0 m (pc + 3) ls (.int val :: rest))) : W p l e R s m args below meth c H locs cells slots Q (F0 m pc ls st) := by
  subst hstack
  exact va_calli (va_runV (As := As) (rest := rest) S hM cw ⟨PR_fb, va_recv hK hP hc he, fun U hU hW => ⟨rfl, by rw [hU]; exact hP, va_K.moved hW.alike hK⟩⟩ rfl hn hsize rfl (lv_room hW) hdg hf) hS (fun q _ h => h) (fun q h => h) (fun r u t H1 locs1 ht _ hr hB _ _ hS1 => by rw [hr]; exact kk H1 locs1 (by rw [← ht]; exact hB) hS1)
theorem mcVv (q0 ci : Nat) (S : CallFix p m c cc nL s args Ts own) (hM : Met l y ws rm (PR D tys wsw (.ref b :: As)) (QV D wsw' A) 0 0 A) (cw : CallW R s args own C index y bytes maxL ret ws rm 0 0 n) (hK : va_K D vwCl tys s) (hP : va_P D vwCl wsw H) (hS : va_S A H0 H locs) {fs : List Value} {T : u_T} {N : Nat} (hc : vwCl[ci]? = some (C, T, N)) (he : wsw[q0]? = some (b, .inr (ci, fs)))
    (hn : As.length = n) (hsize : ls.size = nL) (hstack : st = As.reverse ++ .ref b :: rest) (hW : (rest.map fun v => v.category).sum ≤ 8) (hdg : decode cc pc = .ok (.invokevirtual index, 3)) (hf : cells + 0 ≤ R.cells ∧ slots + 0 ≤ R.slots)
    (kk : ∀ (H1 : Heap) (locs1 : List Loc), va_P D vwCl wsw' H1 → va_S A H0 H1 locs1 → W p l e R s m args below meth c H1 locs1 cells slots Q (F0 m (pc + 3) ls rest)) : W p l e R s m args below meth c H locs cells slots Q (F0 m pc ls st) := by
  subst hstack
  exact va_callv (va_runV (As := As) (rest := rest) S hM cw ⟨PR_fb, va_recv hK hP hc he, fun U hU hW => ⟨rfl, by rw [hU]; exact hP, va_K.moved hW.alike hK⟩⟩ rfl hn hsize rfl (lv_room hW) hdg hf) hS (fun q _ h => h) (fun q h => h) (fun u t H1 locs1 ht _ _ hB _ _ hS1 => kk H1 locs1 (by rw [← ht]; exact hB) hS1)
end BASE
theorem ne_ti {x k : Int32} {z : Int} (h : ¬ x = k) (hk : k.toInt = z) : ¬ x.toInt = z := fun e => h (Int32.toInt_inj.mp (e.trans hk.symm))
/-- the cells of the class -/
def wC (cI cB cZ : ClassId) (ad : Nat → Nat) (cBad cFul cCnt cOpc cStp cTsz cRcn cPlc cFlt cVil cLsz : Int32) (cRts cLns cOpn cGps cTrl cWgt cRch cByt cWds cFst cSnd cSgn : Nat → Int32) : va_W := [
  (ad 0, .inr (7, [.ref (ad 1), .ref (ad 6), .ref (ad 9), .ref (ad 11), .ref (ad 13), .ref (ad 17), .ref (ad 19), .int cBad, .int cFul])),
  (ad 1, .inr (1, [.ref (ad 2), .ref (ad 3), .ref (ad 4), .ref (ad 5), .int cCnt, .int cOpc])),
  (ad 2, .inl (cI, 60, .inl cRts)),
  (ad 3, .inl (cI, 60, .inl cLns)),
  (ad 4, .inl (cZ, 60, .inl cOpn)),
  (ad 5, .inl (cI, 3600, .inl cGps)),
  (ad 6, .inr (6, [.ref (ad 1), .ref (ad 7), .int cStp, .ref (ad 8)])),
  (ad 7, .inl (cI, 60, .inl cTrl)),
  (ad 8, .inl (cI, 60, .inl cWgt)),
  (ad 9, .inr (0, [.ref (ad 1), .ref (ad 10)])),
  (ad 10, .inl (cI, 60, .inl cRch)),
  (ad 11, .inr (5, [.ref (ad 12), .int cTsz])),
  (ad 12, .inl (cB, 120, .inl cByt)),
  (ad 13, .inr (3, [.ref (ad 14), .ref (ad 15), .ref (ad 16), .int cRcn, .ref (ad 11), .int cPlc, .int cFlt, .int cVil])),
  (ad 14, .inl (cI, 30, .inl cWds)),
  (ad 15, .inl (cI, 30, .inl cFst)),
  (ad 16, .inl (cI, 30, .inl cSnd)),
  (ad 17, .inr (2, [.ref (ad 18), .int cLsz])),
  (ad 18, .inl (cB, 400, .inl cSgn)),
  (ad 19, .inr (4, [.ref (ad 1), .ref (ad 6), .ref (ad 9), .ref (ad 17)]))]

theorem wC_D {A : Nat → Prop} {ad : Nat → Nat} (h : AD A ad 20) {cI cB cZ : ClassId} {cBad cFul cCnt cOpc cStp cTsz cRcn cPlc cFlt cVil cLsz : Int32} {cRts cLns cOpn cGps cTrl cWgt cRch cByt cWds cFst cSnd cSgn : Nat → Int32} : va_D A (wC cI cB cZ ad cBad cFul cCnt cOpc cStp cTsz cRcn cPlc cFlt cVil cLsz cRts cLns cOpn cGps cTrl cWgt cRch cByt cWds cFst cSnd cSgn) := AD_D h rfl
/-- the cells of the reference -/
def wM (cI cB cZ : ClassId) (bd : Nat → Nat) (mVil mBad mFul mLen mSig mWay mLef mSpo mBeg mTok mVal mWor mNum mThe : Int32) (mRts mLns mOpn mTxt mAns mWys mSiz mNbs : Nat → Int32) : va_W := [
  (bd 0, .inr (8, [.int mVil, .ref (bd 1), .ref (bd 2), .ref (bd 3), .int mBad, .int mFul, .int mLen, .ref (bd 4), .int mSig, .ref (bd 5), .int mWay, .ref (bd 6), .ref (bd 7), .int mLef, .int mSpo, .int mBeg, .int mTok, .int mVal, .int mWor, .int mNum, .ref (bd 8), .int mThe])),
  (bd 1, .inl (cI, 60, .inl mRts)),
  (bd 2, .inl (cI, 60, .inl mLns)),
  (bd 3, .inl (cZ, 60, .inl mOpn)),
  (bd 4, .inl (cI, 120, .inl mTxt)),
  (bd 5, .inl (cI, 400, .inl mAns)),
  (bd 6, .inl (cI, 60, .inl mWys)),
  (bd 7, .inl (cI, 60, .inl mSiz)),
  (bd 8, .inl (cI, 2, .inl mNbs))]
theorem wM_D {A : Nat → Prop} {bd : Nat → Nat} (h : AD A bd 9) {cI cB cZ : ClassId} {mVil mBad mFul mLen mSig mWay mLef mSpo mBeg mTok mVal mWor mNum mThe : Int32} {mRts mLns mOpn mTxt mAns mWys mSiz mNbs : Nat → Int32} : va_D A (wM cI cB cZ bd mVil mBad mFul mLen mSig mWay mLef mSpo mBeg mTok mVal mWor mNum mThe mRts mLns mOpn mTxt mAns mWys mSiz mNbs) := AD_D h rfl
