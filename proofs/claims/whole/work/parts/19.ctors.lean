/-! Constructors. -/
theorem D_AD {A : Nat → Prop} {ad : Nat → Nat} {n : Nat} {ws : va_W} (h : va_D A ws) (hw : ws.map Prod.fst = (List.range n).map ad) : AD A ad n := by
  have key : ∀ i : Nat, i < n → ∃ q : Nat × va_E, ws[i]? = some q ∧ q.1 = ad i := by
    intro i hi
    have h1 : (ws.map Prod.fst)[i]? = some (ad i) := by rw [hw, List.getElem?_map, List.getElem?_range hi]; rfl
    rw [List.getElem?_map] at h1
    cases hq : ws[i]? with
    | none => rw [hq] at h1; exact absurd h1 (by simp)
    | some q => rw [hq] at h1; exact ⟨q, rfl, Option.some.inj h1⟩
  refine ⟨fun i j hi hj e => ?_, fun i hi => ?_⟩
  · obtain ⟨p, h1, h2⟩ := key i hi
    obtain ⟨q, h3, h4⟩ := key j hj
    exact h.1 i j p q h1 h3 (by rw [h2, h4, e])
  · obtain ⟨p, h1, h2⟩ := key i hi
    rw [← h2]
    exact h.2 i p h1
def wL (cI cB cZ : ClassId) (ld : Nat → Nat) (cCnt cOpc : Int32) (cRts cLns cOpn cGps : Nat → Int32) : va_W := [
  (ld 0, .inr (1, [.ref (ld 1), .ref (ld 2), .ref (ld 3), .ref (ld 4), .int cCnt, .int cOpc])),
  (ld 1, .inl (cI, 60, .inl cRts)),
  (ld 2, .inl (cI, 60, .inl cLns)),
  (ld 3, .inl (cZ, 60, .inl cOpn)),
  (ld 4, .inl (cI, 3600, .inl cGps))]
theorem wL_D {A : Nat → Prop} {ld : Nat → Nat} (h : AD A ld 5) {cI cB cZ : ClassId} {cCnt cOpc : Int32} {cRts cLns cOpn cGps : Nat → Int32} : va_D A (wL cI cB cZ ld cCnt cOpc cRts cLns cOpn cGps) := AD_D h rfl
def z0 : Nat → Int32 := fun _ => 0
def PC (D : va_G) (tys : List (ClassId × FieldType)) (ws : va_W) (sz : Nat) (av : List Value) : Array Value → State → Prop := va_Pc av (fun U => U.heap.size = sz ∧ va_P D vwCl ws U.heap ∧ va_K D vwCl tys U ∧ va_D (fun _ => True) ws)
theorem PC_fb {D : va_G} {tys : List (ClassId × FieldType)} {ws : va_W} {sz : Nat} {av : List Value} : FrameBlind (PC D tys ws sz av) := fun a U g mk q => by
  obtain ⟨q0, q1, qP, qK, qD⟩ := q
  exact ⟨q0, q1, qP, va_K.moved (u := U) (U := U.calling g mk a) (Vm.Alike.refl U.vm) qK, qD⟩
def QC (D : va_G) (wn : (Nat → Nat) → va_W) (A : Nat → Prop) : Array Value → State → Outcome → State → Prop := va_Qv (S := Nat → Nat) (fun _ => True) (fun u t => va_P D vwCl (wn u) t.heap ∧ va_D A (wn u)) A
def rmC (f lo mc ms : Nat) : Room := { frames := f, cells := mc, slots := ms, locals := lo }
theorem mk_metI {l : Launch} {y : MethodName} {ws ws' : List Cond} {rm : Room} {av : List Value} {Bp : State → Prop} {Qc : Array Value → State → Outcome → State → Prop} {mc ms : Nat} {free : Addr → Prop} (cc : ByteArray) (maxL : Nat) (ret : Option FieldType)
    (hy : plainName y.cls = true) (hw : ws = Cond.code y cc maxL ret :: ws') (hlen : (lg_sl av).length ≤ maxL)
    (body : ∀ (p : Program) (e : Env) (s : State) (m : MethodId) (args : Array Value) (below : List Frame) (meth : Method) (c : Code) (ls : Array Slot), p.tables.exec = Jvm.exec → c.code = cc → meth.sig.returnType = ret → meth.locks = false → c.maxLocals = maxL → s.vm.findClass y.cls = some m.cls → (∀ w ∈ ws, w.before args s = true) → meth.name = y.name → Bp s → lv_has ls maxL (lv_args 0 av) → W p l e rm s m args below meth c s.heap [] 0 0 (MQ below Qc args s mc ms free) (F0 m 0 ls [])) :
    Met l y ws rm (va_Pc av Bp) Qc mc ms free := by
  refine Met.ofW (cc := cc) (maxL := maxL) (ret := ret) hy hw ?_
  intro p e s m args below meth c s₁ B hml hv
  obtain ⟨rfl, hB⟩ := hv
  have hl := lv_entry av (n := maxL) hlen
  rw [lg_entry_eq]
  exact body p e s m _ below meth c _ B.exec B.bytes B.returns B.notSynchronized hml (findClass_of_methodNamed B.named) (atoms_spec (ws := ws) B.pre) (name_of_methodNamed B.named B.method).1 hB hl
section CT
variable {p : Program} {l : Launch} {e : Env} {R : Room} {s : State} {m : MethodId} {args : Array Value} {below : List Frame} {meth : Method} {c : Code} {H : Heap} {locs : List Loc} {cells slots : Nat} {Q : State → Prop}
variable {D : va_G} {cI cB cZ : ClassId} {wsw : va_W} {A : Nat → Prop} {H0 : Heap} {cc : ByteArray} {pc : Nat} {rest : List Value} {ls : Array Slot}
theorem na_I (hx : p.tables.exec = Jvm.exec) (hb : c.code = cc) (harr : (Cond.arrayClass .int).before args s = true) (hK : va_K D vwCl (tyL cI cB cZ) s) (hP : va_P D vwCl wsw H) (hD : va_D A wsw) (hS : va_S A H0 H locs) (hA : ∀ q, H0.size ≤ q → A q)
    {n : Int32} {N' : Nat} (hn : ¬ n < 0) (hN : n.toNatClampNeg = N') (hbytes : N' * componentBytes .int ≤ 536870912) (hcells : cells + 1 ≤ R.cells) (hslots : slots + N' ≤ R.slots) (hdg : decode cc pc = .ok (.newarray .int, 2))
    (kk : ∀ (q : Nat) (H1 : Heap), va_P D vwCl (wsw ++ [(q, .inl (cI, N', .inl z0))]) H1 → va_D A (wsw ++ [(q, .inl (cI, N', .inl z0))]) → va_S A H0 H1 locs → W p l e R s m args below meth c H1 locs (cells + 1) (slots + N') Q (F0 m (pc + 2) ls (.ref q :: rest))) : W p l e R s m args below meth c H locs cells slots Q (F0 m pc ls (.int n :: rest)) := by
  refine va_newa (atype := .int) (ty := .int) (a0 := (N', .inl z0)) hx hb harr rfl hK hP hD hS hA (fun cA => rfl) hn hN hbytes hcells hslots hdg (fun q cA H1 hK1 hP1 hD1 hS1 => ?_)
  have e1 : s.vm.findClass ("[" ++ FieldType.int.toString) = some cA := (hK1.2 3 (cA, .int) rfl).2
  have e2 : s.vm.findClass ("[" ++ FieldType.int.toString) = some cI := (hK.2 0 (cI, .int) rfl).2
  obtain rfl : cI = cA := Option.some.inj (e2.symm.trans e1)
  exact kk q H1 hP1 hD1 hS1
theorem na_B (hx : p.tables.exec = Jvm.exec) (hb : c.code = cc) (harr : (Cond.arrayClass .byte).before args s = true) (hK : va_K D vwCl (tyL cI cB cZ) s) (hP : va_P D vwCl wsw H) (hD : va_D A wsw) (hS : va_S A H0 H locs) (hA : ∀ q, H0.size ≤ q → A q)
    {n : Int32} {N' : Nat} (hn : ¬ n < 0) (hN : n.toNatClampNeg = N') (hbytes : N' * componentBytes .byte ≤ 536870912) (hcells : cells + 1 ≤ R.cells) (hslots : slots + N' ≤ R.slots) (hdg : decode cc pc = .ok (.newarray .byte, 2))
    (kk : ∀ (q : Nat) (H1 : Heap), va_P D vwCl (wsw ++ [(q, .inl (cB, N', .inl z0))]) H1 → va_D A (wsw ++ [(q, .inl (cB, N', .inl z0))]) → va_S A H0 H1 locs → W p l e R s m args below meth c H1 locs (cells + 1) (slots + N') Q (F0 m (pc + 2) ls (.ref q :: rest))) : W p l e R s m args below meth c H locs cells slots Q (F0 m pc ls (.int n :: rest)) := by
  refine va_newa (atype := .byte) (ty := .byte) (a0 := (N', .inl z0)) hx hb harr rfl hK hP hD hS hA (fun cA => rfl) hn hN hbytes hcells hslots hdg (fun q cA H1 hK1 hP1 hD1 hS1 => ?_)
  have e1 : s.vm.findClass ("[" ++ FieldType.byte.toString) = some cA := (hK1.2 3 (cA, .byte) rfl).2
  have e2 : s.vm.findClass ("[" ++ FieldType.byte.toString) = some cB := (hK.2 1 (cB, .byte) rfl).2
  obtain rfl : cB = cA := Option.some.inj (e2.symm.trans e1)
  exact kk q H1 hP1 hD1 hS1
theorem na_Z (hx : p.tables.exec = Jvm.exec) (hb : c.code = cc) (harr : (Cond.arrayClass .boolean).before args s = true) (hK : va_K D vwCl (tyL cI cB cZ) s) (hP : va_P D vwCl wsw H) (hD : va_D A wsw) (hS : va_S A H0 H locs) (hA : ∀ q, H0.size ≤ q → A q)
    {n : Int32} {N' : Nat} (hn : ¬ n < 0) (hN : n.toNatClampNeg = N') (hbytes : N' * componentBytes .boolean ≤ 536870912) (hcells : cells + 1 ≤ R.cells) (hslots : slots + N' ≤ R.slots) (hdg : decode cc pc = .ok (.newarray .boolean, 2))
    (kk : ∀ (q : Nat) (H1 : Heap), va_P D vwCl (wsw ++ [(q, .inl (cZ, N', .inl z0))]) H1 → va_D A (wsw ++ [(q, .inl (cZ, N', .inl z0))]) → va_S A H0 H1 locs → W p l e R s m args below meth c H1 locs (cells + 1) (slots + N') Q (F0 m (pc + 2) ls (.ref q :: rest))) : W p l e R s m args below meth c H locs cells slots Q (F0 m pc ls (.int n :: rest)) := by
  refine va_newa (atype := .boolean) (ty := .boolean) (a0 := (N', .inl z0)) hx hb harr rfl hK hP hD hS hA (fun cA => rfl) hn hN hbytes hcells hslots hdg (fun q cA H1 hK1 hP1 hD1 hS1 => ?_)
  have e1 : s.vm.findClass ("[" ++ FieldType.boolean.toString) = some cA := (hK1.2 3 (cA, .boolean) rfl).2
  have e2 : s.vm.findClass ("[" ++ FieldType.boolean.toString) = some cZ := (hK.2 2 (cZ, .boolean) rfl).2
  obtain rfl : cZ = cA := Option.some.inj (e2.symm.trans e1)
  exact kk q H1 hP1 hD1 hS1
end CT
set_option maxRecDepth 100000 in
set_option maxHeartbeats 4000000 in
theorem ctL1_empty (l : Launch) (D : va_G) (cI cB cZ : ClassId) (ld : Nat → Nat) (A : Nat → Prop) (hAD : AD A ld 5) (cCnt cOpc : Int32) (cRts cLns cOpn cGps : Nat → Int32)  (rv : Int32) (zcCnt : Int32) (zcOpc : Int32) (zcRts : Nat → Int32) (zcLns : Nat → Int32) (zcOpn : Nat → Int32) (hf : fX1_empty cCnt cOpc cRts cLns cOpn = some (rv, zcCnt, zcOpc, zcRts, zcLns, zcOpn)) : Met l yX1_empty wsX1_empty (rmN 0 0) (PR D (tyL cI cB cZ) (wL cI cB cZ ld cCnt cOpc cRts cLns cOpn cGps) [.ref (ld 0)]) (QI D (wL cI cB cZ ld zcCnt zcOpc zcRts zcLns zcOpn cGps) A rv) 0 0 A := by
  refine mk_met cX1_empty 2 (some .int) (by decide) rfl (Nat.le_of_ble_eq_true rfl) ?_
  intro p e s m args below meth c ls hx hb hr hlk hml hown hts hPK hl
  obtain ⟨hP, hK⟩ := hPK
  replace hl : lv_has ls 2 [(0, .ref (ld 0))] := hl
  replace hown : s.vm.findClass RX1 = some m.cls := hown
  have hiX1 : ∀ w ∈ wsX10, w ∈ wsX1_empty := fun w h => List.mem_cons_of_mem _ (List.mem_append_right _ h)
  have hS : va_S A s.heap s.heap [] := va_S.rf
  unfold fX1_empty at hf
  refine lv_aload_n hx hb dX1_empty_0 rfl (lv_at hl 0 rfl) ?_
  refine va_get (ci := 1) (v := .int cCnt) (C := RX1) (T := TX1) (N := 6) hx hb hts hiX1 hown hK hP 0 rfl rfl 4 (by decide) (hts _ (List.mem_of_getElem? (i := 1) rfl)) (fun _ h9 => h9) rfl dX1_empty_1 ?_
  refine lv_istore_n (lv' := [(1, .int cCnt), (0, .ref (ld 0))]) hx hb dX1_empty_4 rfl hl (by decide) rfl (fun ls hl => ?_)
  refine lv_aload_n hx hb dX1_empty_5 rfl (lv_at hl 1 rfl) ?_
  refine lv_iconst (v := (1 : Int32)) hx hb dX1_empty_6 (by decide) ?_
  refine va_put (ci := 1) (v := .int (1 : Int32)) (ty := .int) (C := RX1) (T := TX1) (N := 6) hx hb hts hiX1 tyX1 tyX1_ok nmX1 hown hK hP (wL_D hAD) hS 0 rfl rfl 4 (by decide) (hts _ (List.mem_of_getElem? (i := 1) rfl)) (fun _ h9 => h9) rfl (tyX1_ok 4 (by decide)) rfl rfl (Nat.le_of_ble_eq_true rfl) dX1_empty_7 (fun H locs hP _ hS => ?_)
  have hP : va_P D vwCl (wL cI cB cZ ld (1 : Int32) cOpc cRts cLns cOpn cGps) H := hP
  refine lv_aload_n hx hb dX1_empty_10 rfl (lv_at hl 1 rfl) ?_
  refine lv_iconst (v := (0 : Int32)) hx hb dX1_empty_11 (by decide) ?_
  refine va_put (ci := 1) (v := .int (0 : Int32)) (ty := .int) (C := RX1) (T := TX1) (N := 6) hx hb hts hiX1 tyX1 tyX1_ok nmX1 hown hK hP (wL_D hAD) hS 0 rfl rfl 5 (by decide) (hts _ (List.mem_of_getElem? (i := 2) rfl)) (fun _ h9 => h9) rfl (tyX1_ok 5 (by decide)) rfl rfl (Nat.le_of_ble_eq_true rfl) dX1_empty_12 (fun H locs hP _ hS => ?_)
  have hP : va_P D vwCl (wL cI cB cZ ld (1 : Int32) (0 : Int32) cRts cLns cOpn cGps) H := hP
  refine lv_aload_n hx hb dX1_empty_15 rfl (lv_at hl 1 rfl) ?_
  refine va_get (ci := 1) (v := .ref (ld 1)) (C := RX1) (T := TX1) (N := 6) hx hb hts hiX1 hown hK hP 0 rfl rfl 0 (by decide) (hts _ (List.mem_of_getElem? (i := 3) rfl)) (fun _ h9 => h9) rfl dX1_empty_16 ?_
  refine lv_iconst (v := (0 : Int32)) hx hb dX1_empty_19 (by decide) ?_
  refine lv_iconst (v := (-1 : Int32)) hx hb dX1_empty_20 (by decide) ?_
  obtain ⟨hg, hf⟩ := og hf
  refine va_iast hx hb hK hP (wL_D hAD) hS 1 0 rfl rfl (gI_in hg) dX1_empty_21 (fun H locs hP _ hS => ?_)
  have hP : va_P D vwCl (wL cI cB cZ ld (1 : Int32) (0 : Int32) (upd cRts (0 : Int32).toNatClampNeg (-1 : Int32)) cLns cOpn cGps) H := hP
  refine lv_aload_n hx hb dX1_empty_22 rfl (lv_at hl 1 rfl) ?_
  refine va_get (ci := 1) (v := .ref (ld 2)) (C := RX1) (T := TX1) (N := 6) hx hb hts hiX1 hown hK hP 0 rfl rfl 1 (by decide) (hts _ (List.mem_of_getElem? (i := 4) rfl)) (fun _ h9 => h9) rfl dX1_empty_23 ?_
  refine lv_iconst (v := (0 : Int32)) hx hb dX1_empty_26 (by decide) ?_
  refine lv_iconst (v := (0 : Int32)) hx hb dX1_empty_27 (by decide) ?_
  obtain ⟨hg, hf⟩ := og hf
  refine va_iast hx hb hK hP (wL_D hAD) hS 2 0 rfl rfl (gI_in hg) dX1_empty_28 (fun H locs hP _ hS => ?_)
  have hP : va_P D vwCl (wL cI cB cZ ld (1 : Int32) (0 : Int32) (upd cRts (0 : Int32).toNatClampNeg (-1 : Int32)) (upd cLns (0 : Int32).toNatClampNeg (0 : Int32)) cOpn cGps) H := hP
  refine lv_aload_n hx hb dX1_empty_29 rfl (lv_at hl 1 rfl) ?_
  refine va_get (ci := 1) (v := .ref (ld 3)) (C := RX1) (T := TX1) (N := 6) hx hb hts hiX1 hown hK hP 0 rfl rfl 2 (by decide) (hts _ (List.mem_of_getElem? (i := 5) rfl)) (fun _ h9 => h9) rfl dX1_empty_30 ?_
  refine lv_iconst (v := (0 : Int32)) hx hb dX1_empty_33 (by decide) ?_
  refine lv_iconst (v := (0 : Int32)) hx hb dX1_empty_34 (by decide) ?_
  obtain ⟨hg, hf⟩ := og hf
  refine va_zast hx hb hK hP (wL_D hAD) hS 3 2 rfl rfl (gI_in hg) dX1_empty_35 (fun H locs hP _ hS => ?_)
  have hP : va_P D vwCl (wL cI cB cZ ld (1 : Int32) (0 : Int32) (upd cRts (0 : Int32).toNatClampNeg (-1 : Int32)) (upd cLns (0 : Int32).toNatClampNeg (0 : Int32)) (upd cOpn (0 : Int32).toNatClampNeg (vp_nar .boolean (0 : Int32))) cGps) H := hP
  refine lv_iload_n hx hb dX1_empty_36 rfl (lv_at hl 0 rfl) ?_
  obtain ⟨e0, hz1⟩ := Prod.mk.inj (Option.some.inj hf)
  obtain ⟨e1, hz2⟩ := Prod.mk.inj hz1
  obtain ⟨e2, hz3⟩ := Prod.mk.inj hz2
  obtain ⟨e3, hz4⟩ := Prod.mk.inj hz3
  obtain ⟨e4, hz5⟩ := Prod.mk.inj hz4
  subst e0
  subst e1
  subst e2
  subst e3
  subst e4
  subst hz5
  exact rm_i hx hb hr hlk hP hS dX1_empty_37
set_option maxRecDepth 100000 in
set_option maxHeartbeats 4000000 in
theorem ciX1 (l : Launch) (D : va_G) (cI cB cZ : ClassId) (h sz : Nat) : Met l yX1_init wsX1_init (rmC 1 21 4 3780) (PC D (tyL cI cB cZ) [(h, .inr (1, [.null, .null, .null, .null, .int 0, .int 0]))] sz [.ref h]) (QC D (fun u => [(h, .inr (1, [.ref (u 0), .ref (u 1), .ref (u 2), .ref (u 3), .int 1, .int 0])), ((u 0), .inl (cI, 60, .inl (upd z0 (0 : Int32).toNatClampNeg (-1)))), ((u 1), .inl (cI, 60, .inl (upd z0 (0 : Int32).toNatClampNeg 0))), ((u 2), .inl (cZ, 60, .inl (upd z0 (0 : Int32).toNatClampNeg (vp_nar .boolean 0)))), ((u 3), .inl (cI, 3600, .inl z0))]) (va_A [(h, .inr (1, [.null, .null, .null, .null, .int 0, .int 0]))] sz)) 4 3780 (va_A [(h, .inr (1, [.null, .null, .null, .null, .int 0, .int 0]))] sz) := by
  refine mk_metI cX1_init 1 none (by decide) rfl (Nat.le_of_ble_eq_true rfl) ?_
  intro p e s m args below meth c ls hx hb hr hlk hml hown hts hin hPK hl
  obtain ⟨hsz, hP, hK, hD0⟩ := hPK
  subst hsz
  replace hl : lv_has ls 1 [(0, .ref h)] := hl
  replace hown : s.vm.findClass RX1 = some m.cls := hown
  replace hin : meth.name = "<init>" := hin
  have hiX1 : ∀ w ∈ wsX10, w ∈ wsX1_init := fun w h => List.mem_cons_of_mem _ (List.mem_append_right _ h)
  have hD := hD0.self (sz := s.heap.size)
  generalize hAe : va_A [(h, .inr (1, [.null, .null, .null, .null, .int 0, .int 0]))] s.heap.size = A at hD ⊢
  have hA : ∀ q : Nat, s.heap.size ≤ q → A q := fun q h => by rw [← hAe]; exact Or.inr h
  have hS : va_S A s.heap s.heap [] := va_S.rf
  have hP : va_P D vwCl [(h, .inr (1, [.null, .null, .null, .null, .int 0, .int 0]))] s.heap := hP
  refine lv_aload_n hx hb dX1_init_0 rfl (lv_at hl 0 rfl) ?_
  refine W.objInit hx hb hown (hts _ (List.mem_of_getElem? (i := 1) rfl)) (hts _ (List.mem_of_getElem? (i := 2) rfl)) (hts _ (List.mem_of_getElem? (i := 3) rfl)) rfl (by rw [hml]; exact hl.1) rfl dX1_init_1 (Nat.le_of_ble_eq_true rfl) (Nat.le_of_ble_eq_true rfl) ?_
  refine W.eq (g2 := F0 m 4 ls []) rfl ?_
  refine lv_aload_n hx hb dX1_init_4 rfl (lv_at hl 0 rfl) ?_
  refine lv_bipush (v := (60 : Int32)) hx hb dX1_init_5 (by decide) ?_
  refine na_I (N' := 60) hx hb (hts _ (List.mem_of_getElem? (i := 4) rfl)) hK hP hD hS hA (by decide) (by decide) (Nat.le_of_ble_eq_true rfl) (Nat.le_of_ble_eq_true rfl) (Nat.le_of_ble_eq_true rfl) dX1_init_7 (fun q1 H hP hD hS => ?_)
  have hP : va_P D vwCl [(h, .inr (1, [.null, .null, .null, .null, .int 0, .int 0])), (q1, .inl (cI, 60, .inl z0))] H := hP
  have hD : va_D A [(h, .inr (1, [.null, .null, .null, .null, .int 0, .int 0])), (q1, .inl (cI, 60, .inl z0))] := hD
  refine va_putF (ci := 1) (v := .ref q1) (ty := .array .int) (C := RX1) (T := TX1) (N := 6) hx hb hts hiX1 tyX1 tyX1_ok nmX1 hown hK hP hD hS 0 rfl rfl 0 (by decide) (hts _ (List.mem_of_getElem? (i := 5) rfl)) (fun _ h9 => h9) rfl hin rfl (tyX1_ok 0 (by decide)) rfl rfl (Nat.le_of_ble_eq_true rfl) dX1_init_9 (fun H locs hP hD hS => ?_)
  have hP : va_P D vwCl [(h, .inr (1, [.ref q1, .null, .null, .null, .int 0, .int 0])), (q1, .inl (cI, 60, .inl z0))] H := hP
  have hD : va_D A [(h, .inr (1, [.ref q1, .null, .null, .null, .int 0, .int 0])), (q1, .inl (cI, 60, .inl z0))] := hD
  refine lv_aload_n hx hb dX1_init_12 rfl (lv_at hl 0 rfl) ?_
  refine lv_bipush (v := (60 : Int32)) hx hb dX1_init_13 (by decide) ?_
  refine na_I (N' := 60) hx hb (hts _ (List.mem_of_getElem? (i := 4) rfl)) hK hP hD hS hA (by decide) (by decide) (Nat.le_of_ble_eq_true rfl) (Nat.le_of_ble_eq_true rfl) (Nat.le_of_ble_eq_true rfl) dX1_init_15 (fun q2 H hP hD hS => ?_)
  have hP : va_P D vwCl [(h, .inr (1, [.ref q1, .null, .null, .null, .int 0, .int 0])), (q1, .inl (cI, 60, .inl z0)), (q2, .inl (cI, 60, .inl z0))] H := hP
  have hD : va_D A [(h, .inr (1, [.ref q1, .null, .null, .null, .int 0, .int 0])), (q1, .inl (cI, 60, .inl z0)), (q2, .inl (cI, 60, .inl z0))] := hD
  refine va_putF (ci := 1) (v := .ref q2) (ty := .array .int) (C := RX1) (T := TX1) (N := 6) hx hb hts hiX1 tyX1 tyX1_ok nmX1 hown hK hP hD hS 0 rfl rfl 1 (by decide) (hts _ (List.mem_of_getElem? (i := 6) rfl)) (fun _ h9 => h9) rfl hin rfl (tyX1_ok 1 (by decide)) rfl rfl (Nat.le_of_ble_eq_true rfl) dX1_init_17 (fun H locs hP hD hS => ?_)
  have hP : va_P D vwCl [(h, .inr (1, [.ref q1, .ref q2, .null, .null, .int 0, .int 0])), (q1, .inl (cI, 60, .inl z0)), (q2, .inl (cI, 60, .inl z0))] H := hP
  have hD : va_D A [(h, .inr (1, [.ref q1, .ref q2, .null, .null, .int 0, .int 0])), (q1, .inl (cI, 60, .inl z0)), (q2, .inl (cI, 60, .inl z0))] := hD
  refine lv_aload_n hx hb dX1_init_20 rfl (lv_at hl 0 rfl) ?_
  refine lv_bipush (v := (60 : Int32)) hx hb dX1_init_21 (by decide) ?_
  refine na_Z (N' := 60) hx hb (hts _ (List.mem_of_getElem? (i := 7) rfl)) hK hP hD hS hA (by decide) (by decide) (Nat.le_of_ble_eq_true rfl) (Nat.le_of_ble_eq_true rfl) (Nat.le_of_ble_eq_true rfl) dX1_init_23 (fun q3 H hP hD hS => ?_)
  have hP : va_P D vwCl [(h, .inr (1, [.ref q1, .ref q2, .null, .null, .int 0, .int 0])), (q1, .inl (cI, 60, .inl z0)), (q2, .inl (cI, 60, .inl z0)), (q3, .inl (cZ, 60, .inl z0))] H := hP
  have hD : va_D A [(h, .inr (1, [.ref q1, .ref q2, .null, .null, .int 0, .int 0])), (q1, .inl (cI, 60, .inl z0)), (q2, .inl (cI, 60, .inl z0)), (q3, .inl (cZ, 60, .inl z0))] := hD
  refine va_putF (ci := 1) (v := .ref q3) (ty := .array .boolean) (C := RX1) (T := TX1) (N := 6) hx hb hts hiX1 tyX1 tyX1_ok nmX1 hown hK hP hD hS 0 rfl rfl 2 (by decide) (hts _ (List.mem_of_getElem? (i := 8) rfl)) (fun _ h9 => h9) rfl hin rfl (tyX1_ok 2 (by decide)) rfl rfl (Nat.le_of_ble_eq_true rfl) dX1_init_25 (fun H locs hP hD hS => ?_)
  have hP : va_P D vwCl [(h, .inr (1, [.ref q1, .ref q2, .ref q3, .null, .int 0, .int 0])), (q1, .inl (cI, 60, .inl z0)), (q2, .inl (cI, 60, .inl z0)), (q3, .inl (cZ, 60, .inl z0))] H := hP
  have hD : va_D A [(h, .inr (1, [.ref q1, .ref q2, .ref q3, .null, .int 0, .int 0])), (q1, .inl (cI, 60, .inl z0)), (q2, .inl (cI, 60, .inl z0)), (q3, .inl (cZ, 60, .inl z0))] := hD
  refine lv_aload_n hx hb dX1_init_28 rfl (lv_at hl 0 rfl) ?_
  refine lv_sipush (v := (3600 : Int32)) hx hb dX1_init_29 (by decide) ?_
  refine na_I (N' := 3600) hx hb (hts _ (List.mem_of_getElem? (i := 4) rfl)) hK hP hD hS hA (by decide) (by decide) (Nat.le_of_ble_eq_true rfl) (Nat.le_of_ble_eq_true rfl) (Nat.le_of_ble_eq_true rfl) dX1_init_32 (fun q4 H hP hD hS => ?_)
  have hP : va_P D vwCl [(h, .inr (1, [.ref q1, .ref q2, .ref q3, .null, .int 0, .int 0])), (q1, .inl (cI, 60, .inl z0)), (q2, .inl (cI, 60, .inl z0)), (q3, .inl (cZ, 60, .inl z0)), (q4, .inl (cI, 3600, .inl z0))] H := hP
  have hD : va_D A [(h, .inr (1, [.ref q1, .ref q2, .ref q3, .null, .int 0, .int 0])), (q1, .inl (cI, 60, .inl z0)), (q2, .inl (cI, 60, .inl z0)), (q3, .inl (cZ, 60, .inl z0)), (q4, .inl (cI, 3600, .inl z0))] := hD
  refine va_putF (ci := 1) (v := .ref q4) (ty := .array .int) (C := RX1) (T := TX1) (N := 6) hx hb hts hiX1 tyX1 tyX1_ok nmX1 hown hK hP hD hS 0 rfl rfl 3 (by decide) (hts _ (List.mem_of_getElem? (i := 9) rfl)) (fun _ h9 => h9) rfl hin rfl (tyX1_ok 3 (by decide)) rfl rfl (Nat.le_of_ble_eq_true rfl) dX1_init_34 (fun H locs hP hD hS => ?_)
  have hP : va_P D vwCl [(h, .inr (1, [.ref q1, .ref q2, .ref q3, .ref q4, .int 0, .int 0])), (q1, .inl (cI, 60, .inl z0)), (q2, .inl (cI, 60, .inl z0)), (q3, .inl (cZ, 60, .inl z0)), (q4, .inl (cI, 3600, .inl z0))] H := hP
  have hD : va_D A [(h, .inr (1, [.ref q1, .ref q2, .ref q3, .ref q4, .int 0, .int 0])), (q1, .inl (cI, 60, .inl z0)), (q2, .inl (cI, 60, .inl z0)), (q3, .inl (cZ, 60, .inl z0)), (q4, .inl (cI, 3600, .inl z0))] := hD
  refine lv_aload_n hx hb dX1_init_37 rfl (lv_at hl 0 rfl) ?_
  have hld : AD A (fun i => [h, q1, q2, q3, q4].getD i 0) 5 := D_AD hD rfl
  replace hP : va_P D vwCl (wL cI cB cZ (fun i => [h, q1, q2, q3, q4].getD i 0) 0 0 z0 z0 z0 z0) H := hP
  refine mcVi 0 1 (As := []) (rest := []) ⟨hx, hb, hml, hown, hts⟩ (ctL1_empty l D cI cB cZ (fun i => [h, q1, q2, q3, q4].getD i 0) A hld 0 0 z0 z0 z0 z0 _ _ _ _ _ _ (rfl : fX1_empty 0 0 z0 z0 z0 = some (0, 1, 0, upd z0 (0 : Int32).toNatClampNeg (-1), upd z0 (0 : Int32).toNatClampNeg 0, upd z0 (0 : Int32).toNatClampNeg (vp_nar .boolean 0)))) (cwV 0 hts gX1_init_X1_empty rfl rfl rfl (by decide +kernel) ⟨(Nat.le_of_ble_eq_true rfl), (Nat.le_of_ble_eq_true rfl)⟩) hK hP hS rfl rfl rfl hl.1 rfl (Nat.le_of_ble_eq_true rfl) dX1_init_38 ⟨(Nat.le_of_ble_eq_true rfl), (Nat.le_of_ble_eq_true rfl)⟩ (fun H locs hP hS => ?_)
  replace hP : va_P D vwCl [(h, .inr (1, [.ref q1, .ref q2, .ref q3, .ref q4, .int 1, .int 0])), (q1, .inl (cI, 60, .inl (upd z0 (0 : Int32).toNatClampNeg (-1)))), (q2, .inl (cI, 60, .inl (upd z0 (0 : Int32).toNatClampNeg 0))), (q3, .inl (cZ, 60, .inl (upd z0 (0 : Int32).toNatClampNeg (vp_nar .boolean 0)))), (q4, .inl (cI, 3600, .inl z0))] H := hP
  have hD : va_D A [(h, .inr (1, [.ref q1, .ref q2, .ref q3, .ref q4, .int 1, .int 0])), (q1, .inl (cI, 60, .inl (upd z0 (0 : Int32).toNatClampNeg (-1)))), (q2, .inl (cI, 60, .inl (upd z0 (0 : Int32).toNatClampNeg 0))), (q3, .inl (cZ, 60, .inl (upd z0 (0 : Int32).toNatClampNeg (vp_nar .boolean 0)))), (q4, .inl (cI, 3600, .inl z0))] := AD_D hld rfl
  refine lv_pop hx hb dX1_init_41 rfl ?_
  refine W.widen (k := 4) (n := 3780) (Nat.le_of_ble_eq_true rfl) (Nat.le_of_ble_eq_true rfl) ?_
  exact W.vret hx hb hr (fun t ht hW => ⟨⟨(fun i => [q1, q2, q3, q4].getD i 0), rfl, trivial, by rw [ht]; exact hP, hD⟩, hS.F ht⟩) hS.2.2 dX1_init_42 hlk
set_option maxRecDepth 100000 in
set_option maxHeartbeats 4000000 in
theorem ciX6 (l : Launch) (D : va_G) (cI cB cZ : ClassId) (h sz r0 : Nat) : Met l yX6_init wsX6_init (rmC 1 12 2 120) (PC D (tyL cI cB cZ) [(h, .inr (6, [.null, .null, .int 0, .null]))] sz [.ref h, .ref r0]) (QC D (fun u => [(h, .inr (6, [.ref r0, .ref (u 0), .int 0, .ref (u 1)])), ((u 0), .inl (cI, 60, .inl z0)), ((u 1), .inl (cI, 60, .inl z0))]) (va_A [(h, .inr (6, [.null, .null, .int 0, .null]))] sz)) 2 120 (va_A [(h, .inr (6, [.null, .null, .int 0, .null]))] sz) := by
  refine mk_metI cX6_init 2 none (by decide) rfl (Nat.le_of_ble_eq_true rfl) ?_
  intro p e s m args below meth c ls hx hb hr hlk hml hown hts hin hPK hl
  obtain ⟨hsz, hP, hK, hD0⟩ := hPK
  subst hsz
  replace hl : lv_has ls 2 [(0, .ref h), (1, .ref r0)] := hl
  replace hown : s.vm.findClass RX6 = some m.cls := hown
  replace hin : meth.name = "<init>" := hin
  have hiX6 : ∀ w ∈ wsX60, w ∈ wsX6_init := fun w h => List.mem_cons_of_mem _ (List.mem_append_right _ h)
  have hD := hD0.self (sz := s.heap.size)
  generalize hAe : va_A [(h, .inr (6, [.null, .null, .int 0, .null]))] s.heap.size = A at hD ⊢
  have hA : ∀ q : Nat, s.heap.size ≤ q → A q := fun q h => by rw [← hAe]; exact Or.inr h
  have hS : va_S A s.heap s.heap [] := va_S.rf
  have hP : va_P D vwCl [(h, .inr (6, [.null, .null, .int 0, .null]))] s.heap := hP
  refine lv_aload_n hx hb dX6_init_0 rfl (lv_at hl 0 rfl) ?_
  refine W.objInit hx hb hown (hts _ (List.mem_of_getElem? (i := 1) rfl)) (hts _ (List.mem_of_getElem? (i := 2) rfl)) (hts _ (List.mem_of_getElem? (i := 3) rfl)) rfl (by rw [hml]; exact hl.1) rfl dX6_init_1 (Nat.le_of_ble_eq_true rfl) (Nat.le_of_ble_eq_true rfl) ?_
  refine W.eq (g2 := F0 m 4 ls []) rfl ?_
  refine lv_aload_n hx hb dX6_init_4 rfl (lv_at hl 0 rfl) ?_
  refine lv_bipush (v := (60 : Int32)) hx hb dX6_init_5 (by decide) ?_
  refine na_I (N' := 60) hx hb (hts _ (List.mem_of_getElem? (i := 4) rfl)) hK hP hD hS hA (by decide) (by decide) (Nat.le_of_ble_eq_true rfl) (Nat.le_of_ble_eq_true rfl) (Nat.le_of_ble_eq_true rfl) dX6_init_7 (fun q1 H hP hD hS => ?_)
  have hP : va_P D vwCl [(h, .inr (6, [.null, .null, .int 0, .null])), (q1, .inl (cI, 60, .inl z0))] H := hP
  have hD : va_D A [(h, .inr (6, [.null, .null, .int 0, .null])), (q1, .inl (cI, 60, .inl z0))] := hD
  refine va_putF (ci := 6) (v := .ref q1) (ty := .array .int) (C := RX6) (T := TX6) (N := 4) hx hb hts hiX6 tyX6 tyX6_ok nmX6 hown hK hP hD hS 0 rfl rfl 1 (by decide) (hts _ (List.mem_of_getElem? (i := 5) rfl)) (fun _ h9 => h9) rfl hin rfl (tyX6_ok 1 (by decide)) rfl rfl (Nat.le_of_ble_eq_true rfl) dX6_init_9 (fun H locs hP hD hS => ?_)
  have hP : va_P D vwCl [(h, .inr (6, [.null, .ref q1, .int 0, .null])), (q1, .inl (cI, 60, .inl z0))] H := hP
  have hD : va_D A [(h, .inr (6, [.null, .ref q1, .int 0, .null])), (q1, .inl (cI, 60, .inl z0))] := hD
  refine lv_aload_n hx hb dX6_init_12 rfl (lv_at hl 0 rfl) ?_
  refine lv_bipush (v := (60 : Int32)) hx hb dX6_init_13 (by decide) ?_
  refine na_I (N' := 60) hx hb (hts _ (List.mem_of_getElem? (i := 4) rfl)) hK hP hD hS hA (by decide) (by decide) (Nat.le_of_ble_eq_true rfl) (Nat.le_of_ble_eq_true rfl) (Nat.le_of_ble_eq_true rfl) dX6_init_15 (fun q2 H hP hD hS => ?_)
  have hP : va_P D vwCl [(h, .inr (6, [.null, .ref q1, .int 0, .null])), (q1, .inl (cI, 60, .inl z0)), (q2, .inl (cI, 60, .inl z0))] H := hP
  have hD : va_D A [(h, .inr (6, [.null, .ref q1, .int 0, .null])), (q1, .inl (cI, 60, .inl z0)), (q2, .inl (cI, 60, .inl z0))] := hD
  refine va_putF (ci := 6) (v := .ref q2) (ty := .array .int) (C := RX6) (T := TX6) (N := 4) hx hb hts hiX6 tyX6 tyX6_ok nmX6 hown hK hP hD hS 0 rfl rfl 3 (by decide) (hts _ (List.mem_of_getElem? (i := 6) rfl)) (fun _ h9 => h9) rfl hin rfl (tyX6_ok 3 (by decide)) rfl rfl (Nat.le_of_ble_eq_true rfl) dX6_init_17 (fun H locs hP hD hS => ?_)
  have hP : va_P D vwCl [(h, .inr (6, [.null, .ref q1, .int 0, .ref q2])), (q1, .inl (cI, 60, .inl z0)), (q2, .inl (cI, 60, .inl z0))] H := hP
  have hD : va_D A [(h, .inr (6, [.null, .ref q1, .int 0, .ref q2])), (q1, .inl (cI, 60, .inl z0)), (q2, .inl (cI, 60, .inl z0))] := hD
  refine lv_aload_n hx hb dX6_init_20 rfl (lv_at hl 0 rfl) ?_
  refine lv_aload_n hx hb dX6_init_21 rfl (lv_at hl 1 rfl) ?_
  refine va_putF (ci := 6) (v := .ref r0) (ty := .object "RoadDepots$Land") (C := RX6) (T := TX6) (N := 4) hx hb hts hiX6 tyX6 tyX6_ok nmX6 hown hK hP hD hS 0 rfl rfl 0 (by decide) (hts _ (List.mem_of_getElem? (i := 7) rfl)) (fun _ h9 => h9) rfl hin rfl (tyX6_ok 0 (by decide)) rfl rfl (Nat.le_of_ble_eq_true rfl) dX6_init_22 (fun H locs hP hD hS => ?_)
  have hP : va_P D vwCl [(h, .inr (6, [.ref r0, .ref q1, .int 0, .ref q2])), (q1, .inl (cI, 60, .inl z0)), (q2, .inl (cI, 60, .inl z0))] H := hP
  have hD : va_D A [(h, .inr (6, [.ref r0, .ref q1, .int 0, .ref q2])), (q1, .inl (cI, 60, .inl z0)), (q2, .inl (cI, 60, .inl z0))] := hD
  refine W.widen (k := 2) (n := 120) (Nat.le_of_ble_eq_true rfl) (Nat.le_of_ble_eq_true rfl) ?_
  exact W.vret hx hb hr (fun t ht hW => ⟨⟨(fun i => [q1, q2].getD i 0), rfl, trivial, by rw [ht]; exact hP, hD⟩, hS.F ht⟩) hS.2.2 dX6_init_25 hlk
set_option maxRecDepth 100000 in
set_option maxHeartbeats 4000000 in
theorem ciX0 (l : Launch) (D : va_G) (cI cB cZ : ClassId) (h sz r0 : Nat) : Met l yX0_init wsX0_init (rmC 1 12 1 60) (PC D (tyL cI cB cZ) [(h, .inr (0, [.null, .null]))] sz [.ref h, .ref r0]) (QC D (fun u => [(h, .inr (0, [.ref r0, .ref (u 0)])), ((u 0), .inl (cI, 60, .inl z0))]) (va_A [(h, .inr (0, [.null, .null]))] sz)) 1 60 (va_A [(h, .inr (0, [.null, .null]))] sz) := by
  refine mk_metI cX0_init 2 none (by decide) rfl (Nat.le_of_ble_eq_true rfl) ?_
  intro p e s m args below meth c ls hx hb hr hlk hml hown hts hin hPK hl
  obtain ⟨hsz, hP, hK, hD0⟩ := hPK
  subst hsz
  replace hl : lv_has ls 2 [(0, .ref h), (1, .ref r0)] := hl
  replace hown : s.vm.findClass RX0 = some m.cls := hown
  replace hin : meth.name = "<init>" := hin
  have hiX0 : ∀ w ∈ wsX00, w ∈ wsX0_init := fun w h => List.mem_cons_of_mem _ (List.mem_append_right _ h)
  have hD := hD0.self (sz := s.heap.size)
  generalize hAe : va_A [(h, .inr (0, [.null, .null]))] s.heap.size = A at hD ⊢
  have hA : ∀ q : Nat, s.heap.size ≤ q → A q := fun q h => by rw [← hAe]; exact Or.inr h
  have hS : va_S A s.heap s.heap [] := va_S.rf
  have hP : va_P D vwCl [(h, .inr (0, [.null, .null]))] s.heap := hP
  refine lv_aload_n hx hb dX0_init_0 rfl (lv_at hl 0 rfl) ?_
  refine W.objInit hx hb hown (hts _ (List.mem_of_getElem? (i := 1) rfl)) (hts _ (List.mem_of_getElem? (i := 2) rfl)) (hts _ (List.mem_of_getElem? (i := 3) rfl)) rfl (by rw [hml]; exact hl.1) rfl dX0_init_1 (Nat.le_of_ble_eq_true rfl) (Nat.le_of_ble_eq_true rfl) ?_
  refine W.eq (g2 := F0 m 4 ls []) rfl ?_
  refine lv_aload_n hx hb dX0_init_4 rfl (lv_at hl 0 rfl) ?_
  refine lv_bipush (v := (60 : Int32)) hx hb dX0_init_5 (by decide) ?_
  refine na_I (N' := 60) hx hb (hts _ (List.mem_of_getElem? (i := 4) rfl)) hK hP hD hS hA (by decide) (by decide) (Nat.le_of_ble_eq_true rfl) (Nat.le_of_ble_eq_true rfl) (Nat.le_of_ble_eq_true rfl) dX0_init_7 (fun q1 H hP hD hS => ?_)
  have hP : va_P D vwCl [(h, .inr (0, [.null, .null])), (q1, .inl (cI, 60, .inl z0))] H := hP
  have hD : va_D A [(h, .inr (0, [.null, .null])), (q1, .inl (cI, 60, .inl z0))] := hD
  refine va_putF (ci := 0) (v := .ref q1) (ty := .array .int) (C := RX0) (T := TX0) (N := 2) hx hb hts hiX0 tyX0 tyX0_ok nmX0 hown hK hP hD hS 0 rfl rfl 1 (by decide) (hts _ (List.mem_of_getElem? (i := 5) rfl)) (fun _ h9 => h9) rfl hin rfl (tyX0_ok 1 (by decide)) rfl rfl (Nat.le_of_ble_eq_true rfl) dX0_init_9 (fun H locs hP hD hS => ?_)
  have hP : va_P D vwCl [(h, .inr (0, [.null, .ref q1])), (q1, .inl (cI, 60, .inl z0))] H := hP
  have hD : va_D A [(h, .inr (0, [.null, .ref q1])), (q1, .inl (cI, 60, .inl z0))] := hD
  refine lv_aload_n hx hb dX0_init_12 rfl (lv_at hl 0 rfl) ?_
  refine lv_aload_n hx hb dX0_init_13 rfl (lv_at hl 1 rfl) ?_
  refine va_putF (ci := 0) (v := .ref r0) (ty := .object "RoadDepots$Land") (C := RX0) (T := TX0) (N := 2) hx hb hts hiX0 tyX0 tyX0_ok nmX0 hown hK hP hD hS 0 rfl rfl 0 (by decide) (hts _ (List.mem_of_getElem? (i := 6) rfl)) (fun _ h9 => h9) rfl hin rfl (tyX0_ok 0 (by decide)) rfl rfl (Nat.le_of_ble_eq_true rfl) dX0_init_14 (fun H locs hP hD hS => ?_)
  have hP : va_P D vwCl [(h, .inr (0, [.ref r0, .ref q1])), (q1, .inl (cI, 60, .inl z0))] H := hP
  have hD : va_D A [(h, .inr (0, [.ref r0, .ref q1])), (q1, .inl (cI, 60, .inl z0))] := hD
  refine W.widen (k := 1) (n := 60) (Nat.le_of_ble_eq_true rfl) (Nat.le_of_ble_eq_true rfl) ?_
  exact W.vret hx hb hr (fun t ht hW => ⟨⟨(fun i => [q1].getD i 0), rfl, trivial, by rw [ht]; exact hP, hD⟩, hS.F ht⟩) hS.2.2 dX0_init_17 hlk
set_option maxRecDepth 100000 in
set_option maxHeartbeats 4000000 in
theorem ciX5 (l : Launch) (D : va_G) (cI cB cZ : ClassId) (h sz : Nat) : Met l yX5_init wsX5_init (rmC 1 12 1 120) (PC D (tyL cI cB cZ) [(h, .inr (5, [.null, .int 0]))] sz [.ref h]) (QC D (fun u => [(h, .inr (5, [.ref (u 0), .int (0 : Int32)])), ((u 0), .inl (cB, 120, .inl z0))]) (va_A [(h, .inr (5, [.null, .int 0]))] sz)) 1 120 (va_A [(h, .inr (5, [.null, .int 0]))] sz) := by
  refine mk_metI cX5_init 1 none (by decide) rfl (Nat.le_of_ble_eq_true rfl) ?_
  intro p e s m args below meth c ls hx hb hr hlk hml hown hts hin hPK hl
  obtain ⟨hsz, hP, hK, hD0⟩ := hPK
  subst hsz
  replace hl : lv_has ls 1 [(0, .ref h)] := hl
  replace hown : s.vm.findClass RX5 = some m.cls := hown
  replace hin : meth.name = "<init>" := hin
  have hiX5 : ∀ w ∈ wsX50, w ∈ wsX5_init := fun w h => List.mem_cons_of_mem _ (List.mem_append_right _ h)
  have hD := hD0.self (sz := s.heap.size)
  generalize hAe : va_A [(h, .inr (5, [.null, .int 0]))] s.heap.size = A at hD ⊢
  have hA : ∀ q : Nat, s.heap.size ≤ q → A q := fun q h => by rw [← hAe]; exact Or.inr h
  have hS : va_S A s.heap s.heap [] := va_S.rf
  have hP : va_P D vwCl [(h, .inr (5, [.null, .int 0]))] s.heap := hP
  refine lv_aload_n hx hb dX5_init_0 rfl (lv_at hl 0 rfl) ?_
  refine W.objInit hx hb hown (hts _ (List.mem_of_getElem? (i := 1) rfl)) (hts _ (List.mem_of_getElem? (i := 2) rfl)) (hts _ (List.mem_of_getElem? (i := 3) rfl)) rfl (by rw [hml]; exact hl.1) rfl dX5_init_1 (Nat.le_of_ble_eq_true rfl) (Nat.le_of_ble_eq_true rfl) ?_
  refine W.eq (g2 := F0 m 4 ls []) rfl ?_
  refine lv_aload_n hx hb dX5_init_4 rfl (lv_at hl 0 rfl) ?_
  refine lv_bipush (v := (120 : Int32)) hx hb dX5_init_5 (by decide) ?_
  refine na_B (N' := 120) hx hb (hts _ (List.mem_of_getElem? (i := 4) rfl)) hK hP hD hS hA (by decide) (by decide) (Nat.le_of_ble_eq_true rfl) (Nat.le_of_ble_eq_true rfl) (Nat.le_of_ble_eq_true rfl) dX5_init_7 (fun q1 H hP hD hS => ?_)
  have hP : va_P D vwCl [(h, .inr (5, [.null, .int 0])), (q1, .inl (cB, 120, .inl z0))] H := hP
  have hD : va_D A [(h, .inr (5, [.null, .int 0])), (q1, .inl (cB, 120, .inl z0))] := hD
  refine va_putF (ci := 5) (v := .ref q1) (ty := .array .byte) (C := RX5) (T := TX5) (N := 2) hx hb hts hiX5 tyX5 tyX5_ok nmX5 hown hK hP hD hS 0 rfl rfl 0 (by decide) (hts _ (List.mem_of_getElem? (i := 5) rfl)) (fun _ h9 => h9) rfl hin rfl (tyX5_ok 0 (by decide)) rfl rfl (Nat.le_of_ble_eq_true rfl) dX5_init_9 (fun H locs hP hD hS => ?_)
  have hP : va_P D vwCl [(h, .inr (5, [.ref q1, .int 0])), (q1, .inl (cB, 120, .inl z0))] H := hP
  have hD : va_D A [(h, .inr (5, [.ref q1, .int 0])), (q1, .inl (cB, 120, .inl z0))] := hD
  refine lv_aload_n hx hb dX5_init_12 rfl (lv_at hl 0 rfl) ?_
  refine lv_iconst (v := (0 : Int32)) hx hb dX5_init_13 (by decide) ?_
  refine va_put (ci := 5) (v := .int (0 : Int32)) (ty := .int) (C := RX5) (T := TX5) (N := 2) hx hb hts hiX5 tyX5 tyX5_ok nmX5 hown hK hP hD hS 0 rfl rfl 1 (by decide) (hts _ (List.mem_of_getElem? (i := 6) rfl)) (fun _ h9 => h9) rfl (tyX5_ok 1 (by decide)) rfl rfl (Nat.le_of_ble_eq_true rfl) dX5_init_14 (fun H locs hP hD hS => ?_)
  have hP : va_P D vwCl [(h, .inr (5, [.ref q1, .int (0 : Int32)])), (q1, .inl (cB, 120, .inl z0))] H := hP
  have hD : va_D A [(h, .inr (5, [.ref q1, .int (0 : Int32)])), (q1, .inl (cB, 120, .inl z0))] := hD
  refine W.widen (k := 1) (n := 120) (Nat.le_of_ble_eq_true rfl) (Nat.le_of_ble_eq_true rfl) ?_
  exact W.vret hx hb hr (fun t ht hW => ⟨⟨(fun i => [q1].getD i 0), rfl, trivial, by rw [ht]; exact hP, hD⟩, hS.F ht⟩) hS.2.2 dX5_init_17 hlk
set_option maxRecDepth 100000 in
set_option maxHeartbeats 4000000 in
theorem ciX3 (l : Launch) (D : va_G) (cI cB cZ : ClassId) (h sz r0 : Nat) : Met l yX3_init wsX3_init (rmC 1 12 3 90) (PC D (tyL cI cB cZ) [(h, .inr (3, [.null, .null, .null, .int 0, .null, .int 0, .int 0, .int 0]))] sz [.ref h, .ref r0]) (QC D (fun u => [(h, .inr (3, [.ref (u 0), .ref (u 1), .ref (u 2), .int 0, .ref r0, .int 0, .int 0, .int 0])), ((u 0), .inl (cI, 30, .inl z0)), ((u 1), .inl (cI, 30, .inl z0)), ((u 2), .inl (cI, 30, .inl z0))]) (va_A [(h, .inr (3, [.null, .null, .null, .int 0, .null, .int 0, .int 0, .int 0]))] sz)) 3 90 (va_A [(h, .inr (3, [.null, .null, .null, .int 0, .null, .int 0, .int 0, .int 0]))] sz) := by
  refine mk_metI cX3_init 2 none (by decide) rfl (Nat.le_of_ble_eq_true rfl) ?_
  intro p e s m args below meth c ls hx hb hr hlk hml hown hts hin hPK hl
  obtain ⟨hsz, hP, hK, hD0⟩ := hPK
  subst hsz
  replace hl : lv_has ls 2 [(0, .ref h), (1, .ref r0)] := hl
  replace hown : s.vm.findClass RX3 = some m.cls := hown
  replace hin : meth.name = "<init>" := hin
  have hiX3 : ∀ w ∈ wsX30, w ∈ wsX3_init := fun w h => List.mem_cons_of_mem _ (List.mem_append_right _ h)
  have hD := hD0.self (sz := s.heap.size)
  generalize hAe : va_A [(h, .inr (3, [.null, .null, .null, .int 0, .null, .int 0, .int 0, .int 0]))] s.heap.size = A at hD ⊢
  have hA : ∀ q : Nat, s.heap.size ≤ q → A q := fun q h => by rw [← hAe]; exact Or.inr h
  have hS : va_S A s.heap s.heap [] := va_S.rf
  have hP : va_P D vwCl [(h, .inr (3, [.null, .null, .null, .int 0, .null, .int 0, .int 0, .int 0]))] s.heap := hP
  refine lv_aload_n hx hb dX3_init_0 rfl (lv_at hl 0 rfl) ?_
  refine W.objInit hx hb hown (hts _ (List.mem_of_getElem? (i := 1) rfl)) (hts _ (List.mem_of_getElem? (i := 2) rfl)) (hts _ (List.mem_of_getElem? (i := 3) rfl)) rfl (by rw [hml]; exact hl.1) rfl dX3_init_1 (Nat.le_of_ble_eq_true rfl) (Nat.le_of_ble_eq_true rfl) ?_
  refine W.eq (g2 := F0 m 4 ls []) rfl ?_
  refine lv_aload_n hx hb dX3_init_4 rfl (lv_at hl 0 rfl) ?_
  refine lv_bipush (v := (30 : Int32)) hx hb dX3_init_5 (by decide) ?_
  refine na_I (N' := 30) hx hb (hts _ (List.mem_of_getElem? (i := 4) rfl)) hK hP hD hS hA (by decide) (by decide) (Nat.le_of_ble_eq_true rfl) (Nat.le_of_ble_eq_true rfl) (Nat.le_of_ble_eq_true rfl) dX3_init_7 (fun q1 H hP hD hS => ?_)
  have hP : va_P D vwCl [(h, .inr (3, [.null, .null, .null, .int 0, .null, .int 0, .int 0, .int 0])), (q1, .inl (cI, 30, .inl z0))] H := hP
  have hD : va_D A [(h, .inr (3, [.null, .null, .null, .int 0, .null, .int 0, .int 0, .int 0])), (q1, .inl (cI, 30, .inl z0))] := hD
  refine va_putF (ci := 3) (v := .ref q1) (ty := .array .int) (C := RX3) (T := TX3) (N := 8) hx hb hts hiX3 tyX3 tyX3_ok nmX3 hown hK hP hD hS 0 rfl rfl 0 (by decide) (hts _ (List.mem_of_getElem? (i := 5) rfl)) (fun _ h9 => h9) rfl hin rfl (tyX3_ok 0 (by decide)) rfl rfl (Nat.le_of_ble_eq_true rfl) dX3_init_9 (fun H locs hP hD hS => ?_)
  have hP : va_P D vwCl [(h, .inr (3, [.ref q1, .null, .null, .int 0, .null, .int 0, .int 0, .int 0])), (q1, .inl (cI, 30, .inl z0))] H := hP
  have hD : va_D A [(h, .inr (3, [.ref q1, .null, .null, .int 0, .null, .int 0, .int 0, .int 0])), (q1, .inl (cI, 30, .inl z0))] := hD
  refine lv_aload_n hx hb dX3_init_12 rfl (lv_at hl 0 rfl) ?_
  refine lv_bipush (v := (30 : Int32)) hx hb dX3_init_13 (by decide) ?_
  refine na_I (N' := 30) hx hb (hts _ (List.mem_of_getElem? (i := 4) rfl)) hK hP hD hS hA (by decide) (by decide) (Nat.le_of_ble_eq_true rfl) (Nat.le_of_ble_eq_true rfl) (Nat.le_of_ble_eq_true rfl) dX3_init_15 (fun q2 H hP hD hS => ?_)
  have hP : va_P D vwCl [(h, .inr (3, [.ref q1, .null, .null, .int 0, .null, .int 0, .int 0, .int 0])), (q1, .inl (cI, 30, .inl z0)), (q2, .inl (cI, 30, .inl z0))] H := hP
  have hD : va_D A [(h, .inr (3, [.ref q1, .null, .null, .int 0, .null, .int 0, .int 0, .int 0])), (q1, .inl (cI, 30, .inl z0)), (q2, .inl (cI, 30, .inl z0))] := hD
  refine va_putF (ci := 3) (v := .ref q2) (ty := .array .int) (C := RX3) (T := TX3) (N := 8) hx hb hts hiX3 tyX3 tyX3_ok nmX3 hown hK hP hD hS 0 rfl rfl 1 (by decide) (hts _ (List.mem_of_getElem? (i := 6) rfl)) (fun _ h9 => h9) rfl hin rfl (tyX3_ok 1 (by decide)) rfl rfl (Nat.le_of_ble_eq_true rfl) dX3_init_17 (fun H locs hP hD hS => ?_)
  have hP : va_P D vwCl [(h, .inr (3, [.ref q1, .ref q2, .null, .int 0, .null, .int 0, .int 0, .int 0])), (q1, .inl (cI, 30, .inl z0)), (q2, .inl (cI, 30, .inl z0))] H := hP
  have hD : va_D A [(h, .inr (3, [.ref q1, .ref q2, .null, .int 0, .null, .int 0, .int 0, .int 0])), (q1, .inl (cI, 30, .inl z0)), (q2, .inl (cI, 30, .inl z0))] := hD
  refine lv_aload_n hx hb dX3_init_20 rfl (lv_at hl 0 rfl) ?_
  refine lv_bipush (v := (30 : Int32)) hx hb dX3_init_21 (by decide) ?_
  refine na_I (N' := 30) hx hb (hts _ (List.mem_of_getElem? (i := 4) rfl)) hK hP hD hS hA (by decide) (by decide) (Nat.le_of_ble_eq_true rfl) (Nat.le_of_ble_eq_true rfl) (Nat.le_of_ble_eq_true rfl) dX3_init_23 (fun q3 H hP hD hS => ?_)
  have hP : va_P D vwCl [(h, .inr (3, [.ref q1, .ref q2, .null, .int 0, .null, .int 0, .int 0, .int 0])), (q1, .inl (cI, 30, .inl z0)), (q2, .inl (cI, 30, .inl z0)), (q3, .inl (cI, 30, .inl z0))] H := hP
  have hD : va_D A [(h, .inr (3, [.ref q1, .ref q2, .null, .int 0, .null, .int 0, .int 0, .int 0])), (q1, .inl (cI, 30, .inl z0)), (q2, .inl (cI, 30, .inl z0)), (q3, .inl (cI, 30, .inl z0))] := hD
  refine va_putF (ci := 3) (v := .ref q3) (ty := .array .int) (C := RX3) (T := TX3) (N := 8) hx hb hts hiX3 tyX3 tyX3_ok nmX3 hown hK hP hD hS 0 rfl rfl 2 (by decide) (hts _ (List.mem_of_getElem? (i := 7) rfl)) (fun _ h9 => h9) rfl hin rfl (tyX3_ok 2 (by decide)) rfl rfl (Nat.le_of_ble_eq_true rfl) dX3_init_25 (fun H locs hP hD hS => ?_)
  have hP : va_P D vwCl [(h, .inr (3, [.ref q1, .ref q2, .ref q3, .int 0, .null, .int 0, .int 0, .int 0])), (q1, .inl (cI, 30, .inl z0)), (q2, .inl (cI, 30, .inl z0)), (q3, .inl (cI, 30, .inl z0))] H := hP
  have hD : va_D A [(h, .inr (3, [.ref q1, .ref q2, .ref q3, .int 0, .null, .int 0, .int 0, .int 0])), (q1, .inl (cI, 30, .inl z0)), (q2, .inl (cI, 30, .inl z0)), (q3, .inl (cI, 30, .inl z0))] := hD
  refine lv_aload_n hx hb dX3_init_28 rfl (lv_at hl 0 rfl) ?_
  refine lv_aload_n hx hb dX3_init_29 rfl (lv_at hl 1 rfl) ?_
  refine va_putF (ci := 3) (v := .ref r0) (ty := .object "RoadDepots$Text") (C := RX3) (T := TX3) (N := 8) hx hb hts hiX3 tyX3 tyX3_ok nmX3 hown hK hP hD hS 0 rfl rfl 4 (by decide) (hts _ (List.mem_of_getElem? (i := 8) rfl)) (fun _ h9 => h9) rfl hin rfl (tyX3_ok 4 (by decide)) rfl rfl (Nat.le_of_ble_eq_true rfl) dX3_init_30 (fun H locs hP hD hS => ?_)
  have hP : va_P D vwCl [(h, .inr (3, [.ref q1, .ref q2, .ref q3, .int 0, .ref r0, .int 0, .int 0, .int 0])), (q1, .inl (cI, 30, .inl z0)), (q2, .inl (cI, 30, .inl z0)), (q3, .inl (cI, 30, .inl z0))] H := hP
  have hD : va_D A [(h, .inr (3, [.ref q1, .ref q2, .ref q3, .int 0, .ref r0, .int 0, .int 0, .int 0])), (q1, .inl (cI, 30, .inl z0)), (q2, .inl (cI, 30, .inl z0)), (q3, .inl (cI, 30, .inl z0))] := hD
  refine W.widen (k := 3) (n := 90) (Nat.le_of_ble_eq_true rfl) (Nat.le_of_ble_eq_true rfl) ?_
  exact W.vret hx hb hr (fun t ht hW => ⟨⟨(fun i => [q1, q2, q3].getD i 0), rfl, trivial, by rw [ht]; exact hP, hD⟩, hS.F ht⟩) hS.2.2 dX3_init_33 hlk
set_option maxRecDepth 100000 in
set_option maxHeartbeats 4000000 in
theorem ciX2 (l : Launch) (D : va_G) (cI cB cZ : ClassId) (h sz : Nat) : Met l yX2_init wsX2_init (rmC 1 12 1 400) (PC D (tyL cI cB cZ) [(h, .inr (2, [.null, .int 0]))] sz [.ref h]) (QC D (fun u => [(h, .inr (2, [.ref (u 0), .int (0 : Int32)])), ((u 0), .inl (cB, 400, .inl z0))]) (va_A [(h, .inr (2, [.null, .int 0]))] sz)) 1 400 (va_A [(h, .inr (2, [.null, .int 0]))] sz) := by
  refine mk_metI cX2_init 1 none (by decide) rfl (Nat.le_of_ble_eq_true rfl) ?_
  intro p e s m args below meth c ls hx hb hr hlk hml hown hts hin hPK hl
  obtain ⟨hsz, hP, hK, hD0⟩ := hPK
  subst hsz
  replace hl : lv_has ls 1 [(0, .ref h)] := hl
  replace hown : s.vm.findClass RX2 = some m.cls := hown
  replace hin : meth.name = "<init>" := hin
  have hiX2 : ∀ w ∈ wsX20, w ∈ wsX2_init := fun w h => List.mem_cons_of_mem _ (List.mem_append_right _ h)
  have hD := hD0.self (sz := s.heap.size)
  generalize hAe : va_A [(h, .inr (2, [.null, .int 0]))] s.heap.size = A at hD ⊢
  have hA : ∀ q : Nat, s.heap.size ≤ q → A q := fun q h => by rw [← hAe]; exact Or.inr h
  have hS : va_S A s.heap s.heap [] := va_S.rf
  have hP : va_P D vwCl [(h, .inr (2, [.null, .int 0]))] s.heap := hP
  refine lv_aload_n hx hb dX2_init_0 rfl (lv_at hl 0 rfl) ?_
  refine W.objInit hx hb hown (hts _ (List.mem_of_getElem? (i := 1) rfl)) (hts _ (List.mem_of_getElem? (i := 2) rfl)) (hts _ (List.mem_of_getElem? (i := 3) rfl)) rfl (by rw [hml]; exact hl.1) rfl dX2_init_1 (Nat.le_of_ble_eq_true rfl) (Nat.le_of_ble_eq_true rfl) ?_
  refine W.eq (g2 := F0 m 4 ls []) rfl ?_
  refine lv_aload_n hx hb dX2_init_4 rfl (lv_at hl 0 rfl) ?_
  refine lv_sipush (v := (400 : Int32)) hx hb dX2_init_5 (by decide) ?_
  refine na_B (N' := 400) hx hb (hts _ (List.mem_of_getElem? (i := 4) rfl)) hK hP hD hS hA (by decide) (by decide) (Nat.le_of_ble_eq_true rfl) (Nat.le_of_ble_eq_true rfl) (Nat.le_of_ble_eq_true rfl) dX2_init_8 (fun q1 H hP hD hS => ?_)
  have hP : va_P D vwCl [(h, .inr (2, [.null, .int 0])), (q1, .inl (cB, 400, .inl z0))] H := hP
  have hD : va_D A [(h, .inr (2, [.null, .int 0])), (q1, .inl (cB, 400, .inl z0))] := hD
  refine va_putF (ci := 2) (v := .ref q1) (ty := .array .byte) (C := RX2) (T := TX2) (N := 2) hx hb hts hiX2 tyX2 tyX2_ok nmX2 hown hK hP hD hS 0 rfl rfl 0 (by decide) (hts _ (List.mem_of_getElem? (i := 5) rfl)) (fun _ h9 => h9) rfl hin rfl (tyX2_ok 0 (by decide)) rfl rfl (Nat.le_of_ble_eq_true rfl) dX2_init_10 (fun H locs hP hD hS => ?_)
  have hP : va_P D vwCl [(h, .inr (2, [.ref q1, .int 0])), (q1, .inl (cB, 400, .inl z0))] H := hP
  have hD : va_D A [(h, .inr (2, [.ref q1, .int 0])), (q1, .inl (cB, 400, .inl z0))] := hD
  refine lv_aload_n hx hb dX2_init_13 rfl (lv_at hl 0 rfl) ?_
  refine lv_iconst (v := (0 : Int32)) hx hb dX2_init_14 (by decide) ?_
  refine va_put (ci := 2) (v := .int (0 : Int32)) (ty := .int) (C := RX2) (T := TX2) (N := 2) hx hb hts hiX2 tyX2 tyX2_ok nmX2 hown hK hP hD hS 0 rfl rfl 1 (by decide) (hts _ (List.mem_of_getElem? (i := 6) rfl)) (fun _ h9 => h9) rfl (tyX2_ok 1 (by decide)) rfl rfl (Nat.le_of_ble_eq_true rfl) dX2_init_15 (fun H locs hP hD hS => ?_)
  have hP : va_P D vwCl [(h, .inr (2, [.ref q1, .int (0 : Int32)])), (q1, .inl (cB, 400, .inl z0))] H := hP
  have hD : va_D A [(h, .inr (2, [.ref q1, .int (0 : Int32)])), (q1, .inl (cB, 400, .inl z0))] := hD
  refine W.widen (k := 1) (n := 400) (Nat.le_of_ble_eq_true rfl) (Nat.le_of_ble_eq_true rfl) ?_
  exact W.vret hx hb hr (fun t ht hW => ⟨⟨(fun i => [q1].getD i 0), rfl, trivial, by rw [ht]; exact hP, hD⟩, hS.F ht⟩) hS.2.2 dX2_init_18 hlk
set_option maxRecDepth 100000 in
set_option maxHeartbeats 4000000 in
theorem ciX4 (l : Launch) (D : va_G) (cI cB cZ : ClassId) (h sz r0 r1 r2 r3 : Nat) : Met l yX4_init wsX4_init (rmC 1 12 0 0) (PC D (tyL cI cB cZ) [(h, .inr (4, [.null, .null, .null, .null]))] sz [.ref h, .ref r0, .ref r1, .ref r2, .ref r3]) (QC D (fun u => [(h, .inr (4, [.ref r0, .ref r1, .ref r2, .ref r3]))]) (va_A [(h, .inr (4, [.null, .null, .null, .null]))] sz)) 0 0 (va_A [(h, .inr (4, [.null, .null, .null, .null]))] sz) := by
  refine mk_metI cX4_init 5 none (by decide) rfl (Nat.le_of_ble_eq_true rfl) ?_
  intro p e s m args below meth c ls hx hb hr hlk hml hown hts hin hPK hl
  obtain ⟨hsz, hP, hK, hD0⟩ := hPK
  subst hsz
  replace hl : lv_has ls 5 [(0, .ref h), (1, .ref r0), (2, .ref r1), (3, .ref r2), (4, .ref r3)] := hl
  replace hown : s.vm.findClass RX4 = some m.cls := hown
  replace hin : meth.name = "<init>" := hin
  have hiX4 : ∀ w ∈ wsX40, w ∈ wsX4_init := fun w h => List.mem_cons_of_mem _ (List.mem_append_right _ h)
  have hD := hD0.self (sz := s.heap.size)
  generalize hAe : va_A [(h, .inr (4, [.null, .null, .null, .null]))] s.heap.size = A at hD ⊢
  have hA : ∀ q : Nat, s.heap.size ≤ q → A q := fun q h => by rw [← hAe]; exact Or.inr h
  have hS : va_S A s.heap s.heap [] := va_S.rf
  have hP : va_P D vwCl [(h, .inr (4, [.null, .null, .null, .null]))] s.heap := hP
  refine lv_aload_n hx hb dX4_init_0 rfl (lv_at hl 0 rfl) ?_
  refine W.objInit hx hb hown (hts _ (List.mem_of_getElem? (i := 1) rfl)) (hts _ (List.mem_of_getElem? (i := 2) rfl)) (hts _ (List.mem_of_getElem? (i := 3) rfl)) rfl (by rw [hml]; exact hl.1) rfl dX4_init_1 (Nat.le_of_ble_eq_true rfl) (Nat.le_of_ble_eq_true rfl) ?_
  refine W.eq (g2 := F0 m 4 ls []) rfl ?_
  refine lv_aload_n hx hb dX4_init_4 rfl (lv_at hl 0 rfl) ?_
  refine lv_aload_n hx hb dX4_init_5 rfl (lv_at hl 1 rfl) ?_
  refine va_putF (ci := 4) (v := .ref r0) (ty := .object "RoadDepots$Land") (C := RX4) (T := TX4) (N := 4) hx hb hts hiX4 tyX4 tyX4_ok nmX4 hown hK hP hD hS 0 rfl rfl 0 (by decide) (hts _ (List.mem_of_getElem? (i := 4) rfl)) (fun _ h9 => h9) rfl hin rfl (tyX4_ok 0 (by decide)) rfl rfl (Nat.le_of_ble_eq_true rfl) dX4_init_6 (fun H locs hP hD hS => ?_)
  have hP : va_P D vwCl [(h, .inr (4, [.ref r0, .null, .null, .null]))] H := hP
  have hD : va_D A [(h, .inr (4, [.ref r0, .null, .null, .null]))] := hD
  refine lv_aload_n hx hb dX4_init_9 rfl (lv_at hl 0 rfl) ?_
  refine lv_aload_n hx hb dX4_init_10 rfl (lv_at hl 2 rfl) ?_
  refine va_putF (ci := 4) (v := .ref r1) (ty := .object "RoadDepots$Ways") (C := RX4) (T := TX4) (N := 4) hx hb hts hiX4 tyX4 tyX4_ok nmX4 hown hK hP hD hS 0 rfl rfl 1 (by decide) (hts _ (List.mem_of_getElem? (i := 5) rfl)) (fun _ h9 => h9) rfl hin rfl (tyX4_ok 1 (by decide)) rfl rfl (Nat.le_of_ble_eq_true rfl) dX4_init_11 (fun H locs hP hD hS => ?_)
  have hP : va_P D vwCl [(h, .inr (4, [.ref r0, .ref r1, .null, .null]))] H := hP
  have hD : va_D A [(h, .inr (4, [.ref r0, .ref r1, .null, .null]))] := hD
  refine lv_aload_n hx hb dX4_init_14 rfl (lv_at hl 0 rfl) ?_
  refine lv_aload_n hx hb dX4_init_15 rfl (lv_at hl 3 rfl) ?_
  refine va_putF (ci := 4) (v := .ref r2) (ty := .object "RoadDepots$Depots") (C := RX4) (T := TX4) (N := 4) hx hb hts hiX4 tyX4 tyX4_ok nmX4 hown hK hP hD hS 0 rfl rfl 2 (by decide) (hts _ (List.mem_of_getElem? (i := 6) rfl)) (fun _ h9 => h9) rfl hin rfl (tyX4_ok 2 (by decide)) rfl rfl (Nat.le_of_ble_eq_true rfl) dX4_init_16 (fun H locs hP hD hS => ?_)
  have hP : va_P D vwCl [(h, .inr (4, [.ref r0, .ref r1, .ref r2, .null]))] H := hP
  have hD : va_D A [(h, .inr (4, [.ref r0, .ref r1, .ref r2, .null]))] := hD
  refine lv_aload_n hx hb dX4_init_19 rfl (lv_at hl 0 rfl) ?_
  refine lv_aload hx hb dX4_init_20 (lv_at hl 4 rfl) ?_
  refine va_putF (ci := 4) (v := .ref r3) (ty := .object "RoadDepots$Line") (C := RX4) (T := TX4) (N := 4) hx hb hts hiX4 tyX4 tyX4_ok nmX4 hown hK hP hD hS 0 rfl rfl 3 (by decide) (hts _ (List.mem_of_getElem? (i := 7) rfl)) (fun _ h9 => h9) rfl hin rfl (tyX4_ok 3 (by decide)) rfl rfl (Nat.le_of_ble_eq_true rfl) dX4_init_22 (fun H locs hP hD hS => ?_)
  have hP : va_P D vwCl [(h, .inr (4, [.ref r0, .ref r1, .ref r2, .ref r3]))] H := hP
  have hD : va_D A [(h, .inr (4, [.ref r0, .ref r1, .ref r2, .ref r3]))] := hD
  refine W.widen (k := 0) (n := 0) (Nat.le_of_ble_eq_true rfl) (Nat.le_of_ble_eq_true rfl) ?_
  exact W.vret hx hb hr (fun t ht hW => ⟨⟨(fun i => [].getD i 0), rfl, trivial, by rw [ht]; exact hP, hD⟩, hS.F ht⟩) hS.2.2 dX4_init_25 hlk
set_option maxRecDepth 100000 in
set_option maxHeartbeats 4000000 in
theorem ciX8 (l : Launch) (D : va_G) (cI cB cZ : ClassId) (h sz : Nat) : Met l yX8_init wsX8_init (rmC 2 41 19 4598) (PC D (tyL cI cB cZ) [(h, .inr (7, [.null, .null, .null, .null, .null, .null, .null, .int 0, .int 0]))] sz [.ref h]) (QC D (fun u => [(h, .inr (7, [.ref (u 0), .ref (u 5), .ref (u 8), .ref (u 10), .ref (u 12), .ref (u 16), .ref (u 18), .int 0, .int 0])), ((u 0), .inr (1, [.ref (u 1), .ref (u 2), .ref (u 3), .ref (u 4), .int 1, .int 0])), ((u 1), .inl (cI, 60, .inl (upd z0 (0 : Int32).toNatClampNeg (-1)))), ((u 2), .inl (cI, 60, .inl (upd z0 (0 : Int32).toNatClampNeg 0))), ((u 3), .inl (cZ, 60, .inl (upd z0 (0 : Int32).toNatClampNeg (vp_nar .boolean 0)))), ((u 4), .inl (cI, 3600, .inl z0)), ((u 5), .inr (6, [.ref (u 0), .ref (u 6), .int 0, .ref (u 7)])), ((u 6), .inl (cI, 60, .inl z0)), ((u 7), .inl (cI, 60, .inl z0)), ((u 8), .inr (0, [.ref (u 0), .ref (u 9)])), ((u 9), .inl (cI, 60, .inl z0)), ((u 10), .inr (5, [.ref (u 11), .int (0 : Int32)])), ((u 11), .inl (cB, 120, .inl z0)), ((u 12), .inr (3, [.ref (u 13), .ref (u 14), .ref (u 15), .int 0, .ref (u 10), .int 0, .int 0, .int 0])), ((u 13), .inl (cI, 30, .inl z0)), ((u 14), .inl (cI, 30, .inl z0)), ((u 15), .inl (cI, 30, .inl z0)), ((u 16), .inr (2, [.ref (u 17), .int (0 : Int32)])), ((u 17), .inl (cB, 400, .inl z0)), ((u 18), .inr (4, [.ref (u 0), .ref (u 5), .ref (u 8), .ref (u 16)]))]) (va_A [(h, .inr (7, [.null, .null, .null, .null, .null, .null, .null, .int 0, .int 0]))] sz)) 19 4598 (va_A [(h, .inr (7, [.null, .null, .null, .null, .null, .null, .null, .int 0, .int 0]))] sz) := by
  refine mk_metI cX8_init 1 none (by decide) rfl (Nat.le_of_ble_eq_true rfl) ?_
  intro p e s m args below meth c ls hx hb hr hlk hml hown hts hin hPK hl
  obtain ⟨hsz, hP, hK, hD0⟩ := hPK
  subst hsz
  replace hl : lv_has ls 1 [(0, .ref h)] := hl
  replace hown : s.vm.findClass RX8 = some m.cls := hown
  replace hin : meth.name = "<init>" := hin
  have hiX0 : ∀ w ∈ wsX00, w ∈ wsX8_init := fun w h => List.mem_cons_of_mem _ (List.mem_append_left _ (List.mem_append_left _ (List.mem_append_left _ (List.mem_append_left _ (List.mem_append_right _ h)))))
  have hiX1 : ∀ w ∈ wsX10, w ∈ wsX8_init := fun w h => List.mem_cons_of_mem _ (List.mem_append_left _ (List.mem_append_left _ (List.mem_append_left _ (List.mem_append_left _ (List.mem_append_left _ (List.mem_append_left _ (List.mem_append_left _ (List.mem_append_right _ h))))))))
  have hiX2 : ∀ w ∈ wsX20, w ∈ wsX8_init := fun w h => List.mem_cons_of_mem _ (List.mem_append_left _ (List.mem_append_right _ h))
  have hiX3 : ∀ w ∈ wsX30, w ∈ wsX8_init := fun w h => List.mem_cons_of_mem _ (List.mem_append_left _ (List.mem_append_left _ (List.mem_append_right _ h)))
  have hiX4 : ∀ w ∈ wsX40, w ∈ wsX8_init := fun w h => List.mem_cons_of_mem _ (List.mem_append_right _ h)
  have hiX5 : ∀ w ∈ wsX50, w ∈ wsX8_init := fun w h => List.mem_cons_of_mem _ (List.mem_append_left _ (List.mem_append_left _ (List.mem_append_left _ (List.mem_append_right _ h))))
  have hiX6 : ∀ w ∈ wsX60, w ∈ wsX8_init := fun w h => List.mem_cons_of_mem _ (List.mem_append_left _ (List.mem_append_left _ (List.mem_append_left _ (List.mem_append_left _ (List.mem_append_left _ (List.mem_append_right _ h))))))
  have hiX8 : ∀ w ∈ wsX80, w ∈ wsX8_init := fun w h => List.mem_cons_of_mem _ (List.mem_append_left _ (List.mem_append_left _ (List.mem_append_left _ (List.mem_append_left _ (List.mem_append_left _ (List.mem_append_left _ (List.mem_append_right _ h)))))))
  have hD := hD0.self (sz := s.heap.size)
  generalize hAe : va_A [(h, .inr (7, [.null, .null, .null, .null, .null, .null, .null, .int 0, .int 0]))] s.heap.size = A at hD ⊢
  have hA : ∀ q : Nat, s.heap.size ≤ q → A q := fun q h => by rw [← hAe]; exact Or.inr h
  have hS : va_S A s.heap s.heap [] := va_S.rf
  have hP : va_P D vwCl [(h, .inr (7, [.null, .null, .null, .null, .null, .null, .null, .int 0, .int 0]))] s.heap := hP
  refine lv_aload_n hx hb dX8_init_0 rfl (lv_at hl 0 rfl) ?_
  refine W.objInit hx hb hown (hts _ (List.mem_of_getElem? (i := 1) rfl)) (hts _ (List.mem_of_getElem? (i := 2) rfl)) (hts _ (List.mem_of_getElem? (i := 3) rfl)) rfl (by rw [hml]; exact hl.1) rfl dX8_init_1 (Nat.le_of_ble_eq_true rfl) (Nat.le_of_ble_eq_true rfl) ?_
  refine W.eq (g2 := F0 m 4 ls []) rfl ?_
  refine lv_aload_n hx hb dX8_init_4 rfl (lv_at hl 0 rfl) ?_
  refine va_new (ci := 1) (fs := [.null, .null, .null, .null, .int 0, .int 0]) (C := RX1) (T := TX1) (N := 6) hx hb hts hiX1 tyX1 tyX1_ok hown (hts _ (List.mem_of_getElem? (i := 4) rfl)) (hts _ (List.mem_of_getElem? (i := 5) rfl)) (hts _ (List.mem_of_getElem? (i := 6) rfl)) hK hP hD hS hA rfl (fun j hj => by rcases (show j = 0 ∨ j = 1 ∨ j = 2 ∨ j = 3 ∨ j = 4 ∨ j = 5 by omega) with rfl | rfl | rfl | rfl | rfl | rfl <;> rfl) (Nat.le_of_ble_eq_true rfl) (Nat.le_of_ble_eq_true rfl) dX8_init_5 (fun q1 H hP hD hS => ?_)
  have hP : va_P D vwCl [(h, .inr (7, [.null, .null, .null, .null, .null, .null, .null, .int 0, .int 0])), (q1, .inr (1, [.null, .null, .null, .null, .int 0, .int 0]))] H := hP
  have hD : va_D A [(h, .inr (7, [.null, .null, .null, .null, .null, .null, .null, .int 0, .int 0])), (q1, .inr (1, [.null, .null, .null, .null, .int 0, .int 0]))] := hD
  refine lv_dup hx hb dX8_init_8 rfl ?_
  have hPc := hP.sub (ws' := [(q1, .inr (1, [.null, .null, .null, .null, .int 0, .int 0]))]) [1] rfl
  have hDc := hD.sub (ws' := [(q1, .inr (1, [.null, .null, .null, .null, .int 0, .int 0]))]) [1] (by decide) rfl
  have hFc := va_free (wc := [(q1, .inr (1, [.null, .null, .null, .null, .int 0, .int 0]))]) hD hS hA [1] rfl
  refine va_callv (va_runI (As := []) (rest := [.ref q1, .ref h]) ⟨hx, hb, hml, hown, hts⟩ (ciX1 l D cI cB cZ q1 H.size) (cwI 0 hts gX8_init_X1_init rfl rfl rfl (hts _ (List.mem_of_getElem? (i := 6) rfl)) (hts _ (List.mem_of_getElem? (i := 32) rfl)) (hts _ (List.mem_of_getElem? (i := 33) rfl)) rfl (by decide +kernel) ⟨(Nat.le_of_ble_eq_true rfl), (Nat.le_of_ble_eq_true rfl)⟩) ⟨PC_fb, fun U hU hW => ⟨rfl, by rw [hU], by rw [hU]; exact hPc, va_K.moved hW.alike hK, hDc.weaken (fun _ _ _ _ => trivial)⟩⟩ rfl rfl hl.1 rfl (lv_room (Nat.le_of_ble_eq_true rfl)) dX8_init_9 ⟨(Nat.le_of_ble_eq_true rfl), (Nat.le_of_ble_eq_true rfl)⟩) hS (fun q _ h => hFc q h) hFc (fun u t H1 locs ht hvm _ hB hz1 hk1 hS => ?_)
  obtain ⟨hP1, hD1⟩ := hB
  rw [ht] at hP1
  obtain ⟨q2, eq2⟩ : ∃ z : Nat, z = u 0 := ⟨_, rfl⟩
  obtain ⟨q3, eq3⟩ : ∃ z : Nat, z = u 1 := ⟨_, rfl⟩
  obtain ⟨q4, eq4⟩ : ∃ z : Nat, z = u 2 := ⟨_, rfl⟩
  obtain ⟨q5, eq5⟩ : ∃ z : Nat, z = u 3 := ⟨_, rfl⟩
  replace hP1 : va_P D vwCl [(q1, .inr (1, [.ref q2, .ref q3, .ref q4, .ref q5, .int 1, .int 0])), (q2, .inl (cI, 60, .inl (upd z0 (0 : Int32).toNatClampNeg (-1)))), (q3, .inl (cI, 60, .inl (upd z0 (0 : Int32).toNatClampNeg 0))), (q4, .inl (cZ, 60, .inl (upd z0 (0 : Int32).toNatClampNeg (vp_nar .boolean 0)))), (q5, .inl (cI, 3600, .inl z0))] H1 := by simp only [eq2, eq3, eq4, eq5]; exact hP1
  replace hD1 : va_D (va_A [(q1, .inr (1, [.null, .null, .null, .null, .int 0, .int 0]))] H.size) [(q1, .inr (1, [.ref q2, .ref q3, .ref q4, .ref q5, .int 1, .int 0])), (q2, .inl (cI, 60, .inl (upd z0 (0 : Int32).toNatClampNeg (-1)))), (q3, .inl (cI, 60, .inl (upd z0 (0 : Int32).toNatClampNeg 0))), (q4, .inl (cZ, 60, .inl (upd z0 (0 : Int32).toNatClampNeg (vp_nar .boolean 0)))), (q5, .inl (cI, 3600, .inl z0))] := by simp only [eq2, eq3, eq4, eq5]; exact hD1
  obtain ⟨hP, hD⟩ := va_join (wr := [(h, .inr (7, [.null, .null, .null, .null, .null, .null, .null, .int 0, .int 0]))]) (w1 := [(q1, .inr (1, [.ref q2, .ref q3, .ref q4, .ref q5, .int 1, .int 0])), (q2, .inl (cI, 60, .inl (upd z0 (0 : Int32).toNatClampNeg (-1)))), (q3, .inl (cI, 60, .inl (upd z0 (0 : Int32).toNatClampNeg 0))), (q4, .inl (cZ, 60, .inl (upd z0 (0 : Int32).toNatClampNeg (vp_nar .boolean 0)))), (q5, .inl (cI, 3600, .inl z0))]) hP hD [1] [0] rfl rfl (by decide) (by decide) hk1 hFc hP1 hD1
  generalize H1 = H at hP hS ⊢
  have hP : va_P D vwCl [(h, .inr (7, [.null, .null, .null, .null, .null, .null, .null, .int 0, .int 0])), (q1, .inr (1, [.ref q2, .ref q3, .ref q4, .ref q5, .int 1, .int 0])), (q2, .inl (cI, 60, .inl (upd z0 (0 : Int32).toNatClampNeg (-1)))), (q3, .inl (cI, 60, .inl (upd z0 (0 : Int32).toNatClampNeg 0))), (q4, .inl (cZ, 60, .inl (upd z0 (0 : Int32).toNatClampNeg (vp_nar .boolean 0)))), (q5, .inl (cI, 3600, .inl z0))] H := hP
  have hD : va_D A [(h, .inr (7, [.null, .null, .null, .null, .null, .null, .null, .int 0, .int 0])), (q1, .inr (1, [.ref q2, .ref q3, .ref q4, .ref q5, .int 1, .int 0])), (q2, .inl (cI, 60, .inl (upd z0 (0 : Int32).toNatClampNeg (-1)))), (q3, .inl (cI, 60, .inl (upd z0 (0 : Int32).toNatClampNeg 0))), (q4, .inl (cZ, 60, .inl (upd z0 (0 : Int32).toNatClampNeg (vp_nar .boolean 0)))), (q5, .inl (cI, 3600, .inl z0))] := hD
  refine va_putF (ci := 7) (v := .ref q1) (ty := .object "RoadDepots$Land") (C := RX8) (T := TX8) (N := 9) hx hb hts hiX8 tyX8 tyX8_ok nmX8 hown hK hP hD hS 0 rfl rfl 0 (by decide) (hts _ (List.mem_of_getElem? (i := 7) rfl)) (fun _ h9 => h9) rfl hin rfl (tyX8_ok 0 (by decide)) rfl rfl (Nat.le_of_ble_eq_true rfl) dX8_init_12 (fun H locs hP hD hS => ?_)
  have hP : va_P D vwCl [(h, .inr (7, [.ref q1, .null, .null, .null, .null, .null, .null, .int 0, .int 0])), (q1, .inr (1, [.ref q2, .ref q3, .ref q4, .ref q5, .int 1, .int 0])), (q2, .inl (cI, 60, .inl (upd z0 (0 : Int32).toNatClampNeg (-1)))), (q3, .inl (cI, 60, .inl (upd z0 (0 : Int32).toNatClampNeg 0))), (q4, .inl (cZ, 60, .inl (upd z0 (0 : Int32).toNatClampNeg (vp_nar .boolean 0)))), (q5, .inl (cI, 3600, .inl z0))] H := hP
  have hD : va_D A [(h, .inr (7, [.ref q1, .null, .null, .null, .null, .null, .null, .int 0, .int 0])), (q1, .inr (1, [.ref q2, .ref q3, .ref q4, .ref q5, .int 1, .int 0])), (q2, .inl (cI, 60, .inl (upd z0 (0 : Int32).toNatClampNeg (-1)))), (q3, .inl (cI, 60, .inl (upd z0 (0 : Int32).toNatClampNeg 0))), (q4, .inl (cZ, 60, .inl (upd z0 (0 : Int32).toNatClampNeg (vp_nar .boolean 0)))), (q5, .inl (cI, 3600, .inl z0))] := hD
  refine lv_aload_n hx hb dX8_init_15 rfl (lv_at hl 0 rfl) ?_
  refine va_new (ci := 6) (fs := [.null, .null, .int 0, .null]) (C := RX6) (T := TX6) (N := 4) hx hb hts hiX6 tyX6 tyX6_ok hown (hts _ (List.mem_of_getElem? (i := 8) rfl)) (hts _ (List.mem_of_getElem? (i := 9) rfl)) (hts _ (List.mem_of_getElem? (i := 10) rfl)) hK hP hD hS hA rfl (fun j hj => by rcases (show j = 0 ∨ j = 1 ∨ j = 2 ∨ j = 3 by omega) with rfl | rfl | rfl | rfl <;> rfl) (Nat.le_of_ble_eq_true rfl) (Nat.le_of_ble_eq_true rfl) dX8_init_16 (fun q6 H hP hD hS => ?_)
  have hP : va_P D vwCl [(h, .inr (7, [.ref q1, .null, .null, .null, .null, .null, .null, .int 0, .int 0])), (q1, .inr (1, [.ref q2, .ref q3, .ref q4, .ref q5, .int 1, .int 0])), (q2, .inl (cI, 60, .inl (upd z0 (0 : Int32).toNatClampNeg (-1)))), (q3, .inl (cI, 60, .inl (upd z0 (0 : Int32).toNatClampNeg 0))), (q4, .inl (cZ, 60, .inl (upd z0 (0 : Int32).toNatClampNeg (vp_nar .boolean 0)))), (q5, .inl (cI, 3600, .inl z0)), (q6, .inr (6, [.null, .null, .int 0, .null]))] H := hP
  have hD : va_D A [(h, .inr (7, [.ref q1, .null, .null, .null, .null, .null, .null, .int 0, .int 0])), (q1, .inr (1, [.ref q2, .ref q3, .ref q4, .ref q5, .int 1, .int 0])), (q2, .inl (cI, 60, .inl (upd z0 (0 : Int32).toNatClampNeg (-1)))), (q3, .inl (cI, 60, .inl (upd z0 (0 : Int32).toNatClampNeg 0))), (q4, .inl (cZ, 60, .inl (upd z0 (0 : Int32).toNatClampNeg (vp_nar .boolean 0)))), (q5, .inl (cI, 3600, .inl z0)), (q6, .inr (6, [.null, .null, .int 0, .null]))] := hD
  refine lv_dup hx hb dX8_init_19 rfl ?_
  refine lv_aload_n hx hb dX8_init_20 rfl (lv_at hl 0 rfl) ?_
  refine va_get (ci := 7) (v := .ref q1) (C := RX8) (T := TX8) (N := 9) hx hb hts hiX8 hown hK hP 0 rfl rfl 0 (by decide) (hts _ (List.mem_of_getElem? (i := 7) rfl)) (fun _ h9 => h9) rfl dX8_init_21 ?_
  have hPc := hP.sub (ws' := [(q6, .inr (6, [.null, .null, .int 0, .null]))]) [6] rfl
  have hDc := hD.sub (ws' := [(q6, .inr (6, [.null, .null, .int 0, .null]))]) [6] (by decide) rfl
  have hFc := va_free (wc := [(q6, .inr (6, [.null, .null, .int 0, .null]))]) hD hS hA [6] rfl
  refine va_callv (va_runI (As := [.ref q1]) (rest := [.ref q6, .ref h]) ⟨hx, hb, hml, hown, hts⟩ (ciX6 l D cI cB cZ q6 H.size q1) (cwI 1 hts gX8_init_X6_init rfl rfl rfl (hts _ (List.mem_of_getElem? (i := 10) rfl)) (hts _ (List.mem_of_getElem? (i := 48) rfl)) (hts _ (List.mem_of_getElem? (i := 49) rfl)) rfl (by decide +kernel) ⟨(Nat.le_of_ble_eq_true rfl), (Nat.le_of_ble_eq_true rfl)⟩) ⟨PC_fb, fun U hU hW => ⟨rfl, by rw [hU], by rw [hU]; exact hPc, va_K.moved hW.alike hK, hDc.weaken (fun _ _ _ _ => trivial)⟩⟩ rfl rfl hl.1 rfl (lv_room (Nat.le_of_ble_eq_true rfl)) dX8_init_24 ⟨(Nat.le_of_ble_eq_true rfl), (Nat.le_of_ble_eq_true rfl)⟩) hS (fun q _ h => hFc q h) hFc (fun u t H1 locs ht hvm _ hB hz1 hk1 hS => ?_)
  obtain ⟨hP1, hD1⟩ := hB
  rw [ht] at hP1
  obtain ⟨q7, eq7⟩ : ∃ z : Nat, z = u 0 := ⟨_, rfl⟩
  obtain ⟨q8, eq8⟩ : ∃ z : Nat, z = u 1 := ⟨_, rfl⟩
  replace hP1 : va_P D vwCl [(q6, .inr (6, [.ref q1, .ref q7, .int 0, .ref q8])), (q7, .inl (cI, 60, .inl z0)), (q8, .inl (cI, 60, .inl z0))] H1 := by simp only [eq7, eq8]; exact hP1
  replace hD1 : va_D (va_A [(q6, .inr (6, [.null, .null, .int 0, .null]))] H.size) [(q6, .inr (6, [.ref q1, .ref q7, .int 0, .ref q8])), (q7, .inl (cI, 60, .inl z0)), (q8, .inl (cI, 60, .inl z0))] := by simp only [eq7, eq8]; exact hD1
  obtain ⟨hP, hD⟩ := va_join (wr := [(h, .inr (7, [.ref q1, .null, .null, .null, .null, .null, .null, .int 0, .int 0])), (q1, .inr (1, [.ref q2, .ref q3, .ref q4, .ref q5, .int 1, .int 0])), (q2, .inl (cI, 60, .inl (upd z0 (0 : Int32).toNatClampNeg (-1)))), (q3, .inl (cI, 60, .inl (upd z0 (0 : Int32).toNatClampNeg 0))), (q4, .inl (cZ, 60, .inl (upd z0 (0 : Int32).toNatClampNeg (vp_nar .boolean 0)))), (q5, .inl (cI, 3600, .inl z0))]) (w1 := [(q6, .inr (6, [.ref q1, .ref q7, .int 0, .ref q8])), (q7, .inl (cI, 60, .inl z0)), (q8, .inl (cI, 60, .inl z0))]) hP hD [6] [0, 1, 2, 3, 4, 5] rfl rfl (by decide) (by decide) hk1 hFc hP1 hD1
  generalize H1 = H at hP hS ⊢
  have hP : va_P D vwCl [(h, .inr (7, [.ref q1, .null, .null, .null, .null, .null, .null, .int 0, .int 0])), (q1, .inr (1, [.ref q2, .ref q3, .ref q4, .ref q5, .int 1, .int 0])), (q2, .inl (cI, 60, .inl (upd z0 (0 : Int32).toNatClampNeg (-1)))), (q3, .inl (cI, 60, .inl (upd z0 (0 : Int32).toNatClampNeg 0))), (q4, .inl (cZ, 60, .inl (upd z0 (0 : Int32).toNatClampNeg (vp_nar .boolean 0)))), (q5, .inl (cI, 3600, .inl z0)), (q6, .inr (6, [.ref q1, .ref q7, .int 0, .ref q8])), (q7, .inl (cI, 60, .inl z0)), (q8, .inl (cI, 60, .inl z0))] H := hP
  have hD : va_D A [(h, .inr (7, [.ref q1, .null, .null, .null, .null, .null, .null, .int 0, .int 0])), (q1, .inr (1, [.ref q2, .ref q3, .ref q4, .ref q5, .int 1, .int 0])), (q2, .inl (cI, 60, .inl (upd z0 (0 : Int32).toNatClampNeg (-1)))), (q3, .inl (cI, 60, .inl (upd z0 (0 : Int32).toNatClampNeg 0))), (q4, .inl (cZ, 60, .inl (upd z0 (0 : Int32).toNatClampNeg (vp_nar .boolean 0)))), (q5, .inl (cI, 3600, .inl z0)), (q6, .inr (6, [.ref q1, .ref q7, .int 0, .ref q8])), (q7, .inl (cI, 60, .inl z0)), (q8, .inl (cI, 60, .inl z0))] := hD
  refine va_putF (ci := 7) (v := .ref q6) (ty := .object "RoadDepots$Ways") (C := RX8) (T := TX8) (N := 9) hx hb hts hiX8 tyX8 tyX8_ok nmX8 hown hK hP hD hS 0 rfl rfl 1 (by decide) (hts _ (List.mem_of_getElem? (i := 11) rfl)) (fun _ h9 => h9) rfl hin rfl (tyX8_ok 1 (by decide)) rfl rfl (Nat.le_of_ble_eq_true rfl) dX8_init_27 (fun H locs hP hD hS => ?_)
  have hP : va_P D vwCl [(h, .inr (7, [.ref q1, .ref q6, .null, .null, .null, .null, .null, .int 0, .int 0])), (q1, .inr (1, [.ref q2, .ref q3, .ref q4, .ref q5, .int 1, .int 0])), (q2, .inl (cI, 60, .inl (upd z0 (0 : Int32).toNatClampNeg (-1)))), (q3, .inl (cI, 60, .inl (upd z0 (0 : Int32).toNatClampNeg 0))), (q4, .inl (cZ, 60, .inl (upd z0 (0 : Int32).toNatClampNeg (vp_nar .boolean 0)))), (q5, .inl (cI, 3600, .inl z0)), (q6, .inr (6, [.ref q1, .ref q7, .int 0, .ref q8])), (q7, .inl (cI, 60, .inl z0)), (q8, .inl (cI, 60, .inl z0))] H := hP
  have hD : va_D A [(h, .inr (7, [.ref q1, .ref q6, .null, .null, .null, .null, .null, .int 0, .int 0])), (q1, .inr (1, [.ref q2, .ref q3, .ref q4, .ref q5, .int 1, .int 0])), (q2, .inl (cI, 60, .inl (upd z0 (0 : Int32).toNatClampNeg (-1)))), (q3, .inl (cI, 60, .inl (upd z0 (0 : Int32).toNatClampNeg 0))), (q4, .inl (cZ, 60, .inl (upd z0 (0 : Int32).toNatClampNeg (vp_nar .boolean 0)))), (q5, .inl (cI, 3600, .inl z0)), (q6, .inr (6, [.ref q1, .ref q7, .int 0, .ref q8])), (q7, .inl (cI, 60, .inl z0)), (q8, .inl (cI, 60, .inl z0))] := hD
  refine lv_aload_n hx hb dX8_init_30 rfl (lv_at hl 0 rfl) ?_
  refine va_new (ci := 0) (fs := [.null, .null]) (C := RX0) (T := TX0) (N := 2) hx hb hts hiX0 tyX0 tyX0_ok hown (hts _ (List.mem_of_getElem? (i := 12) rfl)) (hts _ (List.mem_of_getElem? (i := 13) rfl)) (hts _ (List.mem_of_getElem? (i := 14) rfl)) hK hP hD hS hA rfl (fun j hj => by rcases (show j = 0 ∨ j = 1 by omega) with rfl | rfl <;> rfl) (Nat.le_of_ble_eq_true rfl) (Nat.le_of_ble_eq_true rfl) dX8_init_31 (fun q9 H hP hD hS => ?_)
  have hP : va_P D vwCl [(h, .inr (7, [.ref q1, .ref q6, .null, .null, .null, .null, .null, .int 0, .int 0])), (q1, .inr (1, [.ref q2, .ref q3, .ref q4, .ref q5, .int 1, .int 0])), (q2, .inl (cI, 60, .inl (upd z0 (0 : Int32).toNatClampNeg (-1)))), (q3, .inl (cI, 60, .inl (upd z0 (0 : Int32).toNatClampNeg 0))), (q4, .inl (cZ, 60, .inl (upd z0 (0 : Int32).toNatClampNeg (vp_nar .boolean 0)))), (q5, .inl (cI, 3600, .inl z0)), (q6, .inr (6, [.ref q1, .ref q7, .int 0, .ref q8])), (q7, .inl (cI, 60, .inl z0)), (q8, .inl (cI, 60, .inl z0)), (q9, .inr (0, [.null, .null]))] H := hP
  have hD : va_D A [(h, .inr (7, [.ref q1, .ref q6, .null, .null, .null, .null, .null, .int 0, .int 0])), (q1, .inr (1, [.ref q2, .ref q3, .ref q4, .ref q5, .int 1, .int 0])), (q2, .inl (cI, 60, .inl (upd z0 (0 : Int32).toNatClampNeg (-1)))), (q3, .inl (cI, 60, .inl (upd z0 (0 : Int32).toNatClampNeg 0))), (q4, .inl (cZ, 60, .inl (upd z0 (0 : Int32).toNatClampNeg (vp_nar .boolean 0)))), (q5, .inl (cI, 3600, .inl z0)), (q6, .inr (6, [.ref q1, .ref q7, .int 0, .ref q8])), (q7, .inl (cI, 60, .inl z0)), (q8, .inl (cI, 60, .inl z0)), (q9, .inr (0, [.null, .null]))] := hD
  refine lv_dup hx hb dX8_init_34 rfl ?_
  refine lv_aload_n hx hb dX8_init_35 rfl (lv_at hl 0 rfl) ?_
  refine va_get (ci := 7) (v := .ref q1) (C := RX8) (T := TX8) (N := 9) hx hb hts hiX8 hown hK hP 0 rfl rfl 0 (by decide) (hts _ (List.mem_of_getElem? (i := 7) rfl)) (fun _ h9 => h9) rfl dX8_init_36 ?_
  have hPc := hP.sub (ws' := [(q9, .inr (0, [.null, .null]))]) [9] rfl
  have hDc := hD.sub (ws' := [(q9, .inr (0, [.null, .null]))]) [9] (by decide) rfl
  have hFc := va_free (wc := [(q9, .inr (0, [.null, .null]))]) hD hS hA [9] rfl
  refine va_callv (va_runI (As := [.ref q1]) (rest := [.ref q9, .ref h]) ⟨hx, hb, hml, hown, hts⟩ (ciX0 l D cI cB cZ q9 H.size q1) (cwI 1 hts gX8_init_X0_init rfl rfl rfl (hts _ (List.mem_of_getElem? (i := 14) rfl)) (hts _ (List.mem_of_getElem? (i := 55) rfl)) (hts _ (List.mem_of_getElem? (i := 56) rfl)) rfl (by decide +kernel) ⟨(Nat.le_of_ble_eq_true rfl), (Nat.le_of_ble_eq_true rfl)⟩) ⟨PC_fb, fun U hU hW => ⟨rfl, by rw [hU], by rw [hU]; exact hPc, va_K.moved hW.alike hK, hDc.weaken (fun _ _ _ _ => trivial)⟩⟩ rfl rfl hl.1 rfl (lv_room (Nat.le_of_ble_eq_true rfl)) dX8_init_39 ⟨(Nat.le_of_ble_eq_true rfl), (Nat.le_of_ble_eq_true rfl)⟩) hS (fun q _ h => hFc q h) hFc (fun u t H1 locs ht hvm _ hB hz1 hk1 hS => ?_)
  obtain ⟨hP1, hD1⟩ := hB
  rw [ht] at hP1
  obtain ⟨q10, eq10⟩ : ∃ z : Nat, z = u 0 := ⟨_, rfl⟩
  replace hP1 : va_P D vwCl [(q9, .inr (0, [.ref q1, .ref q10])), (q10, .inl (cI, 60, .inl z0))] H1 := by simp only [eq10]; exact hP1
  replace hD1 : va_D (va_A [(q9, .inr (0, [.null, .null]))] H.size) [(q9, .inr (0, [.ref q1, .ref q10])), (q10, .inl (cI, 60, .inl z0))] := by simp only [eq10]; exact hD1
  obtain ⟨hP, hD⟩ := va_join (wr := [(h, .inr (7, [.ref q1, .ref q6, .null, .null, .null, .null, .null, .int 0, .int 0])), (q1, .inr (1, [.ref q2, .ref q3, .ref q4, .ref q5, .int 1, .int 0])), (q2, .inl (cI, 60, .inl (upd z0 (0 : Int32).toNatClampNeg (-1)))), (q3, .inl (cI, 60, .inl (upd z0 (0 : Int32).toNatClampNeg 0))), (q4, .inl (cZ, 60, .inl (upd z0 (0 : Int32).toNatClampNeg (vp_nar .boolean 0)))), (q5, .inl (cI, 3600, .inl z0)), (q6, .inr (6, [.ref q1, .ref q7, .int 0, .ref q8])), (q7, .inl (cI, 60, .inl z0)), (q8, .inl (cI, 60, .inl z0))]) (w1 := [(q9, .inr (0, [.ref q1, .ref q10])), (q10, .inl (cI, 60, .inl z0))]) hP hD [9] [0, 1, 2, 3, 4, 5, 6, 7, 8] rfl rfl (by decide) (by decide) hk1 hFc hP1 hD1
  generalize H1 = H at hP hS ⊢
  have hP : va_P D vwCl [(h, .inr (7, [.ref q1, .ref q6, .null, .null, .null, .null, .null, .int 0, .int 0])), (q1, .inr (1, [.ref q2, .ref q3, .ref q4, .ref q5, .int 1, .int 0])), (q2, .inl (cI, 60, .inl (upd z0 (0 : Int32).toNatClampNeg (-1)))), (q3, .inl (cI, 60, .inl (upd z0 (0 : Int32).toNatClampNeg 0))), (q4, .inl (cZ, 60, .inl (upd z0 (0 : Int32).toNatClampNeg (vp_nar .boolean 0)))), (q5, .inl (cI, 3600, .inl z0)), (q6, .inr (6, [.ref q1, .ref q7, .int 0, .ref q8])), (q7, .inl (cI, 60, .inl z0)), (q8, .inl (cI, 60, .inl z0)), (q9, .inr (0, [.ref q1, .ref q10])), (q10, .inl (cI, 60, .inl z0))] H := hP
  have hD : va_D A [(h, .inr (7, [.ref q1, .ref q6, .null, .null, .null, .null, .null, .int 0, .int 0])), (q1, .inr (1, [.ref q2, .ref q3, .ref q4, .ref q5, .int 1, .int 0])), (q2, .inl (cI, 60, .inl (upd z0 (0 : Int32).toNatClampNeg (-1)))), (q3, .inl (cI, 60, .inl (upd z0 (0 : Int32).toNatClampNeg 0))), (q4, .inl (cZ, 60, .inl (upd z0 (0 : Int32).toNatClampNeg (vp_nar .boolean 0)))), (q5, .inl (cI, 3600, .inl z0)), (q6, .inr (6, [.ref q1, .ref q7, .int 0, .ref q8])), (q7, .inl (cI, 60, .inl z0)), (q8, .inl (cI, 60, .inl z0)), (q9, .inr (0, [.ref q1, .ref q10])), (q10, .inl (cI, 60, .inl z0))] := hD
  refine va_putF (ci := 7) (v := .ref q9) (ty := .object "RoadDepots$Depots") (C := RX8) (T := TX8) (N := 9) hx hb hts hiX8 tyX8 tyX8_ok nmX8 hown hK hP hD hS 0 rfl rfl 2 (by decide) (hts _ (List.mem_of_getElem? (i := 15) rfl)) (fun _ h9 => h9) rfl hin rfl (tyX8_ok 2 (by decide)) rfl rfl (Nat.le_of_ble_eq_true rfl) dX8_init_42 (fun H locs hP hD hS => ?_)
  have hP : va_P D vwCl [(h, .inr (7, [.ref q1, .ref q6, .ref q9, .null, .null, .null, .null, .int 0, .int 0])), (q1, .inr (1, [.ref q2, .ref q3, .ref q4, .ref q5, .int 1, .int 0])), (q2, .inl (cI, 60, .inl (upd z0 (0 : Int32).toNatClampNeg (-1)))), (q3, .inl (cI, 60, .inl (upd z0 (0 : Int32).toNatClampNeg 0))), (q4, .inl (cZ, 60, .inl (upd z0 (0 : Int32).toNatClampNeg (vp_nar .boolean 0)))), (q5, .inl (cI, 3600, .inl z0)), (q6, .inr (6, [.ref q1, .ref q7, .int 0, .ref q8])), (q7, .inl (cI, 60, .inl z0)), (q8, .inl (cI, 60, .inl z0)), (q9, .inr (0, [.ref q1, .ref q10])), (q10, .inl (cI, 60, .inl z0))] H := hP
  have hD : va_D A [(h, .inr (7, [.ref q1, .ref q6, .ref q9, .null, .null, .null, .null, .int 0, .int 0])), (q1, .inr (1, [.ref q2, .ref q3, .ref q4, .ref q5, .int 1, .int 0])), (q2, .inl (cI, 60, .inl (upd z0 (0 : Int32).toNatClampNeg (-1)))), (q3, .inl (cI, 60, .inl (upd z0 (0 : Int32).toNatClampNeg 0))), (q4, .inl (cZ, 60, .inl (upd z0 (0 : Int32).toNatClampNeg (vp_nar .boolean 0)))), (q5, .inl (cI, 3600, .inl z0)), (q6, .inr (6, [.ref q1, .ref q7, .int 0, .ref q8])), (q7, .inl (cI, 60, .inl z0)), (q8, .inl (cI, 60, .inl z0)), (q9, .inr (0, [.ref q1, .ref q10])), (q10, .inl (cI, 60, .inl z0))] := hD
  refine lv_aload_n hx hb dX8_init_45 rfl (lv_at hl 0 rfl) ?_
  refine va_new (ci := 5) (fs := [.null, .int 0]) (C := RX5) (T := TX5) (N := 2) hx hb hts hiX5 tyX5 tyX5_ok hown (hts _ (List.mem_of_getElem? (i := 16) rfl)) (hts _ (List.mem_of_getElem? (i := 17) rfl)) (hts _ (List.mem_of_getElem? (i := 18) rfl)) hK hP hD hS hA rfl (fun j hj => by rcases (show j = 0 ∨ j = 1 by omega) with rfl | rfl <;> rfl) (Nat.le_of_ble_eq_true rfl) (Nat.le_of_ble_eq_true rfl) dX8_init_46 (fun q11 H hP hD hS => ?_)
  have hP : va_P D vwCl [(h, .inr (7, [.ref q1, .ref q6, .ref q9, .null, .null, .null, .null, .int 0, .int 0])), (q1, .inr (1, [.ref q2, .ref q3, .ref q4, .ref q5, .int 1, .int 0])), (q2, .inl (cI, 60, .inl (upd z0 (0 : Int32).toNatClampNeg (-1)))), (q3, .inl (cI, 60, .inl (upd z0 (0 : Int32).toNatClampNeg 0))), (q4, .inl (cZ, 60, .inl (upd z0 (0 : Int32).toNatClampNeg (vp_nar .boolean 0)))), (q5, .inl (cI, 3600, .inl z0)), (q6, .inr (6, [.ref q1, .ref q7, .int 0, .ref q8])), (q7, .inl (cI, 60, .inl z0)), (q8, .inl (cI, 60, .inl z0)), (q9, .inr (0, [.ref q1, .ref q10])), (q10, .inl (cI, 60, .inl z0)), (q11, .inr (5, [.null, .int 0]))] H := hP
  have hD : va_D A [(h, .inr (7, [.ref q1, .ref q6, .ref q9, .null, .null, .null, .null, .int 0, .int 0])), (q1, .inr (1, [.ref q2, .ref q3, .ref q4, .ref q5, .int 1, .int 0])), (q2, .inl (cI, 60, .inl (upd z0 (0 : Int32).toNatClampNeg (-1)))), (q3, .inl (cI, 60, .inl (upd z0 (0 : Int32).toNatClampNeg 0))), (q4, .inl (cZ, 60, .inl (upd z0 (0 : Int32).toNatClampNeg (vp_nar .boolean 0)))), (q5, .inl (cI, 3600, .inl z0)), (q6, .inr (6, [.ref q1, .ref q7, .int 0, .ref q8])), (q7, .inl (cI, 60, .inl z0)), (q8, .inl (cI, 60, .inl z0)), (q9, .inr (0, [.ref q1, .ref q10])), (q10, .inl (cI, 60, .inl z0)), (q11, .inr (5, [.null, .int 0]))] := hD
  refine lv_dup hx hb dX8_init_49 rfl ?_
  have hPc := hP.sub (ws' := [(q11, .inr (5, [.null, .int 0]))]) [11] rfl
  have hDc := hD.sub (ws' := [(q11, .inr (5, [.null, .int 0]))]) [11] (by decide) rfl
  have hFc := va_free (wc := [(q11, .inr (5, [.null, .int 0]))]) hD hS hA [11] rfl
  refine va_callv (va_runI (As := []) (rest := [.ref q11, .ref h]) ⟨hx, hb, hml, hown, hts⟩ (ciX5 l D cI cB cZ q11 H.size) (cwI 0 hts gX8_init_X5_init rfl rfl rfl (hts _ (List.mem_of_getElem? (i := 18) rfl)) (hts _ (List.mem_of_getElem? (i := 61) rfl)) (hts _ (List.mem_of_getElem? (i := 62) rfl)) rfl (by decide +kernel) ⟨(Nat.le_of_ble_eq_true rfl), (Nat.le_of_ble_eq_true rfl)⟩) ⟨PC_fb, fun U hU hW => ⟨rfl, by rw [hU], by rw [hU]; exact hPc, va_K.moved hW.alike hK, hDc.weaken (fun _ _ _ _ => trivial)⟩⟩ rfl rfl hl.1 rfl (lv_room (Nat.le_of_ble_eq_true rfl)) dX8_init_50 ⟨(Nat.le_of_ble_eq_true rfl), (Nat.le_of_ble_eq_true rfl)⟩) hS (fun q _ h => hFc q h) hFc (fun u t H1 locs ht hvm _ hB hz1 hk1 hS => ?_)
  obtain ⟨hP1, hD1⟩ := hB
  rw [ht] at hP1
  obtain ⟨q12, eq12⟩ : ∃ z : Nat, z = u 0 := ⟨_, rfl⟩
  replace hP1 : va_P D vwCl [(q11, .inr (5, [.ref q12, .int (0 : Int32)])), (q12, .inl (cB, 120, .inl z0))] H1 := by simp only [eq12]; exact hP1
  replace hD1 : va_D (va_A [(q11, .inr (5, [.null, .int 0]))] H.size) [(q11, .inr (5, [.ref q12, .int (0 : Int32)])), (q12, .inl (cB, 120, .inl z0))] := by simp only [eq12]; exact hD1
  obtain ⟨hP, hD⟩ := va_join (wr := [(h, .inr (7, [.ref q1, .ref q6, .ref q9, .null, .null, .null, .null, .int 0, .int 0])), (q1, .inr (1, [.ref q2, .ref q3, .ref q4, .ref q5, .int 1, .int 0])), (q2, .inl (cI, 60, .inl (upd z0 (0 : Int32).toNatClampNeg (-1)))), (q3, .inl (cI, 60, .inl (upd z0 (0 : Int32).toNatClampNeg 0))), (q4, .inl (cZ, 60, .inl (upd z0 (0 : Int32).toNatClampNeg (vp_nar .boolean 0)))), (q5, .inl (cI, 3600, .inl z0)), (q6, .inr (6, [.ref q1, .ref q7, .int 0, .ref q8])), (q7, .inl (cI, 60, .inl z0)), (q8, .inl (cI, 60, .inl z0)), (q9, .inr (0, [.ref q1, .ref q10])), (q10, .inl (cI, 60, .inl z0))]) (w1 := [(q11, .inr (5, [.ref q12, .int (0 : Int32)])), (q12, .inl (cB, 120, .inl z0))]) hP hD [11] [0, 1, 2, 3, 4, 5, 6, 7, 8, 9, 10] rfl rfl (by decide) (by decide) hk1 hFc hP1 hD1
  generalize H1 = H at hP hS ⊢
  have hP : va_P D vwCl [(h, .inr (7, [.ref q1, .ref q6, .ref q9, .null, .null, .null, .null, .int 0, .int 0])), (q1, .inr (1, [.ref q2, .ref q3, .ref q4, .ref q5, .int 1, .int 0])), (q2, .inl (cI, 60, .inl (upd z0 (0 : Int32).toNatClampNeg (-1)))), (q3, .inl (cI, 60, .inl (upd z0 (0 : Int32).toNatClampNeg 0))), (q4, .inl (cZ, 60, .inl (upd z0 (0 : Int32).toNatClampNeg (vp_nar .boolean 0)))), (q5, .inl (cI, 3600, .inl z0)), (q6, .inr (6, [.ref q1, .ref q7, .int 0, .ref q8])), (q7, .inl (cI, 60, .inl z0)), (q8, .inl (cI, 60, .inl z0)), (q9, .inr (0, [.ref q1, .ref q10])), (q10, .inl (cI, 60, .inl z0)), (q11, .inr (5, [.ref q12, .int (0 : Int32)])), (q12, .inl (cB, 120, .inl z0))] H := hP
  have hD : va_D A [(h, .inr (7, [.ref q1, .ref q6, .ref q9, .null, .null, .null, .null, .int 0, .int 0])), (q1, .inr (1, [.ref q2, .ref q3, .ref q4, .ref q5, .int 1, .int 0])), (q2, .inl (cI, 60, .inl (upd z0 (0 : Int32).toNatClampNeg (-1)))), (q3, .inl (cI, 60, .inl (upd z0 (0 : Int32).toNatClampNeg 0))), (q4, .inl (cZ, 60, .inl (upd z0 (0 : Int32).toNatClampNeg (vp_nar .boolean 0)))), (q5, .inl (cI, 3600, .inl z0)), (q6, .inr (6, [.ref q1, .ref q7, .int 0, .ref q8])), (q7, .inl (cI, 60, .inl z0)), (q8, .inl (cI, 60, .inl z0)), (q9, .inr (0, [.ref q1, .ref q10])), (q10, .inl (cI, 60, .inl z0)), (q11, .inr (5, [.ref q12, .int (0 : Int32)])), (q12, .inl (cB, 120, .inl z0))] := hD
  refine va_putF (ci := 7) (v := .ref q11) (ty := .object "RoadDepots$Text") (C := RX8) (T := TX8) (N := 9) hx hb hts hiX8 tyX8 tyX8_ok nmX8 hown hK hP hD hS 0 rfl rfl 3 (by decide) (hts _ (List.mem_of_getElem? (i := 19) rfl)) (fun _ h9 => h9) rfl hin rfl (tyX8_ok 3 (by decide)) rfl rfl (Nat.le_of_ble_eq_true rfl) dX8_init_53 (fun H locs hP hD hS => ?_)
  have hP : va_P D vwCl [(h, .inr (7, [.ref q1, .ref q6, .ref q9, .ref q11, .null, .null, .null, .int 0, .int 0])), (q1, .inr (1, [.ref q2, .ref q3, .ref q4, .ref q5, .int 1, .int 0])), (q2, .inl (cI, 60, .inl (upd z0 (0 : Int32).toNatClampNeg (-1)))), (q3, .inl (cI, 60, .inl (upd z0 (0 : Int32).toNatClampNeg 0))), (q4, .inl (cZ, 60, .inl (upd z0 (0 : Int32).toNatClampNeg (vp_nar .boolean 0)))), (q5, .inl (cI, 3600, .inl z0)), (q6, .inr (6, [.ref q1, .ref q7, .int 0, .ref q8])), (q7, .inl (cI, 60, .inl z0)), (q8, .inl (cI, 60, .inl z0)), (q9, .inr (0, [.ref q1, .ref q10])), (q10, .inl (cI, 60, .inl z0)), (q11, .inr (5, [.ref q12, .int (0 : Int32)])), (q12, .inl (cB, 120, .inl z0))] H := hP
  have hD : va_D A [(h, .inr (7, [.ref q1, .ref q6, .ref q9, .ref q11, .null, .null, .null, .int 0, .int 0])), (q1, .inr (1, [.ref q2, .ref q3, .ref q4, .ref q5, .int 1, .int 0])), (q2, .inl (cI, 60, .inl (upd z0 (0 : Int32).toNatClampNeg (-1)))), (q3, .inl (cI, 60, .inl (upd z0 (0 : Int32).toNatClampNeg 0))), (q4, .inl (cZ, 60, .inl (upd z0 (0 : Int32).toNatClampNeg (vp_nar .boolean 0)))), (q5, .inl (cI, 3600, .inl z0)), (q6, .inr (6, [.ref q1, .ref q7, .int 0, .ref q8])), (q7, .inl (cI, 60, .inl z0)), (q8, .inl (cI, 60, .inl z0)), (q9, .inr (0, [.ref q1, .ref q10])), (q10, .inl (cI, 60, .inl z0)), (q11, .inr (5, [.ref q12, .int (0 : Int32)])), (q12, .inl (cB, 120, .inl z0))] := hD
  refine lv_aload_n hx hb dX8_init_56 rfl (lv_at hl 0 rfl) ?_
  refine va_new (ci := 3) (fs := [.null, .null, .null, .int 0, .null, .int 0, .int 0, .int 0]) (C := RX3) (T := TX3) (N := 8) hx hb hts hiX3 tyX3 tyX3_ok hown (hts _ (List.mem_of_getElem? (i := 20) rfl)) (hts _ (List.mem_of_getElem? (i := 21) rfl)) (hts _ (List.mem_of_getElem? (i := 22) rfl)) hK hP hD hS hA rfl (fun j hj => by rcases (show j = 0 ∨ j = 1 ∨ j = 2 ∨ j = 3 ∨ j = 4 ∨ j = 5 ∨ j = 6 ∨ j = 7 by omega) with rfl | rfl | rfl | rfl | rfl | rfl | rfl | rfl <;> rfl) (Nat.le_of_ble_eq_true rfl) (Nat.le_of_ble_eq_true rfl) dX8_init_57 (fun q13 H hP hD hS => ?_)
  have hP : va_P D vwCl [(h, .inr (7, [.ref q1, .ref q6, .ref q9, .ref q11, .null, .null, .null, .int 0, .int 0])), (q1, .inr (1, [.ref q2, .ref q3, .ref q4, .ref q5, .int 1, .int 0])), (q2, .inl (cI, 60, .inl (upd z0 (0 : Int32).toNatClampNeg (-1)))), (q3, .inl (cI, 60, .inl (upd z0 (0 : Int32).toNatClampNeg 0))), (q4, .inl (cZ, 60, .inl (upd z0 (0 : Int32).toNatClampNeg (vp_nar .boolean 0)))), (q5, .inl (cI, 3600, .inl z0)), (q6, .inr (6, [.ref q1, .ref q7, .int 0, .ref q8])), (q7, .inl (cI, 60, .inl z0)), (q8, .inl (cI, 60, .inl z0)), (q9, .inr (0, [.ref q1, .ref q10])), (q10, .inl (cI, 60, .inl z0)), (q11, .inr (5, [.ref q12, .int (0 : Int32)])), (q12, .inl (cB, 120, .inl z0)), (q13, .inr (3, [.null, .null, .null, .int 0, .null, .int 0, .int 0, .int 0]))] H := hP
  have hD : va_D A [(h, .inr (7, [.ref q1, .ref q6, .ref q9, .ref q11, .null, .null, .null, .int 0, .int 0])), (q1, .inr (1, [.ref q2, .ref q3, .ref q4, .ref q5, .int 1, .int 0])), (q2, .inl (cI, 60, .inl (upd z0 (0 : Int32).toNatClampNeg (-1)))), (q3, .inl (cI, 60, .inl (upd z0 (0 : Int32).toNatClampNeg 0))), (q4, .inl (cZ, 60, .inl (upd z0 (0 : Int32).toNatClampNeg (vp_nar .boolean 0)))), (q5, .inl (cI, 3600, .inl z0)), (q6, .inr (6, [.ref q1, .ref q7, .int 0, .ref q8])), (q7, .inl (cI, 60, .inl z0)), (q8, .inl (cI, 60, .inl z0)), (q9, .inr (0, [.ref q1, .ref q10])), (q10, .inl (cI, 60, .inl z0)), (q11, .inr (5, [.ref q12, .int (0 : Int32)])), (q12, .inl (cB, 120, .inl z0)), (q13, .inr (3, [.null, .null, .null, .int 0, .null, .int 0, .int 0, .int 0]))] := hD
  refine lv_dup hx hb dX8_init_60 rfl ?_
  refine lv_aload_n hx hb dX8_init_61 rfl (lv_at hl 0 rfl) ?_
  refine va_get (ci := 7) (v := .ref q11) (C := RX8) (T := TX8) (N := 9) hx hb hts hiX8 hown hK hP 0 rfl rfl 3 (by decide) (hts _ (List.mem_of_getElem? (i := 19) rfl)) (fun _ h9 => h9) rfl dX8_init_62 ?_
  have hPc := hP.sub (ws' := [(q13, .inr (3, [.null, .null, .null, .int 0, .null, .int 0, .int 0, .int 0]))]) [13] rfl
  have hDc := hD.sub (ws' := [(q13, .inr (3, [.null, .null, .null, .int 0, .null, .int 0, .int 0, .int 0]))]) [13] (by decide) rfl
  have hFc := va_free (wc := [(q13, .inr (3, [.null, .null, .null, .int 0, .null, .int 0, .int 0, .int 0]))]) hD hS hA [13] rfl
  refine va_callv (va_runI (As := [.ref q11]) (rest := [.ref q13, .ref h]) ⟨hx, hb, hml, hown, hts⟩ (ciX3 l D cI cB cZ q13 H.size q11) (cwI 1 hts gX8_init_X3_init rfl rfl rfl (hts _ (List.mem_of_getElem? (i := 22) rfl)) (hts _ (List.mem_of_getElem? (i := 68) rfl)) (hts _ (List.mem_of_getElem? (i := 69) rfl)) rfl (by decide +kernel) ⟨(Nat.le_of_ble_eq_true rfl), (Nat.le_of_ble_eq_true rfl)⟩) ⟨PC_fb, fun U hU hW => ⟨rfl, by rw [hU], by rw [hU]; exact hPc, va_K.moved hW.alike hK, hDc.weaken (fun _ _ _ _ => trivial)⟩⟩ rfl rfl hl.1 rfl (lv_room (Nat.le_of_ble_eq_true rfl)) dX8_init_65 ⟨(Nat.le_of_ble_eq_true rfl), (Nat.le_of_ble_eq_true rfl)⟩) hS (fun q _ h => hFc q h) hFc (fun u t H1 locs ht hvm _ hB hz1 hk1 hS => ?_)
  obtain ⟨hP1, hD1⟩ := hB
  rw [ht] at hP1
  obtain ⟨q14, eq14⟩ : ∃ z : Nat, z = u 0 := ⟨_, rfl⟩
  obtain ⟨q15, eq15⟩ : ∃ z : Nat, z = u 1 := ⟨_, rfl⟩
  obtain ⟨q16, eq16⟩ : ∃ z : Nat, z = u 2 := ⟨_, rfl⟩
  replace hP1 : va_P D vwCl [(q13, .inr (3, [.ref q14, .ref q15, .ref q16, .int 0, .ref q11, .int 0, .int 0, .int 0])), (q14, .inl (cI, 30, .inl z0)), (q15, .inl (cI, 30, .inl z0)), (q16, .inl (cI, 30, .inl z0))] H1 := by simp only [eq14, eq15, eq16]; exact hP1
  replace hD1 : va_D (va_A [(q13, .inr (3, [.null, .null, .null, .int 0, .null, .int 0, .int 0, .int 0]))] H.size) [(q13, .inr (3, [.ref q14, .ref q15, .ref q16, .int 0, .ref q11, .int 0, .int 0, .int 0])), (q14, .inl (cI, 30, .inl z0)), (q15, .inl (cI, 30, .inl z0)), (q16, .inl (cI, 30, .inl z0))] := by simp only [eq14, eq15, eq16]; exact hD1
  obtain ⟨hP, hD⟩ := va_join (wr := [(h, .inr (7, [.ref q1, .ref q6, .ref q9, .ref q11, .null, .null, .null, .int 0, .int 0])), (q1, .inr (1, [.ref q2, .ref q3, .ref q4, .ref q5, .int 1, .int 0])), (q2, .inl (cI, 60, .inl (upd z0 (0 : Int32).toNatClampNeg (-1)))), (q3, .inl (cI, 60, .inl (upd z0 (0 : Int32).toNatClampNeg 0))), (q4, .inl (cZ, 60, .inl (upd z0 (0 : Int32).toNatClampNeg (vp_nar .boolean 0)))), (q5, .inl (cI, 3600, .inl z0)), (q6, .inr (6, [.ref q1, .ref q7, .int 0, .ref q8])), (q7, .inl (cI, 60, .inl z0)), (q8, .inl (cI, 60, .inl z0)), (q9, .inr (0, [.ref q1, .ref q10])), (q10, .inl (cI, 60, .inl z0)), (q11, .inr (5, [.ref q12, .int (0 : Int32)])), (q12, .inl (cB, 120, .inl z0))]) (w1 := [(q13, .inr (3, [.ref q14, .ref q15, .ref q16, .int 0, .ref q11, .int 0, .int 0, .int 0])), (q14, .inl (cI, 30, .inl z0)), (q15, .inl (cI, 30, .inl z0)), (q16, .inl (cI, 30, .inl z0))]) hP hD [13] [0, 1, 2, 3, 4, 5, 6, 7, 8, 9, 10, 11, 12] rfl rfl (by decide) (by decide) hk1 hFc hP1 hD1
  generalize H1 = H at hP hS ⊢
  have hP : va_P D vwCl [(h, .inr (7, [.ref q1, .ref q6, .ref q9, .ref q11, .null, .null, .null, .int 0, .int 0])), (q1, .inr (1, [.ref q2, .ref q3, .ref q4, .ref q5, .int 1, .int 0])), (q2, .inl (cI, 60, .inl (upd z0 (0 : Int32).toNatClampNeg (-1)))), (q3, .inl (cI, 60, .inl (upd z0 (0 : Int32).toNatClampNeg 0))), (q4, .inl (cZ, 60, .inl (upd z0 (0 : Int32).toNatClampNeg (vp_nar .boolean 0)))), (q5, .inl (cI, 3600, .inl z0)), (q6, .inr (6, [.ref q1, .ref q7, .int 0, .ref q8])), (q7, .inl (cI, 60, .inl z0)), (q8, .inl (cI, 60, .inl z0)), (q9, .inr (0, [.ref q1, .ref q10])), (q10, .inl (cI, 60, .inl z0)), (q11, .inr (5, [.ref q12, .int (0 : Int32)])), (q12, .inl (cB, 120, .inl z0)), (q13, .inr (3, [.ref q14, .ref q15, .ref q16, .int 0, .ref q11, .int 0, .int 0, .int 0])), (q14, .inl (cI, 30, .inl z0)), (q15, .inl (cI, 30, .inl z0)), (q16, .inl (cI, 30, .inl z0))] H := hP
  have hD : va_D A [(h, .inr (7, [.ref q1, .ref q6, .ref q9, .ref q11, .null, .null, .null, .int 0, .int 0])), (q1, .inr (1, [.ref q2, .ref q3, .ref q4, .ref q5, .int 1, .int 0])), (q2, .inl (cI, 60, .inl (upd z0 (0 : Int32).toNatClampNeg (-1)))), (q3, .inl (cI, 60, .inl (upd z0 (0 : Int32).toNatClampNeg 0))), (q4, .inl (cZ, 60, .inl (upd z0 (0 : Int32).toNatClampNeg (vp_nar .boolean 0)))), (q5, .inl (cI, 3600, .inl z0)), (q6, .inr (6, [.ref q1, .ref q7, .int 0, .ref q8])), (q7, .inl (cI, 60, .inl z0)), (q8, .inl (cI, 60, .inl z0)), (q9, .inr (0, [.ref q1, .ref q10])), (q10, .inl (cI, 60, .inl z0)), (q11, .inr (5, [.ref q12, .int (0 : Int32)])), (q12, .inl (cB, 120, .inl z0)), (q13, .inr (3, [.ref q14, .ref q15, .ref q16, .int 0, .ref q11, .int 0, .int 0, .int 0])), (q14, .inl (cI, 30, .inl z0)), (q15, .inl (cI, 30, .inl z0)), (q16, .inl (cI, 30, .inl z0))] := hD
  refine va_putF (ci := 7) (v := .ref q13) (ty := .object "RoadDepots$Reader") (C := RX8) (T := TX8) (N := 9) hx hb hts hiX8 tyX8 tyX8_ok nmX8 hown hK hP hD hS 0 rfl rfl 4 (by decide) (hts _ (List.mem_of_getElem? (i := 23) rfl)) (fun _ h9 => h9) rfl hin rfl (tyX8_ok 4 (by decide)) rfl rfl (Nat.le_of_ble_eq_true rfl) dX8_init_68 (fun H locs hP hD hS => ?_)
  have hP : va_P D vwCl [(h, .inr (7, [.ref q1, .ref q6, .ref q9, .ref q11, .ref q13, .null, .null, .int 0, .int 0])), (q1, .inr (1, [.ref q2, .ref q3, .ref q4, .ref q5, .int 1, .int 0])), (q2, .inl (cI, 60, .inl (upd z0 (0 : Int32).toNatClampNeg (-1)))), (q3, .inl (cI, 60, .inl (upd z0 (0 : Int32).toNatClampNeg 0))), (q4, .inl (cZ, 60, .inl (upd z0 (0 : Int32).toNatClampNeg (vp_nar .boolean 0)))), (q5, .inl (cI, 3600, .inl z0)), (q6, .inr (6, [.ref q1, .ref q7, .int 0, .ref q8])), (q7, .inl (cI, 60, .inl z0)), (q8, .inl (cI, 60, .inl z0)), (q9, .inr (0, [.ref q1, .ref q10])), (q10, .inl (cI, 60, .inl z0)), (q11, .inr (5, [.ref q12, .int (0 : Int32)])), (q12, .inl (cB, 120, .inl z0)), (q13, .inr (3, [.ref q14, .ref q15, .ref q16, .int 0, .ref q11, .int 0, .int 0, .int 0])), (q14, .inl (cI, 30, .inl z0)), (q15, .inl (cI, 30, .inl z0)), (q16, .inl (cI, 30, .inl z0))] H := hP
  have hD : va_D A [(h, .inr (7, [.ref q1, .ref q6, .ref q9, .ref q11, .ref q13, .null, .null, .int 0, .int 0])), (q1, .inr (1, [.ref q2, .ref q3, .ref q4, .ref q5, .int 1, .int 0])), (q2, .inl (cI, 60, .inl (upd z0 (0 : Int32).toNatClampNeg (-1)))), (q3, .inl (cI, 60, .inl (upd z0 (0 : Int32).toNatClampNeg 0))), (q4, .inl (cZ, 60, .inl (upd z0 (0 : Int32).toNatClampNeg (vp_nar .boolean 0)))), (q5, .inl (cI, 3600, .inl z0)), (q6, .inr (6, [.ref q1, .ref q7, .int 0, .ref q8])), (q7, .inl (cI, 60, .inl z0)), (q8, .inl (cI, 60, .inl z0)), (q9, .inr (0, [.ref q1, .ref q10])), (q10, .inl (cI, 60, .inl z0)), (q11, .inr (5, [.ref q12, .int (0 : Int32)])), (q12, .inl (cB, 120, .inl z0)), (q13, .inr (3, [.ref q14, .ref q15, .ref q16, .int 0, .ref q11, .int 0, .int 0, .int 0])), (q14, .inl (cI, 30, .inl z0)), (q15, .inl (cI, 30, .inl z0)), (q16, .inl (cI, 30, .inl z0))] := hD
  refine lv_aload_n hx hb dX8_init_71 rfl (lv_at hl 0 rfl) ?_
  refine va_new (ci := 2) (fs := [.null, .int 0]) (C := RX2) (T := TX2) (N := 2) hx hb hts hiX2 tyX2 tyX2_ok hown (hts _ (List.mem_of_getElem? (i := 24) rfl)) (hts _ (List.mem_of_getElem? (i := 25) rfl)) (hts _ (List.mem_of_getElem? (i := 26) rfl)) hK hP hD hS hA rfl (fun j hj => by rcases (show j = 0 ∨ j = 1 by omega) with rfl | rfl <;> rfl) (Nat.le_of_ble_eq_true rfl) (Nat.le_of_ble_eq_true rfl) dX8_init_72 (fun q17 H hP hD hS => ?_)
  have hP : va_P D vwCl [(h, .inr (7, [.ref q1, .ref q6, .ref q9, .ref q11, .ref q13, .null, .null, .int 0, .int 0])), (q1, .inr (1, [.ref q2, .ref q3, .ref q4, .ref q5, .int 1, .int 0])), (q2, .inl (cI, 60, .inl (upd z0 (0 : Int32).toNatClampNeg (-1)))), (q3, .inl (cI, 60, .inl (upd z0 (0 : Int32).toNatClampNeg 0))), (q4, .inl (cZ, 60, .inl (upd z0 (0 : Int32).toNatClampNeg (vp_nar .boolean 0)))), (q5, .inl (cI, 3600, .inl z0)), (q6, .inr (6, [.ref q1, .ref q7, .int 0, .ref q8])), (q7, .inl (cI, 60, .inl z0)), (q8, .inl (cI, 60, .inl z0)), (q9, .inr (0, [.ref q1, .ref q10])), (q10, .inl (cI, 60, .inl z0)), (q11, .inr (5, [.ref q12, .int (0 : Int32)])), (q12, .inl (cB, 120, .inl z0)), (q13, .inr (3, [.ref q14, .ref q15, .ref q16, .int 0, .ref q11, .int 0, .int 0, .int 0])), (q14, .inl (cI, 30, .inl z0)), (q15, .inl (cI, 30, .inl z0)), (q16, .inl (cI, 30, .inl z0)), (q17, .inr (2, [.null, .int 0]))] H := hP
  have hD : va_D A [(h, .inr (7, [.ref q1, .ref q6, .ref q9, .ref q11, .ref q13, .null, .null, .int 0, .int 0])), (q1, .inr (1, [.ref q2, .ref q3, .ref q4, .ref q5, .int 1, .int 0])), (q2, .inl (cI, 60, .inl (upd z0 (0 : Int32).toNatClampNeg (-1)))), (q3, .inl (cI, 60, .inl (upd z0 (0 : Int32).toNatClampNeg 0))), (q4, .inl (cZ, 60, .inl (upd z0 (0 : Int32).toNatClampNeg (vp_nar .boolean 0)))), (q5, .inl (cI, 3600, .inl z0)), (q6, .inr (6, [.ref q1, .ref q7, .int 0, .ref q8])), (q7, .inl (cI, 60, .inl z0)), (q8, .inl (cI, 60, .inl z0)), (q9, .inr (0, [.ref q1, .ref q10])), (q10, .inl (cI, 60, .inl z0)), (q11, .inr (5, [.ref q12, .int (0 : Int32)])), (q12, .inl (cB, 120, .inl z0)), (q13, .inr (3, [.ref q14, .ref q15, .ref q16, .int 0, .ref q11, .int 0, .int 0, .int 0])), (q14, .inl (cI, 30, .inl z0)), (q15, .inl (cI, 30, .inl z0)), (q16, .inl (cI, 30, .inl z0)), (q17, .inr (2, [.null, .int 0]))] := hD
  refine lv_dup hx hb dX8_init_75 rfl ?_
  have hPc := hP.sub (ws' := [(q17, .inr (2, [.null, .int 0]))]) [17] rfl
  have hDc := hD.sub (ws' := [(q17, .inr (2, [.null, .int 0]))]) [17] (by decide) rfl
  have hFc := va_free (wc := [(q17, .inr (2, [.null, .int 0]))]) hD hS hA [17] rfl
  refine va_callv (va_runI (As := []) (rest := [.ref q17, .ref h]) ⟨hx, hb, hml, hown, hts⟩ (ciX2 l D cI cB cZ q17 H.size) (cwI 0 hts gX8_init_X2_init rfl rfl rfl (hts _ (List.mem_of_getElem? (i := 26) rfl)) (hts _ (List.mem_of_getElem? (i := 76) rfl)) (hts _ (List.mem_of_getElem? (i := 77) rfl)) rfl (by decide +kernel) ⟨(Nat.le_of_ble_eq_true rfl), (Nat.le_of_ble_eq_true rfl)⟩) ⟨PC_fb, fun U hU hW => ⟨rfl, by rw [hU], by rw [hU]; exact hPc, va_K.moved hW.alike hK, hDc.weaken (fun _ _ _ _ => trivial)⟩⟩ rfl rfl hl.1 rfl (lv_room (Nat.le_of_ble_eq_true rfl)) dX8_init_76 ⟨(Nat.le_of_ble_eq_true rfl), (Nat.le_of_ble_eq_true rfl)⟩) hS (fun q _ h => hFc q h) hFc (fun u t H1 locs ht hvm _ hB hz1 hk1 hS => ?_)
  obtain ⟨hP1, hD1⟩ := hB
  rw [ht] at hP1
  obtain ⟨q18, eq18⟩ : ∃ z : Nat, z = u 0 := ⟨_, rfl⟩
  replace hP1 : va_P D vwCl [(q17, .inr (2, [.ref q18, .int (0 : Int32)])), (q18, .inl (cB, 400, .inl z0))] H1 := by simp only [eq18]; exact hP1
  replace hD1 : va_D (va_A [(q17, .inr (2, [.null, .int 0]))] H.size) [(q17, .inr (2, [.ref q18, .int (0 : Int32)])), (q18, .inl (cB, 400, .inl z0))] := by simp only [eq18]; exact hD1
  obtain ⟨hP, hD⟩ := va_join (wr := [(h, .inr (7, [.ref q1, .ref q6, .ref q9, .ref q11, .ref q13, .null, .null, .int 0, .int 0])), (q1, .inr (1, [.ref q2, .ref q3, .ref q4, .ref q5, .int 1, .int 0])), (q2, .inl (cI, 60, .inl (upd z0 (0 : Int32).toNatClampNeg (-1)))), (q3, .inl (cI, 60, .inl (upd z0 (0 : Int32).toNatClampNeg 0))), (q4, .inl (cZ, 60, .inl (upd z0 (0 : Int32).toNatClampNeg (vp_nar .boolean 0)))), (q5, .inl (cI, 3600, .inl z0)), (q6, .inr (6, [.ref q1, .ref q7, .int 0, .ref q8])), (q7, .inl (cI, 60, .inl z0)), (q8, .inl (cI, 60, .inl z0)), (q9, .inr (0, [.ref q1, .ref q10])), (q10, .inl (cI, 60, .inl z0)), (q11, .inr (5, [.ref q12, .int (0 : Int32)])), (q12, .inl (cB, 120, .inl z0)), (q13, .inr (3, [.ref q14, .ref q15, .ref q16, .int 0, .ref q11, .int 0, .int 0, .int 0])), (q14, .inl (cI, 30, .inl z0)), (q15, .inl (cI, 30, .inl z0)), (q16, .inl (cI, 30, .inl z0))]) (w1 := [(q17, .inr (2, [.ref q18, .int (0 : Int32)])), (q18, .inl (cB, 400, .inl z0))]) hP hD [17] [0, 1, 2, 3, 4, 5, 6, 7, 8, 9, 10, 11, 12, 13, 14, 15, 16] rfl rfl (by decide) (by decide) hk1 hFc hP1 hD1
  generalize H1 = H at hP hS ⊢
  have hP : va_P D vwCl [(h, .inr (7, [.ref q1, .ref q6, .ref q9, .ref q11, .ref q13, .null, .null, .int 0, .int 0])), (q1, .inr (1, [.ref q2, .ref q3, .ref q4, .ref q5, .int 1, .int 0])), (q2, .inl (cI, 60, .inl (upd z0 (0 : Int32).toNatClampNeg (-1)))), (q3, .inl (cI, 60, .inl (upd z0 (0 : Int32).toNatClampNeg 0))), (q4, .inl (cZ, 60, .inl (upd z0 (0 : Int32).toNatClampNeg (vp_nar .boolean 0)))), (q5, .inl (cI, 3600, .inl z0)), (q6, .inr (6, [.ref q1, .ref q7, .int 0, .ref q8])), (q7, .inl (cI, 60, .inl z0)), (q8, .inl (cI, 60, .inl z0)), (q9, .inr (0, [.ref q1, .ref q10])), (q10, .inl (cI, 60, .inl z0)), (q11, .inr (5, [.ref q12, .int (0 : Int32)])), (q12, .inl (cB, 120, .inl z0)), (q13, .inr (3, [.ref q14, .ref q15, .ref q16, .int 0, .ref q11, .int 0, .int 0, .int 0])), (q14, .inl (cI, 30, .inl z0)), (q15, .inl (cI, 30, .inl z0)), (q16, .inl (cI, 30, .inl z0)), (q17, .inr (2, [.ref q18, .int (0 : Int32)])), (q18, .inl (cB, 400, .inl z0))] H := hP
  have hD : va_D A [(h, .inr (7, [.ref q1, .ref q6, .ref q9, .ref q11, .ref q13, .null, .null, .int 0, .int 0])), (q1, .inr (1, [.ref q2, .ref q3, .ref q4, .ref q5, .int 1, .int 0])), (q2, .inl (cI, 60, .inl (upd z0 (0 : Int32).toNatClampNeg (-1)))), (q3, .inl (cI, 60, .inl (upd z0 (0 : Int32).toNatClampNeg 0))), (q4, .inl (cZ, 60, .inl (upd z0 (0 : Int32).toNatClampNeg (vp_nar .boolean 0)))), (q5, .inl (cI, 3600, .inl z0)), (q6, .inr (6, [.ref q1, .ref q7, .int 0, .ref q8])), (q7, .inl (cI, 60, .inl z0)), (q8, .inl (cI, 60, .inl z0)), (q9, .inr (0, [.ref q1, .ref q10])), (q10, .inl (cI, 60, .inl z0)), (q11, .inr (5, [.ref q12, .int (0 : Int32)])), (q12, .inl (cB, 120, .inl z0)), (q13, .inr (3, [.ref q14, .ref q15, .ref q16, .int 0, .ref q11, .int 0, .int 0, .int 0])), (q14, .inl (cI, 30, .inl z0)), (q15, .inl (cI, 30, .inl z0)), (q16, .inl (cI, 30, .inl z0)), (q17, .inr (2, [.ref q18, .int (0 : Int32)])), (q18, .inl (cB, 400, .inl z0))] := hD
  refine va_putF (ci := 7) (v := .ref q17) (ty := .object "RoadDepots$Line") (C := RX8) (T := TX8) (N := 9) hx hb hts hiX8 tyX8 tyX8_ok nmX8 hown hK hP hD hS 0 rfl rfl 5 (by decide) (hts _ (List.mem_of_getElem? (i := 27) rfl)) (fun _ h9 => h9) rfl hin rfl (tyX8_ok 5 (by decide)) rfl rfl (Nat.le_of_ble_eq_true rfl) dX8_init_79 (fun H locs hP hD hS => ?_)
  have hP : va_P D vwCl [(h, .inr (7, [.ref q1, .ref q6, .ref q9, .ref q11, .ref q13, .ref q17, .null, .int 0, .int 0])), (q1, .inr (1, [.ref q2, .ref q3, .ref q4, .ref q5, .int 1, .int 0])), (q2, .inl (cI, 60, .inl (upd z0 (0 : Int32).toNatClampNeg (-1)))), (q3, .inl (cI, 60, .inl (upd z0 (0 : Int32).toNatClampNeg 0))), (q4, .inl (cZ, 60, .inl (upd z0 (0 : Int32).toNatClampNeg (vp_nar .boolean 0)))), (q5, .inl (cI, 3600, .inl z0)), (q6, .inr (6, [.ref q1, .ref q7, .int 0, .ref q8])), (q7, .inl (cI, 60, .inl z0)), (q8, .inl (cI, 60, .inl z0)), (q9, .inr (0, [.ref q1, .ref q10])), (q10, .inl (cI, 60, .inl z0)), (q11, .inr (5, [.ref q12, .int (0 : Int32)])), (q12, .inl (cB, 120, .inl z0)), (q13, .inr (3, [.ref q14, .ref q15, .ref q16, .int 0, .ref q11, .int 0, .int 0, .int 0])), (q14, .inl (cI, 30, .inl z0)), (q15, .inl (cI, 30, .inl z0)), (q16, .inl (cI, 30, .inl z0)), (q17, .inr (2, [.ref q18, .int (0 : Int32)])), (q18, .inl (cB, 400, .inl z0))] H := hP
  have hD : va_D A [(h, .inr (7, [.ref q1, .ref q6, .ref q9, .ref q11, .ref q13, .ref q17, .null, .int 0, .int 0])), (q1, .inr (1, [.ref q2, .ref q3, .ref q4, .ref q5, .int 1, .int 0])), (q2, .inl (cI, 60, .inl (upd z0 (0 : Int32).toNatClampNeg (-1)))), (q3, .inl (cI, 60, .inl (upd z0 (0 : Int32).toNatClampNeg 0))), (q4, .inl (cZ, 60, .inl (upd z0 (0 : Int32).toNatClampNeg (vp_nar .boolean 0)))), (q5, .inl (cI, 3600, .inl z0)), (q6, .inr (6, [.ref q1, .ref q7, .int 0, .ref q8])), (q7, .inl (cI, 60, .inl z0)), (q8, .inl (cI, 60, .inl z0)), (q9, .inr (0, [.ref q1, .ref q10])), (q10, .inl (cI, 60, .inl z0)), (q11, .inr (5, [.ref q12, .int (0 : Int32)])), (q12, .inl (cB, 120, .inl z0)), (q13, .inr (3, [.ref q14, .ref q15, .ref q16, .int 0, .ref q11, .int 0, .int 0, .int 0])), (q14, .inl (cI, 30, .inl z0)), (q15, .inl (cI, 30, .inl z0)), (q16, .inl (cI, 30, .inl z0)), (q17, .inr (2, [.ref q18, .int (0 : Int32)])), (q18, .inl (cB, 400, .inl z0))] := hD
  refine lv_aload_n hx hb dX8_init_82 rfl (lv_at hl 0 rfl) ?_
  refine va_new (ci := 4) (fs := [.null, .null, .null, .null]) (C := RX4) (T := TX4) (N := 4) hx hb hts hiX4 tyX4 tyX4_ok hown (hts _ (List.mem_of_getElem? (i := 28) rfl)) (hts _ (List.mem_of_getElem? (i := 29) rfl)) (hts _ (List.mem_of_getElem? (i := 30) rfl)) hK hP hD hS hA rfl (fun j hj => by rcases (show j = 0 ∨ j = 1 ∨ j = 2 ∨ j = 3 by omega) with rfl | rfl | rfl | rfl <;> rfl) (Nat.le_of_ble_eq_true rfl) (Nat.le_of_ble_eq_true rfl) dX8_init_83 (fun q19 H hP hD hS => ?_)
  have hP : va_P D vwCl [(h, .inr (7, [.ref q1, .ref q6, .ref q9, .ref q11, .ref q13, .ref q17, .null, .int 0, .int 0])), (q1, .inr (1, [.ref q2, .ref q3, .ref q4, .ref q5, .int 1, .int 0])), (q2, .inl (cI, 60, .inl (upd z0 (0 : Int32).toNatClampNeg (-1)))), (q3, .inl (cI, 60, .inl (upd z0 (0 : Int32).toNatClampNeg 0))), (q4, .inl (cZ, 60, .inl (upd z0 (0 : Int32).toNatClampNeg (vp_nar .boolean 0)))), (q5, .inl (cI, 3600, .inl z0)), (q6, .inr (6, [.ref q1, .ref q7, .int 0, .ref q8])), (q7, .inl (cI, 60, .inl z0)), (q8, .inl (cI, 60, .inl z0)), (q9, .inr (0, [.ref q1, .ref q10])), (q10, .inl (cI, 60, .inl z0)), (q11, .inr (5, [.ref q12, .int (0 : Int32)])), (q12, .inl (cB, 120, .inl z0)), (q13, .inr (3, [.ref q14, .ref q15, .ref q16, .int 0, .ref q11, .int 0, .int 0, .int 0])), (q14, .inl (cI, 30, .inl z0)), (q15, .inl (cI, 30, .inl z0)), (q16, .inl (cI, 30, .inl z0)), (q17, .inr (2, [.ref q18, .int (0 : Int32)])), (q18, .inl (cB, 400, .inl z0)), (q19, .inr (4, [.null, .null, .null, .null]))] H := hP
  have hD : va_D A [(h, .inr (7, [.ref q1, .ref q6, .ref q9, .ref q11, .ref q13, .ref q17, .null, .int 0, .int 0])), (q1, .inr (1, [.ref q2, .ref q3, .ref q4, .ref q5, .int 1, .int 0])), (q2, .inl (cI, 60, .inl (upd z0 (0 : Int32).toNatClampNeg (-1)))), (q3, .inl (cI, 60, .inl (upd z0 (0 : Int32).toNatClampNeg 0))), (q4, .inl (cZ, 60, .inl (upd z0 (0 : Int32).toNatClampNeg (vp_nar .boolean 0)))), (q5, .inl (cI, 3600, .inl z0)), (q6, .inr (6, [.ref q1, .ref q7, .int 0, .ref q8])), (q7, .inl (cI, 60, .inl z0)), (q8, .inl (cI, 60, .inl z0)), (q9, .inr (0, [.ref q1, .ref q10])), (q10, .inl (cI, 60, .inl z0)), (q11, .inr (5, [.ref q12, .int (0 : Int32)])), (q12, .inl (cB, 120, .inl z0)), (q13, .inr (3, [.ref q14, .ref q15, .ref q16, .int 0, .ref q11, .int 0, .int 0, .int 0])), (q14, .inl (cI, 30, .inl z0)), (q15, .inl (cI, 30, .inl z0)), (q16, .inl (cI, 30, .inl z0)), (q17, .inr (2, [.ref q18, .int (0 : Int32)])), (q18, .inl (cB, 400, .inl z0)), (q19, .inr (4, [.null, .null, .null, .null]))] := hD
  refine lv_dup hx hb dX8_init_86 rfl ?_
  refine lv_aload_n hx hb dX8_init_87 rfl (lv_at hl 0 rfl) ?_
  refine va_get (ci := 7) (v := .ref q1) (C := RX8) (T := TX8) (N := 9) hx hb hts hiX8 hown hK hP 0 rfl rfl 0 (by decide) (hts _ (List.mem_of_getElem? (i := 7) rfl)) (fun _ h9 => h9) rfl dX8_init_88 ?_
  refine lv_aload_n hx hb dX8_init_91 rfl (lv_at hl 0 rfl) ?_
  refine va_get (ci := 7) (v := .ref q6) (C := RX8) (T := TX8) (N := 9) hx hb hts hiX8 hown hK hP 0 rfl rfl 1 (by decide) (hts _ (List.mem_of_getElem? (i := 11) rfl)) (fun _ h9 => h9) rfl dX8_init_92 ?_
  refine lv_aload_n hx hb dX8_init_95 rfl (lv_at hl 0 rfl) ?_
  refine va_get (ci := 7) (v := .ref q9) (C := RX8) (T := TX8) (N := 9) hx hb hts hiX8 hown hK hP 0 rfl rfl 2 (by decide) (hts _ (List.mem_of_getElem? (i := 15) rfl)) (fun _ h9 => h9) rfl dX8_init_96 ?_
  refine lv_aload_n hx hb dX8_init_99 rfl (lv_at hl 0 rfl) ?_
  refine va_get (ci := 7) (v := .ref q17) (C := RX8) (T := TX8) (N := 9) hx hb hts hiX8 hown hK hP 0 rfl rfl 5 (by decide) (hts _ (List.mem_of_getElem? (i := 27) rfl)) (fun _ h9 => h9) rfl dX8_init_100 ?_
  have hPc := hP.sub (ws' := [(q19, .inr (4, [.null, .null, .null, .null]))]) [19] rfl
  have hDc := hD.sub (ws' := [(q19, .inr (4, [.null, .null, .null, .null]))]) [19] (by decide) rfl
  have hFc := va_free (wc := [(q19, .inr (4, [.null, .null, .null, .null]))]) hD hS hA [19] rfl
  refine va_callv (va_runI (As := [.ref q1, .ref q6, .ref q9, .ref q17]) (rest := [.ref q19, .ref h]) ⟨hx, hb, hml, hown, hts⟩ (ciX4 l D cI cB cZ q19 H.size q1 q6 q9 q17) (cwI 4 hts gX8_init_X4_init rfl rfl rfl (hts _ (List.mem_of_getElem? (i := 30) rfl)) (hts _ (List.mem_of_getElem? (i := 82) rfl)) (hts _ (List.mem_of_getElem? (i := 83) rfl)) rfl (by decide +kernel) ⟨(Nat.le_of_ble_eq_true rfl), (Nat.le_of_ble_eq_true rfl)⟩) ⟨PC_fb, fun U hU hW => ⟨rfl, by rw [hU], by rw [hU]; exact hPc, va_K.moved hW.alike hK, hDc.weaken (fun _ _ _ _ => trivial)⟩⟩ rfl rfl hl.1 rfl (lv_room (Nat.le_of_ble_eq_true rfl)) dX8_init_103 ⟨(Nat.le_of_ble_eq_true rfl), (Nat.le_of_ble_eq_true rfl)⟩) hS (fun q _ h => hFc q h) hFc (fun u t H1 locs ht hvm _ hB hz1 hk1 hS => ?_)
  obtain ⟨hP1, hD1⟩ := hB
  rw [ht] at hP1
  replace hP1 : va_P D vwCl [(q19, .inr (4, [.ref q1, .ref q6, .ref q9, .ref q17]))] H1 := hP1
  replace hD1 : va_D (va_A [(q19, .inr (4, [.null, .null, .null, .null]))] H.size) [(q19, .inr (4, [.ref q1, .ref q6, .ref q9, .ref q17]))] := hD1
  obtain ⟨hP, hD⟩ := va_join (wr := [(h, .inr (7, [.ref q1, .ref q6, .ref q9, .ref q11, .ref q13, .ref q17, .null, .int 0, .int 0])), (q1, .inr (1, [.ref q2, .ref q3, .ref q4, .ref q5, .int 1, .int 0])), (q2, .inl (cI, 60, .inl (upd z0 (0 : Int32).toNatClampNeg (-1)))), (q3, .inl (cI, 60, .inl (upd z0 (0 : Int32).toNatClampNeg 0))), (q4, .inl (cZ, 60, .inl (upd z0 (0 : Int32).toNatClampNeg (vp_nar .boolean 0)))), (q5, .inl (cI, 3600, .inl z0)), (q6, .inr (6, [.ref q1, .ref q7, .int 0, .ref q8])), (q7, .inl (cI, 60, .inl z0)), (q8, .inl (cI, 60, .inl z0)), (q9, .inr (0, [.ref q1, .ref q10])), (q10, .inl (cI, 60, .inl z0)), (q11, .inr (5, [.ref q12, .int (0 : Int32)])), (q12, .inl (cB, 120, .inl z0)), (q13, .inr (3, [.ref q14, .ref q15, .ref q16, .int 0, .ref q11, .int 0, .int 0, .int 0])), (q14, .inl (cI, 30, .inl z0)), (q15, .inl (cI, 30, .inl z0)), (q16, .inl (cI, 30, .inl z0)), (q17, .inr (2, [.ref q18, .int (0 : Int32)])), (q18, .inl (cB, 400, .inl z0))]) (w1 := [(q19, .inr (4, [.ref q1, .ref q6, .ref q9, .ref q17]))]) hP hD [19] [0, 1, 2, 3, 4, 5, 6, 7, 8, 9, 10, 11, 12, 13, 14, 15, 16, 17, 18] rfl rfl (by decide) (by decide) hk1 hFc hP1 hD1
  generalize H1 = H at hP hS ⊢
  have hP : va_P D vwCl [(h, .inr (7, [.ref q1, .ref q6, .ref q9, .ref q11, .ref q13, .ref q17, .null, .int 0, .int 0])), (q1, .inr (1, [.ref q2, .ref q3, .ref q4, .ref q5, .int 1, .int 0])), (q2, .inl (cI, 60, .inl (upd z0 (0 : Int32).toNatClampNeg (-1)))), (q3, .inl (cI, 60, .inl (upd z0 (0 : Int32).toNatClampNeg 0))), (q4, .inl (cZ, 60, .inl (upd z0 (0 : Int32).toNatClampNeg (vp_nar .boolean 0)))), (q5, .inl (cI, 3600, .inl z0)), (q6, .inr (6, [.ref q1, .ref q7, .int 0, .ref q8])), (q7, .inl (cI, 60, .inl z0)), (q8, .inl (cI, 60, .inl z0)), (q9, .inr (0, [.ref q1, .ref q10])), (q10, .inl (cI, 60, .inl z0)), (q11, .inr (5, [.ref q12, .int (0 : Int32)])), (q12, .inl (cB, 120, .inl z0)), (q13, .inr (3, [.ref q14, .ref q15, .ref q16, .int 0, .ref q11, .int 0, .int 0, .int 0])), (q14, .inl (cI, 30, .inl z0)), (q15, .inl (cI, 30, .inl z0)), (q16, .inl (cI, 30, .inl z0)), (q17, .inr (2, [.ref q18, .int (0 : Int32)])), (q18, .inl (cB, 400, .inl z0)), (q19, .inr (4, [.ref q1, .ref q6, .ref q9, .ref q17]))] H := hP
  have hD : va_D A [(h, .inr (7, [.ref q1, .ref q6, .ref q9, .ref q11, .ref q13, .ref q17, .null, .int 0, .int 0])), (q1, .inr (1, [.ref q2, .ref q3, .ref q4, .ref q5, .int 1, .int 0])), (q2, .inl (cI, 60, .inl (upd z0 (0 : Int32).toNatClampNeg (-1)))), (q3, .inl (cI, 60, .inl (upd z0 (0 : Int32).toNatClampNeg 0))), (q4, .inl (cZ, 60, .inl (upd z0 (0 : Int32).toNatClampNeg (vp_nar .boolean 0)))), (q5, .inl (cI, 3600, .inl z0)), (q6, .inr (6, [.ref q1, .ref q7, .int 0, .ref q8])), (q7, .inl (cI, 60, .inl z0)), (q8, .inl (cI, 60, .inl z0)), (q9, .inr (0, [.ref q1, .ref q10])), (q10, .inl (cI, 60, .inl z0)), (q11, .inr (5, [.ref q12, .int (0 : Int32)])), (q12, .inl (cB, 120, .inl z0)), (q13, .inr (3, [.ref q14, .ref q15, .ref q16, .int 0, .ref q11, .int 0, .int 0, .int 0])), (q14, .inl (cI, 30, .inl z0)), (q15, .inl (cI, 30, .inl z0)), (q16, .inl (cI, 30, .inl z0)), (q17, .inr (2, [.ref q18, .int (0 : Int32)])), (q18, .inl (cB, 400, .inl z0)), (q19, .inr (4, [.ref q1, .ref q6, .ref q9, .ref q17]))] := hD
  refine va_putF (ci := 7) (v := .ref q19) (ty := .object "RoadDepots$Teller") (C := RX8) (T := TX8) (N := 9) hx hb hts hiX8 tyX8 tyX8_ok nmX8 hown hK hP hD hS 0 rfl rfl 6 (by decide) (hts _ (List.mem_of_getElem? (i := 31) rfl)) (fun _ h9 => h9) rfl hin rfl (tyX8_ok 6 (by decide)) rfl rfl (Nat.le_of_ble_eq_true rfl) dX8_init_106 (fun H locs hP hD hS => ?_)
  have hP : va_P D vwCl [(h, .inr (7, [.ref q1, .ref q6, .ref q9, .ref q11, .ref q13, .ref q17, .ref q19, .int 0, .int 0])), (q1, .inr (1, [.ref q2, .ref q3, .ref q4, .ref q5, .int 1, .int 0])), (q2, .inl (cI, 60, .inl (upd z0 (0 : Int32).toNatClampNeg (-1)))), (q3, .inl (cI, 60, .inl (upd z0 (0 : Int32).toNatClampNeg 0))), (q4, .inl (cZ, 60, .inl (upd z0 (0 : Int32).toNatClampNeg (vp_nar .boolean 0)))), (q5, .inl (cI, 3600, .inl z0)), (q6, .inr (6, [.ref q1, .ref q7, .int 0, .ref q8])), (q7, .inl (cI, 60, .inl z0)), (q8, .inl (cI, 60, .inl z0)), (q9, .inr (0, [.ref q1, .ref q10])), (q10, .inl (cI, 60, .inl z0)), (q11, .inr (5, [.ref q12, .int (0 : Int32)])), (q12, .inl (cB, 120, .inl z0)), (q13, .inr (3, [.ref q14, .ref q15, .ref q16, .int 0, .ref q11, .int 0, .int 0, .int 0])), (q14, .inl (cI, 30, .inl z0)), (q15, .inl (cI, 30, .inl z0)), (q16, .inl (cI, 30, .inl z0)), (q17, .inr (2, [.ref q18, .int (0 : Int32)])), (q18, .inl (cB, 400, .inl z0)), (q19, .inr (4, [.ref q1, .ref q6, .ref q9, .ref q17]))] H := hP
  have hD : va_D A [(h, .inr (7, [.ref q1, .ref q6, .ref q9, .ref q11, .ref q13, .ref q17, .ref q19, .int 0, .int 0])), (q1, .inr (1, [.ref q2, .ref q3, .ref q4, .ref q5, .int 1, .int 0])), (q2, .inl (cI, 60, .inl (upd z0 (0 : Int32).toNatClampNeg (-1)))), (q3, .inl (cI, 60, .inl (upd z0 (0 : Int32).toNatClampNeg 0))), (q4, .inl (cZ, 60, .inl (upd z0 (0 : Int32).toNatClampNeg (vp_nar .boolean 0)))), (q5, .inl (cI, 3600, .inl z0)), (q6, .inr (6, [.ref q1, .ref q7, .int 0, .ref q8])), (q7, .inl (cI, 60, .inl z0)), (q8, .inl (cI, 60, .inl z0)), (q9, .inr (0, [.ref q1, .ref q10])), (q10, .inl (cI, 60, .inl z0)), (q11, .inr (5, [.ref q12, .int (0 : Int32)])), (q12, .inl (cB, 120, .inl z0)), (q13, .inr (3, [.ref q14, .ref q15, .ref q16, .int 0, .ref q11, .int 0, .int 0, .int 0])), (q14, .inl (cI, 30, .inl z0)), (q15, .inl (cI, 30, .inl z0)), (q16, .inl (cI, 30, .inl z0)), (q17, .inr (2, [.ref q18, .int (0 : Int32)])), (q18, .inl (cB, 400, .inl z0)), (q19, .inr (4, [.ref q1, .ref q6, .ref q9, .ref q17]))] := hD
  refine W.widen (k := 19) (n := 4598) (Nat.le_of_ble_eq_true rfl) (Nat.le_of_ble_eq_true rfl) ?_
  exact W.vret hx hb hr (fun t ht hW => ⟨⟨(fun i => [q1, q2, q3, q4, q5, q6, q7, q8, q9, q10, q11, q12, q13, q14, q15, q16, q17, q18, q19].getD i 0), rfl, trivial, by rw [ht]; exact hP, hD⟩, hS.F ht⟩) hS.2.2 dX8_init_109 hlk
set_option maxRecDepth 100000 in
set_option maxHeartbeats 4000000 in
theorem ciX9 (l : Launch) (D : va_G) (cI cB cZ : ClassId) (h sz : Nat) : Met l yX9_init wsX9_init (rmC 1 12 8 822) (PC D (tyL cI cB cZ) [(h, .inr (8, [.int 0, .null, .null, .null, .int 0, .int 0, .int 0, .null, .int 0, .null, .int 0, .null, .null, .int 0, .int 0, .int 0, .int 0, .int 0, .int 0, .int 0, .null, .int 0]))] sz [.ref h]) (QC D (fun u => [(h, .inr (8, [.int (1 : Int32), .ref (u 0), .ref (u 1), .ref (u 2), .int 0, .int 0, .int 0, .ref (u 3), .int 0, .ref (u 4), .int 0, .ref (u 5), .ref (u 6), .int 0, .int 0, .int 0, .int 0, .int 0, .int 0, .int 0, .ref (u 7), .int 0])), ((u 0), .inl (cI, 60, .inl (upd z0 (0 : Int32).toNatClampNeg (-1 : Int32)))), ((u 1), .inl (cI, 60, .inl z0)), ((u 2), .inl (cZ, 60, .inl z0)), ((u 3), .inl (cI, 120, .inl z0)), ((u 4), .inl (cI, 400, .inl z0)), ((u 5), .inl (cI, 60, .inl z0)), ((u 6), .inl (cI, 60, .inl z0)), ((u 7), .inl (cI, 2, .inl z0))]) (va_A [(h, .inr (8, [.int 0, .null, .null, .null, .int 0, .int 0, .int 0, .null, .int 0, .null, .int 0, .null, .null, .int 0, .int 0, .int 0, .int 0, .int 0, .int 0, .int 0, .null, .int 0]))] sz)) 8 822 (va_A [(h, .inr (8, [.int 0, .null, .null, .null, .int 0, .int 0, .int 0, .null, .int 0, .null, .int 0, .null, .null, .int 0, .int 0, .int 0, .int 0, .int 0, .int 0, .int 0, .null, .int 0]))] sz) := by
  refine mk_metI cX9_init 1 none (by decide) rfl (Nat.le_of_ble_eq_true rfl) ?_
  intro p e s m args below meth c ls hx hb hr hlk hml hown hts hin hPK hl
  obtain ⟨hsz, hP, hK, hD0⟩ := hPK
  subst hsz
  replace hl : lv_has ls 1 [(0, .ref h)] := hl
  replace hown : s.vm.findClass RX9 = some m.cls := hown
  replace hin : meth.name = "<init>" := hin
  have hiX9 : ∀ w ∈ wsX90, w ∈ wsX9_init := fun w h => List.mem_cons_of_mem _ (List.mem_append_right _ h)
  have hD := hD0.self (sz := s.heap.size)
  generalize hAe : va_A [(h, .inr (8, [.int 0, .null, .null, .null, .int 0, .int 0, .int 0, .null, .int 0, .null, .int 0, .null, .null, .int 0, .int 0, .int 0, .int 0, .int 0, .int 0, .int 0, .null, .int 0]))] s.heap.size = A at hD ⊢
  have hA : ∀ q : Nat, s.heap.size ≤ q → A q := fun q h => by rw [← hAe]; exact Or.inr h
  have hS : va_S A s.heap s.heap [] := va_S.rf
  have hP : va_P D vwCl [(h, .inr (8, [.int 0, .null, .null, .null, .int 0, .int 0, .int 0, .null, .int 0, .null, .int 0, .null, .null, .int 0, .int 0, .int 0, .int 0, .int 0, .int 0, .int 0, .null, .int 0]))] s.heap := hP
  refine lv_aload_n hx hb dX9_init_0 rfl (lv_at hl 0 rfl) ?_
  refine W.objInit hx hb hown (hts _ (List.mem_of_getElem? (i := 1) rfl)) (hts _ (List.mem_of_getElem? (i := 2) rfl)) (hts _ (List.mem_of_getElem? (i := 3) rfl)) rfl (by rw [hml]; exact hl.1) rfl dX9_init_1 (Nat.le_of_ble_eq_true rfl) (Nat.le_of_ble_eq_true rfl) ?_
  refine W.eq (g2 := F0 m 4 ls []) rfl ?_
  refine lv_aload_n hx hb dX9_init_4 rfl (lv_at hl 0 rfl) ?_
  refine lv_bipush (v := (60 : Int32)) hx hb dX9_init_5 (by decide) ?_
  refine na_I (N' := 60) hx hb (hts _ (List.mem_of_getElem? (i := 4) rfl)) hK hP hD hS hA (by decide) (by decide) (Nat.le_of_ble_eq_true rfl) (Nat.le_of_ble_eq_true rfl) (Nat.le_of_ble_eq_true rfl) dX9_init_7 (fun q1 H hP hD hS => ?_)
  have hP : va_P D vwCl [(h, .inr (8, [.int 0, .null, .null, .null, .int 0, .int 0, .int 0, .null, .int 0, .null, .int 0, .null, .null, .int 0, .int 0, .int 0, .int 0, .int 0, .int 0, .int 0, .null, .int 0])), (q1, .inl (cI, 60, .inl z0))] H := hP
  have hD : va_D A [(h, .inr (8, [.int 0, .null, .null, .null, .int 0, .int 0, .int 0, .null, .int 0, .null, .int 0, .null, .null, .int 0, .int 0, .int 0, .int 0, .int 0, .int 0, .int 0, .null, .int 0])), (q1, .inl (cI, 60, .inl z0))] := hD
  refine va_putF (ci := 8) (v := .ref q1) (ty := .array .int) (C := RX9) (T := TX9) (N := 22) hx hb hts hiX9 tyX9 tyX9_ok nmX9 hown hK hP hD hS 0 rfl rfl 1 (by decide) (hts _ (List.mem_of_getElem? (i := 5) rfl)) (fun _ h9 => h9) rfl hin rfl (tyX9_ok 1 (by decide)) rfl rfl (Nat.le_of_ble_eq_true rfl) dX9_init_9 (fun H locs hP hD hS => ?_)
  have hP : va_P D vwCl [(h, .inr (8, [.int 0, .ref q1, .null, .null, .int 0, .int 0, .int 0, .null, .int 0, .null, .int 0, .null, .null, .int 0, .int 0, .int 0, .int 0, .int 0, .int 0, .int 0, .null, .int 0])), (q1, .inl (cI, 60, .inl z0))] H := hP
  have hD : va_D A [(h, .inr (8, [.int 0, .ref q1, .null, .null, .int 0, .int 0, .int 0, .null, .int 0, .null, .int 0, .null, .null, .int 0, .int 0, .int 0, .int 0, .int 0, .int 0, .int 0, .null, .int 0])), (q1, .inl (cI, 60, .inl z0))] := hD
  refine lv_aload_n hx hb dX9_init_12 rfl (lv_at hl 0 rfl) ?_
  refine lv_bipush (v := (60 : Int32)) hx hb dX9_init_13 (by decide) ?_
  refine na_I (N' := 60) hx hb (hts _ (List.mem_of_getElem? (i := 4) rfl)) hK hP hD hS hA (by decide) (by decide) (Nat.le_of_ble_eq_true rfl) (Nat.le_of_ble_eq_true rfl) (Nat.le_of_ble_eq_true rfl) dX9_init_15 (fun q2 H hP hD hS => ?_)
  have hP : va_P D vwCl [(h, .inr (8, [.int 0, .ref q1, .null, .null, .int 0, .int 0, .int 0, .null, .int 0, .null, .int 0, .null, .null, .int 0, .int 0, .int 0, .int 0, .int 0, .int 0, .int 0, .null, .int 0])), (q1, .inl (cI, 60, .inl z0)), (q2, .inl (cI, 60, .inl z0))] H := hP
  have hD : va_D A [(h, .inr (8, [.int 0, .ref q1, .null, .null, .int 0, .int 0, .int 0, .null, .int 0, .null, .int 0, .null, .null, .int 0, .int 0, .int 0, .int 0, .int 0, .int 0, .int 0, .null, .int 0])), (q1, .inl (cI, 60, .inl z0)), (q2, .inl (cI, 60, .inl z0))] := hD
  refine va_putF (ci := 8) (v := .ref q2) (ty := .array .int) (C := RX9) (T := TX9) (N := 22) hx hb hts hiX9 tyX9 tyX9_ok nmX9 hown hK hP hD hS 0 rfl rfl 2 (by decide) (hts _ (List.mem_of_getElem? (i := 6) rfl)) (fun _ h9 => h9) rfl hin rfl (tyX9_ok 2 (by decide)) rfl rfl (Nat.le_of_ble_eq_true rfl) dX9_init_17 (fun H locs hP hD hS => ?_)
  have hP : va_P D vwCl [(h, .inr (8, [.int 0, .ref q1, .ref q2, .null, .int 0, .int 0, .int 0, .null, .int 0, .null, .int 0, .null, .null, .int 0, .int 0, .int 0, .int 0, .int 0, .int 0, .int 0, .null, .int 0])), (q1, .inl (cI, 60, .inl z0)), (q2, .inl (cI, 60, .inl z0))] H := hP
  have hD : va_D A [(h, .inr (8, [.int 0, .ref q1, .ref q2, .null, .int 0, .int 0, .int 0, .null, .int 0, .null, .int 0, .null, .null, .int 0, .int 0, .int 0, .int 0, .int 0, .int 0, .int 0, .null, .int 0])), (q1, .inl (cI, 60, .inl z0)), (q2, .inl (cI, 60, .inl z0))] := hD
  refine lv_aload_n hx hb dX9_init_20 rfl (lv_at hl 0 rfl) ?_
  refine lv_bipush (v := (60 : Int32)) hx hb dX9_init_21 (by decide) ?_
  refine na_Z (N' := 60) hx hb (hts _ (List.mem_of_getElem? (i := 7) rfl)) hK hP hD hS hA (by decide) (by decide) (Nat.le_of_ble_eq_true rfl) (Nat.le_of_ble_eq_true rfl) (Nat.le_of_ble_eq_true rfl) dX9_init_23 (fun q3 H hP hD hS => ?_)
  have hP : va_P D vwCl [(h, .inr (8, [.int 0, .ref q1, .ref q2, .null, .int 0, .int 0, .int 0, .null, .int 0, .null, .int 0, .null, .null, .int 0, .int 0, .int 0, .int 0, .int 0, .int 0, .int 0, .null, .int 0])), (q1, .inl (cI, 60, .inl z0)), (q2, .inl (cI, 60, .inl z0)), (q3, .inl (cZ, 60, .inl z0))] H := hP
  have hD : va_D A [(h, .inr (8, [.int 0, .ref q1, .ref q2, .null, .int 0, .int 0, .int 0, .null, .int 0, .null, .int 0, .null, .null, .int 0, .int 0, .int 0, .int 0, .int 0, .int 0, .int 0, .null, .int 0])), (q1, .inl (cI, 60, .inl z0)), (q2, .inl (cI, 60, .inl z0)), (q3, .inl (cZ, 60, .inl z0))] := hD
  refine va_putF (ci := 8) (v := .ref q3) (ty := .array .boolean) (C := RX9) (T := TX9) (N := 22) hx hb hts hiX9 tyX9 tyX9_ok nmX9 hown hK hP hD hS 0 rfl rfl 3 (by decide) (hts _ (List.mem_of_getElem? (i := 8) rfl)) (fun _ h9 => h9) rfl hin rfl (tyX9_ok 3 (by decide)) rfl rfl (Nat.le_of_ble_eq_true rfl) dX9_init_25 (fun H locs hP hD hS => ?_)
  have hP : va_P D vwCl [(h, .inr (8, [.int 0, .ref q1, .ref q2, .ref q3, .int 0, .int 0, .int 0, .null, .int 0, .null, .int 0, .null, .null, .int 0, .int 0, .int 0, .int 0, .int 0, .int 0, .int 0, .null, .int 0])), (q1, .inl (cI, 60, .inl z0)), (q2, .inl (cI, 60, .inl z0)), (q3, .inl (cZ, 60, .inl z0))] H := hP
  have hD : va_D A [(h, .inr (8, [.int 0, .ref q1, .ref q2, .ref q3, .int 0, .int 0, .int 0, .null, .int 0, .null, .int 0, .null, .null, .int 0, .int 0, .int 0, .int 0, .int 0, .int 0, .int 0, .null, .int 0])), (q1, .inl (cI, 60, .inl z0)), (q2, .inl (cI, 60, .inl z0)), (q3, .inl (cZ, 60, .inl z0))] := hD
  refine lv_aload_n hx hb dX9_init_28 rfl (lv_at hl 0 rfl) ?_
  refine lv_bipush (v := (120 : Int32)) hx hb dX9_init_29 (by decide) ?_
  refine na_I (N' := 120) hx hb (hts _ (List.mem_of_getElem? (i := 4) rfl)) hK hP hD hS hA (by decide) (by decide) (Nat.le_of_ble_eq_true rfl) (Nat.le_of_ble_eq_true rfl) (Nat.le_of_ble_eq_true rfl) dX9_init_31 (fun q4 H hP hD hS => ?_)
  have hP : va_P D vwCl [(h, .inr (8, [.int 0, .ref q1, .ref q2, .ref q3, .int 0, .int 0, .int 0, .null, .int 0, .null, .int 0, .null, .null, .int 0, .int 0, .int 0, .int 0, .int 0, .int 0, .int 0, .null, .int 0])), (q1, .inl (cI, 60, .inl z0)), (q2, .inl (cI, 60, .inl z0)), (q3, .inl (cZ, 60, .inl z0)), (q4, .inl (cI, 120, .inl z0))] H := hP
  have hD : va_D A [(h, .inr (8, [.int 0, .ref q1, .ref q2, .ref q3, .int 0, .int 0, .int 0, .null, .int 0, .null, .int 0, .null, .null, .int 0, .int 0, .int 0, .int 0, .int 0, .int 0, .int 0, .null, .int 0])), (q1, .inl (cI, 60, .inl z0)), (q2, .inl (cI, 60, .inl z0)), (q3, .inl (cZ, 60, .inl z0)), (q4, .inl (cI, 120, .inl z0))] := hD
  refine va_putF (ci := 8) (v := .ref q4) (ty := .array .int) (C := RX9) (T := TX9) (N := 22) hx hb hts hiX9 tyX9 tyX9_ok nmX9 hown hK hP hD hS 0 rfl rfl 7 (by decide) (hts _ (List.mem_of_getElem? (i := 9) rfl)) (fun _ h9 => h9) rfl hin rfl (tyX9_ok 7 (by decide)) rfl rfl (Nat.le_of_ble_eq_true rfl) dX9_init_33 (fun H locs hP hD hS => ?_)
  have hP : va_P D vwCl [(h, .inr (8, [.int 0, .ref q1, .ref q2, .ref q3, .int 0, .int 0, .int 0, .ref q4, .int 0, .null, .int 0, .null, .null, .int 0, .int 0, .int 0, .int 0, .int 0, .int 0, .int 0, .null, .int 0])), (q1, .inl (cI, 60, .inl z0)), (q2, .inl (cI, 60, .inl z0)), (q3, .inl (cZ, 60, .inl z0)), (q4, .inl (cI, 120, .inl z0))] H := hP
  have hD : va_D A [(h, .inr (8, [.int 0, .ref q1, .ref q2, .ref q3, .int 0, .int 0, .int 0, .ref q4, .int 0, .null, .int 0, .null, .null, .int 0, .int 0, .int 0, .int 0, .int 0, .int 0, .int 0, .null, .int 0])), (q1, .inl (cI, 60, .inl z0)), (q2, .inl (cI, 60, .inl z0)), (q3, .inl (cZ, 60, .inl z0)), (q4, .inl (cI, 120, .inl z0))] := hD
  refine lv_aload_n hx hb dX9_init_36 rfl (lv_at hl 0 rfl) ?_
  refine lv_sipush (v := (400 : Int32)) hx hb dX9_init_37 (by decide) ?_
  refine na_I (N' := 400) hx hb (hts _ (List.mem_of_getElem? (i := 4) rfl)) hK hP hD hS hA (by decide) (by decide) (Nat.le_of_ble_eq_true rfl) (Nat.le_of_ble_eq_true rfl) (Nat.le_of_ble_eq_true rfl) dX9_init_40 (fun q5 H hP hD hS => ?_)
  have hP : va_P D vwCl [(h, .inr (8, [.int 0, .ref q1, .ref q2, .ref q3, .int 0, .int 0, .int 0, .ref q4, .int 0, .null, .int 0, .null, .null, .int 0, .int 0, .int 0, .int 0, .int 0, .int 0, .int 0, .null, .int 0])), (q1, .inl (cI, 60, .inl z0)), (q2, .inl (cI, 60, .inl z0)), (q3, .inl (cZ, 60, .inl z0)), (q4, .inl (cI, 120, .inl z0)), (q5, .inl (cI, 400, .inl z0))] H := hP
  have hD : va_D A [(h, .inr (8, [.int 0, .ref q1, .ref q2, .ref q3, .int 0, .int 0, .int 0, .ref q4, .int 0, .null, .int 0, .null, .null, .int 0, .int 0, .int 0, .int 0, .int 0, .int 0, .int 0, .null, .int 0])), (q1, .inl (cI, 60, .inl z0)), (q2, .inl (cI, 60, .inl z0)), (q3, .inl (cZ, 60, .inl z0)), (q4, .inl (cI, 120, .inl z0)), (q5, .inl (cI, 400, .inl z0))] := hD
  refine va_putF (ci := 8) (v := .ref q5) (ty := .array .int) (C := RX9) (T := TX9) (N := 22) hx hb hts hiX9 tyX9 tyX9_ok nmX9 hown hK hP hD hS 0 rfl rfl 9 (by decide) (hts _ (List.mem_of_getElem? (i := 10) rfl)) (fun _ h9 => h9) rfl hin rfl (tyX9_ok 9 (by decide)) rfl rfl (Nat.le_of_ble_eq_true rfl) dX9_init_42 (fun H locs hP hD hS => ?_)
  have hP : va_P D vwCl [(h, .inr (8, [.int 0, .ref q1, .ref q2, .ref q3, .int 0, .int 0, .int 0, .ref q4, .int 0, .ref q5, .int 0, .null, .null, .int 0, .int 0, .int 0, .int 0, .int 0, .int 0, .int 0, .null, .int 0])), (q1, .inl (cI, 60, .inl z0)), (q2, .inl (cI, 60, .inl z0)), (q3, .inl (cZ, 60, .inl z0)), (q4, .inl (cI, 120, .inl z0)), (q5, .inl (cI, 400, .inl z0))] H := hP
  have hD : va_D A [(h, .inr (8, [.int 0, .ref q1, .ref q2, .ref q3, .int 0, .int 0, .int 0, .ref q4, .int 0, .ref q5, .int 0, .null, .null, .int 0, .int 0, .int 0, .int 0, .int 0, .int 0, .int 0, .null, .int 0])), (q1, .inl (cI, 60, .inl z0)), (q2, .inl (cI, 60, .inl z0)), (q3, .inl (cZ, 60, .inl z0)), (q4, .inl (cI, 120, .inl z0)), (q5, .inl (cI, 400, .inl z0))] := hD
  refine lv_aload_n hx hb dX9_init_45 rfl (lv_at hl 0 rfl) ?_
  refine lv_bipush (v := (60 : Int32)) hx hb dX9_init_46 (by decide) ?_
  refine na_I (N' := 60) hx hb (hts _ (List.mem_of_getElem? (i := 4) rfl)) hK hP hD hS hA (by decide) (by decide) (Nat.le_of_ble_eq_true rfl) (Nat.le_of_ble_eq_true rfl) (Nat.le_of_ble_eq_true rfl) dX9_init_48 (fun q6 H hP hD hS => ?_)
  have hP : va_P D vwCl [(h, .inr (8, [.int 0, .ref q1, .ref q2, .ref q3, .int 0, .int 0, .int 0, .ref q4, .int 0, .ref q5, .int 0, .null, .null, .int 0, .int 0, .int 0, .int 0, .int 0, .int 0, .int 0, .null, .int 0])), (q1, .inl (cI, 60, .inl z0)), (q2, .inl (cI, 60, .inl z0)), (q3, .inl (cZ, 60, .inl z0)), (q4, .inl (cI, 120, .inl z0)), (q5, .inl (cI, 400, .inl z0)), (q6, .inl (cI, 60, .inl z0))] H := hP
  have hD : va_D A [(h, .inr (8, [.int 0, .ref q1, .ref q2, .ref q3, .int 0, .int 0, .int 0, .ref q4, .int 0, .ref q5, .int 0, .null, .null, .int 0, .int 0, .int 0, .int 0, .int 0, .int 0, .int 0, .null, .int 0])), (q1, .inl (cI, 60, .inl z0)), (q2, .inl (cI, 60, .inl z0)), (q3, .inl (cZ, 60, .inl z0)), (q4, .inl (cI, 120, .inl z0)), (q5, .inl (cI, 400, .inl z0)), (q6, .inl (cI, 60, .inl z0))] := hD
  refine va_putF (ci := 8) (v := .ref q6) (ty := .array .int) (C := RX9) (T := TX9) (N := 22) hx hb hts hiX9 tyX9 tyX9_ok nmX9 hown hK hP hD hS 0 rfl rfl 11 (by decide) (hts _ (List.mem_of_getElem? (i := 11) rfl)) (fun _ h9 => h9) rfl hin rfl (tyX9_ok 11 (by decide)) rfl rfl (Nat.le_of_ble_eq_true rfl) dX9_init_50 (fun H locs hP hD hS => ?_)
  have hP : va_P D vwCl [(h, .inr (8, [.int 0, .ref q1, .ref q2, .ref q3, .int 0, .int 0, .int 0, .ref q4, .int 0, .ref q5, .int 0, .ref q6, .null, .int 0, .int 0, .int 0, .int 0, .int 0, .int 0, .int 0, .null, .int 0])), (q1, .inl (cI, 60, .inl z0)), (q2, .inl (cI, 60, .inl z0)), (q3, .inl (cZ, 60, .inl z0)), (q4, .inl (cI, 120, .inl z0)), (q5, .inl (cI, 400, .inl z0)), (q6, .inl (cI, 60, .inl z0))] H := hP
  have hD : va_D A [(h, .inr (8, [.int 0, .ref q1, .ref q2, .ref q3, .int 0, .int 0, .int 0, .ref q4, .int 0, .ref q5, .int 0, .ref q6, .null, .int 0, .int 0, .int 0, .int 0, .int 0, .int 0, .int 0, .null, .int 0])), (q1, .inl (cI, 60, .inl z0)), (q2, .inl (cI, 60, .inl z0)), (q3, .inl (cZ, 60, .inl z0)), (q4, .inl (cI, 120, .inl z0)), (q5, .inl (cI, 400, .inl z0)), (q6, .inl (cI, 60, .inl z0))] := hD
  refine lv_aload_n hx hb dX9_init_53 rfl (lv_at hl 0 rfl) ?_
  refine lv_bipush (v := (60 : Int32)) hx hb dX9_init_54 (by decide) ?_
  refine na_I (N' := 60) hx hb (hts _ (List.mem_of_getElem? (i := 4) rfl)) hK hP hD hS hA (by decide) (by decide) (Nat.le_of_ble_eq_true rfl) (Nat.le_of_ble_eq_true rfl) (Nat.le_of_ble_eq_true rfl) dX9_init_56 (fun q7 H hP hD hS => ?_)
  have hP : va_P D vwCl [(h, .inr (8, [.int 0, .ref q1, .ref q2, .ref q3, .int 0, .int 0, .int 0, .ref q4, .int 0, .ref q5, .int 0, .ref q6, .null, .int 0, .int 0, .int 0, .int 0, .int 0, .int 0, .int 0, .null, .int 0])), (q1, .inl (cI, 60, .inl z0)), (q2, .inl (cI, 60, .inl z0)), (q3, .inl (cZ, 60, .inl z0)), (q4, .inl (cI, 120, .inl z0)), (q5, .inl (cI, 400, .inl z0)), (q6, .inl (cI, 60, .inl z0)), (q7, .inl (cI, 60, .inl z0))] H := hP
  have hD : va_D A [(h, .inr (8, [.int 0, .ref q1, .ref q2, .ref q3, .int 0, .int 0, .int 0, .ref q4, .int 0, .ref q5, .int 0, .ref q6, .null, .int 0, .int 0, .int 0, .int 0, .int 0, .int 0, .int 0, .null, .int 0])), (q1, .inl (cI, 60, .inl z0)), (q2, .inl (cI, 60, .inl z0)), (q3, .inl (cZ, 60, .inl z0)), (q4, .inl (cI, 120, .inl z0)), (q5, .inl (cI, 400, .inl z0)), (q6, .inl (cI, 60, .inl z0)), (q7, .inl (cI, 60, .inl z0))] := hD
  refine va_putF (ci := 8) (v := .ref q7) (ty := .array .int) (C := RX9) (T := TX9) (N := 22) hx hb hts hiX9 tyX9 tyX9_ok nmX9 hown hK hP hD hS 0 rfl rfl 12 (by decide) (hts _ (List.mem_of_getElem? (i := 12) rfl)) (fun _ h9 => h9) rfl hin rfl (tyX9_ok 12 (by decide)) rfl rfl (Nat.le_of_ble_eq_true rfl) dX9_init_58 (fun H locs hP hD hS => ?_)
  have hP : va_P D vwCl [(h, .inr (8, [.int 0, .ref q1, .ref q2, .ref q3, .int 0, .int 0, .int 0, .ref q4, .int 0, .ref q5, .int 0, .ref q6, .ref q7, .int 0, .int 0, .int 0, .int 0, .int 0, .int 0, .int 0, .null, .int 0])), (q1, .inl (cI, 60, .inl z0)), (q2, .inl (cI, 60, .inl z0)), (q3, .inl (cZ, 60, .inl z0)), (q4, .inl (cI, 120, .inl z0)), (q5, .inl (cI, 400, .inl z0)), (q6, .inl (cI, 60, .inl z0)), (q7, .inl (cI, 60, .inl z0))] H := hP
  have hD : va_D A [(h, .inr (8, [.int 0, .ref q1, .ref q2, .ref q3, .int 0, .int 0, .int 0, .ref q4, .int 0, .ref q5, .int 0, .ref q6, .ref q7, .int 0, .int 0, .int 0, .int 0, .int 0, .int 0, .int 0, .null, .int 0])), (q1, .inl (cI, 60, .inl z0)), (q2, .inl (cI, 60, .inl z0)), (q3, .inl (cZ, 60, .inl z0)), (q4, .inl (cI, 120, .inl z0)), (q5, .inl (cI, 400, .inl z0)), (q6, .inl (cI, 60, .inl z0)), (q7, .inl (cI, 60, .inl z0))] := hD
  refine lv_aload_n hx hb dX9_init_61 rfl (lv_at hl 0 rfl) ?_
  refine lv_iconst (v := (2 : Int32)) hx hb dX9_init_62 (by decide) ?_
  refine na_I (N' := 2) hx hb (hts _ (List.mem_of_getElem? (i := 4) rfl)) hK hP hD hS hA (by decide) (by decide) (Nat.le_of_ble_eq_true rfl) (Nat.le_of_ble_eq_true rfl) (Nat.le_of_ble_eq_true rfl) dX9_init_63 (fun q8 H hP hD hS => ?_)
  have hP : va_P D vwCl [(h, .inr (8, [.int 0, .ref q1, .ref q2, .ref q3, .int 0, .int 0, .int 0, .ref q4, .int 0, .ref q5, .int 0, .ref q6, .ref q7, .int 0, .int 0, .int 0, .int 0, .int 0, .int 0, .int 0, .null, .int 0])), (q1, .inl (cI, 60, .inl z0)), (q2, .inl (cI, 60, .inl z0)), (q3, .inl (cZ, 60, .inl z0)), (q4, .inl (cI, 120, .inl z0)), (q5, .inl (cI, 400, .inl z0)), (q6, .inl (cI, 60, .inl z0)), (q7, .inl (cI, 60, .inl z0)), (q8, .inl (cI, 2, .inl z0))] H := hP
  have hD : va_D A [(h, .inr (8, [.int 0, .ref q1, .ref q2, .ref q3, .int 0, .int 0, .int 0, .ref q4, .int 0, .ref q5, .int 0, .ref q6, .ref q7, .int 0, .int 0, .int 0, .int 0, .int 0, .int 0, .int 0, .null, .int 0])), (q1, .inl (cI, 60, .inl z0)), (q2, .inl (cI, 60, .inl z0)), (q3, .inl (cZ, 60, .inl z0)), (q4, .inl (cI, 120, .inl z0)), (q5, .inl (cI, 400, .inl z0)), (q6, .inl (cI, 60, .inl z0)), (q7, .inl (cI, 60, .inl z0)), (q8, .inl (cI, 2, .inl z0))] := hD
  refine va_putF (ci := 8) (v := .ref q8) (ty := .array .int) (C := RX9) (T := TX9) (N := 22) hx hb hts hiX9 tyX9 tyX9_ok nmX9 hown hK hP hD hS 0 rfl rfl 20 (by decide) (hts _ (List.mem_of_getElem? (i := 13) rfl)) (fun _ h9 => h9) rfl hin rfl (tyX9_ok 20 (by decide)) rfl rfl (Nat.le_of_ble_eq_true rfl) dX9_init_65 (fun H locs hP hD hS => ?_)
  have hP : va_P D vwCl [(h, .inr (8, [.int 0, .ref q1, .ref q2, .ref q3, .int 0, .int 0, .int 0, .ref q4, .int 0, .ref q5, .int 0, .ref q6, .ref q7, .int 0, .int 0, .int 0, .int 0, .int 0, .int 0, .int 0, .ref q8, .int 0])), (q1, .inl (cI, 60, .inl z0)), (q2, .inl (cI, 60, .inl z0)), (q3, .inl (cZ, 60, .inl z0)), (q4, .inl (cI, 120, .inl z0)), (q5, .inl (cI, 400, .inl z0)), (q6, .inl (cI, 60, .inl z0)), (q7, .inl (cI, 60, .inl z0)), (q8, .inl (cI, 2, .inl z0))] H := hP
  have hD : va_D A [(h, .inr (8, [.int 0, .ref q1, .ref q2, .ref q3, .int 0, .int 0, .int 0, .ref q4, .int 0, .ref q5, .int 0, .ref q6, .ref q7, .int 0, .int 0, .int 0, .int 0, .int 0, .int 0, .int 0, .ref q8, .int 0])), (q1, .inl (cI, 60, .inl z0)), (q2, .inl (cI, 60, .inl z0)), (q3, .inl (cZ, 60, .inl z0)), (q4, .inl (cI, 120, .inl z0)), (q5, .inl (cI, 400, .inl z0)), (q6, .inl (cI, 60, .inl z0)), (q7, .inl (cI, 60, .inl z0)), (q8, .inl (cI, 2, .inl z0))] := hD
  refine lv_aload_n hx hb dX9_init_68 rfl (lv_at hl 0 rfl) ?_
  refine lv_iconst (v := (1 : Int32)) hx hb dX9_init_69 (by decide) ?_
  refine va_put (ci := 8) (v := .int (1 : Int32)) (ty := .int) (C := RX9) (T := TX9) (N := 22) hx hb hts hiX9 tyX9 tyX9_ok nmX9 hown hK hP hD hS 0 rfl rfl 0 (by decide) (hts _ (List.mem_of_getElem? (i := 14) rfl)) (fun _ h9 => h9) rfl (tyX9_ok 0 (by decide)) rfl rfl (Nat.le_of_ble_eq_true rfl) dX9_init_70 (fun H locs hP hD hS => ?_)
  have hP : va_P D vwCl [(h, .inr (8, [.int (1 : Int32), .ref q1, .ref q2, .ref q3, .int 0, .int 0, .int 0, .ref q4, .int 0, .ref q5, .int 0, .ref q6, .ref q7, .int 0, .int 0, .int 0, .int 0, .int 0, .int 0, .int 0, .ref q8, .int 0])), (q1, .inl (cI, 60, .inl z0)), (q2, .inl (cI, 60, .inl z0)), (q3, .inl (cZ, 60, .inl z0)), (q4, .inl (cI, 120, .inl z0)), (q5, .inl (cI, 400, .inl z0)), (q6, .inl (cI, 60, .inl z0)), (q7, .inl (cI, 60, .inl z0)), (q8, .inl (cI, 2, .inl z0))] H := hP
  have hD : va_D A [(h, .inr (8, [.int (1 : Int32), .ref q1, .ref q2, .ref q3, .int 0, .int 0, .int 0, .ref q4, .int 0, .ref q5, .int 0, .ref q6, .ref q7, .int 0, .int 0, .int 0, .int 0, .int 0, .int 0, .int 0, .ref q8, .int 0])), (q1, .inl (cI, 60, .inl z0)), (q2, .inl (cI, 60, .inl z0)), (q3, .inl (cZ, 60, .inl z0)), (q4, .inl (cI, 120, .inl z0)), (q5, .inl (cI, 400, .inl z0)), (q6, .inl (cI, 60, .inl z0)), (q7, .inl (cI, 60, .inl z0)), (q8, .inl (cI, 2, .inl z0))] := hD
  refine lv_aload_n hx hb dX9_init_73 rfl (lv_at hl 0 rfl) ?_
  refine va_get (ci := 8) (v := .ref q1) (C := RX9) (T := TX9) (N := 22) hx hb hts hiX9 hown hK hP 0 rfl rfl 1 (by decide) (hts _ (List.mem_of_getElem? (i := 5) rfl)) (fun _ h9 => h9) rfl dX9_init_74 ?_
  refine lv_iconst (v := (0 : Int32)) hx hb dX9_init_77 (by decide) ?_
  refine lv_iconst (v := (-1 : Int32)) hx hb dX9_init_78 (by decide) ?_
  refine va_iast hx hb hK hP hD hS 1 0 rfl rfl (gI_in (i := (0 : Int32)) (n := 60) (by decide)) dX9_init_79 (fun H locs hP hD hS => ?_)
  have hP : va_P D vwCl [(h, .inr (8, [.int (1 : Int32), .ref q1, .ref q2, .ref q3, .int 0, .int 0, .int 0, .ref q4, .int 0, .ref q5, .int 0, .ref q6, .ref q7, .int 0, .int 0, .int 0, .int 0, .int 0, .int 0, .int 0, .ref q8, .int 0])), (q1, .inl (cI, 60, .inl (upd z0 (0 : Int32).toNatClampNeg (-1 : Int32)))), (q2, .inl (cI, 60, .inl z0)), (q3, .inl (cZ, 60, .inl z0)), (q4, .inl (cI, 120, .inl z0)), (q5, .inl (cI, 400, .inl z0)), (q6, .inl (cI, 60, .inl z0)), (q7, .inl (cI, 60, .inl z0)), (q8, .inl (cI, 2, .inl z0))] H := hP
  have hD : va_D A [(h, .inr (8, [.int (1 : Int32), .ref q1, .ref q2, .ref q3, .int 0, .int 0, .int 0, .ref q4, .int 0, .ref q5, .int 0, .ref q6, .ref q7, .int 0, .int 0, .int 0, .int 0, .int 0, .int 0, .int 0, .ref q8, .int 0])), (q1, .inl (cI, 60, .inl (upd z0 (0 : Int32).toNatClampNeg (-1 : Int32)))), (q2, .inl (cI, 60, .inl z0)), (q3, .inl (cZ, 60, .inl z0)), (q4, .inl (cI, 120, .inl z0)), (q5, .inl (cI, 400, .inl z0)), (q6, .inl (cI, 60, .inl z0)), (q7, .inl (cI, 60, .inl z0)), (q8, .inl (cI, 2, .inl z0))] := hD
  refine W.widen (k := 8) (n := 822) (Nat.le_of_ble_eq_true rfl) (Nat.le_of_ble_eq_true rfl) ?_
  exact W.vret hx hb hr (fun t ht hW => ⟨⟨(fun i => [q1, q2, q3, q4, q5, q6, q7, q8].getD i 0), rfl, trivial, by rw [ht]; exact hP, hD⟩, hS.F ht⟩) hS.2.2 dX9_init_80 hlk
