section FW
variable {p : Program} {l : Launch} {e : Env} {R : Room} {s : State} {m : MethodId} {args : Array Value} {below : List Frame} {meth : Method} {c : Code} {H : Heap} {locs : List Loc} {cells slots : Nat} {Q : State → Prop}
variable {D : va_G} {tys : List (ClassId × FieldType)} {wsw wsw' : va_W} {A : Nat → Prop} {zF zS : Nat} {adK adV : Nat → Nat}
variable {y : MethodName} {bytes cc : ByteArray} {maxL nL n index pc : Nat} {ret : Option FieldType} {ws : List Cond} {rm : Room} {Ts : List Cond} {own C host : String} {b : Addr} {As rest st : List Value} {ls : Array Slot}
theorem re_k {k val : Nat} (hx : p.tables.exec = Jvm.exec) (hb : c.code = cc) (hr : meth.sig.returnType = some (.object "java/lang/String")) (hlocks : meth.locks = false) (hdg : decode cc pc = .ok (.areturn, 1)) (hv : some k = some val) : W p l e R s m args below meth c s.heap [] 0 0 (MQ below (va_Sr (fun k => k = val) (fun k => .ref (adK k))) args s 0 0 (fun _ => False)) (F0 m pc ls [.ref (adK k)]) :=
  W.aret hx hb hr (Or.inl ⟨_, rfl⟩) (Or.inr ⟨_, rfl⟩) (fun t ht _ => ⟨k, rfl, Option.some.inj hv, ht⟩) (fun q h => absurd h List.not_mem_nil) hdg hlocks
theorem rcSN {val : Int32} (S : CallFix p m c cc nL s args Ts own) (hM : Met l y ws rm (PS As) (SI val) 0 0 (fun _ => False)) (cw : va_CN R s args own index y host bytes maxL ret ws rm 0 0 n ∧ (Cond.static y).before args s = true ∧ True)
    (hn : As.length = n) (hsize : ls.size = nL) (hstack : st = As.reverse ++ rest) (hW : (rest.map fun v => v.category).sum ≤ 8) (hdg : decode cc pc = .ok (.invokestatic index, 3)) (hf : cells + 0 ≤ R.cells ∧ slots + 0 ≤ R.slots)
    (kk : W p l e R s m args below meth c H locs cells slots Q (F0 m (pc + 3) ls (.int val :: rest))) : W p l e R s m args below meth c H locs cells slots Q (F0 m pc ls st) := by
  subst hstack
  exact vp_callSi (va_Run.run (va_runSN (As := As) (rest := rest) S hM cw ⟨PS_fb, fun U _ _ => ⟨rfl, trivial⟩⟩ rfl hn hsize rfl (lv_room hW) hdg hf)) (fun r hr => by rw [hr]; exact kk)
theorem fcV {val : Int32} (q0 ci : Nat) (S : CallFix p m c cc nL s args Ts own) (hM : Met l y ws rm (PF D tys wsw zF zS adK adV A (.ref b :: As)) (SI val) 0 0 (fun _ => False)) (cw : CallW R s args own C index y bytes maxL ret ws rm 0 0 n) (hK : va_K D vwCl tys s) (hP : va_P D vwCl wsw H) (hF : SF zF zS adK adV A s s.heap) (hS : va_S A s.heap H locs) {fs : List Value} {T : u_T} {N : Nat} (hc : vwCl[ci]? = some (C, T, N)) (he : wsw[q0]? = some (b, .inr (ci, fs)))
    (hn : As.length = n) (hsize : ls.size = nL) (hstack : st = As.reverse ++ .ref b :: rest) (hW : (rest.map fun v => v.category).sum ≤ 8) (hdg : decode cc pc = .ok (.invokevirtual index, 3)) (hf : cells + 0 ≤ R.cells ∧ slots + 0 ≤ R.slots)
    (kk : W p l e R s m args below meth c H locs cells slots Q (F0 m (pc + 3) ls (.int val :: rest))) : W p l e R s m args below meth c H locs cells slots Q (F0 m pc ls st) := by
  subst hstack
  exact vp_callSi (W.runV (As := As) (rest := rest) S hM cw ⟨PF_fb, va_recv hK hP hc he, fun U hU hW => ⟨rfl, by rw [hU]; exact hP, va_K.moved hW.alike hK, hF.to hS hU hW⟩⟩ rfl hn hsize rfl (lv_room hW) hdg hf) (fun r hr => by rw [hr]; exact kk)
theorem fcS {val : Int32} (S : CallFix p m c cc nL s args Ts own) (hM : Met l y ws rm (PF D tys wsw zF zS adK adV A As) (SI val) 0 0 (fun _ => False)) (cw : CallB R s args own index y bytes maxL ret ws rm 0 0 n ∧ (Cond.static y).before args s = true) (hK : va_K D vwCl tys s) (hP : va_P D vwCl wsw H) (hF : SF zF zS adK adV A s s.heap) (hS : va_S A s.heap H locs)
    (hn : As.length = n) (hsize : ls.size = nL) (hstack : st = As.reverse ++ rest) (hW : (rest.map fun v => v.category).sum ≤ 8) (hdg : decode cc pc = .ok (.invokestatic index, 3)) (hf : cells + 0 ≤ R.cells ∧ slots + 0 ≤ R.slots)
    (kk : W p l e R s m args below meth c H locs cells slots Q (F0 m (pc + 3) ls (.int val :: rest))) : W p l e R s m args below meth c H locs cells slots Q (F0 m pc ls st) := by
  subst hstack
  exact vp_callSi (W.runS (As := As) (rest := rest) S hM cw ⟨PF_fb, fun U hU hW => ⟨rfl, by rw [hU]; exact hP, va_K.moved hW.alike hK, hF.to hS hU hW⟩⟩ rfl hn hsize rfl (lv_room hW) hdg hf) (fun r hr => by rw [hr]; exact kk)
theorem fcVi {val : Int32} (q0 ci : Nat) (S : CallFix p m c cc nL s args Ts own) (hM : Met l y ws rm (PF D tys wsw zF zS adK adV A (.ref b :: As)) (QI D wsw' A val) 0 0 A) (cw : CallW R s args own C index y bytes maxL ret ws rm 0 0 n) (hK : va_K D vwCl tys s) (hP : va_P D vwCl wsw H) (hF : SF zF zS adK adV A s s.heap) (hS : va_S A s.heap H locs) {fs : List Value} {T : u_T} {N : Nat} (hc : vwCl[ci]? = some (C, T, N)) (he : wsw[q0]? = some (b, .inr (ci, fs)))
    (hn : As.length = n) (hsize : ls.size = nL) (hstack : st = As.reverse ++ .ref b :: rest) (hW : (rest.map fun v => v.category).sum ≤ 8) (hdg : decode cc pc = .ok (.invokevirtual index, 3)) (hf : cells + 0 ≤ R.cells ∧ slots + 0 ≤ R.slots)
    (kk : ∀ (H1 : Heap) (locs1 : List Loc), va_P D vwCl wsw' H1 → va_S A s.heap H1 locs1 → W p l e R s m args below meth c H1 locs1 cells slots Q (F0 m (pc + 3) ls (.int val :: rest))) : W p l e R s m args below meth c H locs cells slots Q (F0 m pc ls st) := by
  subst hstack
  exact va_calli (va_runV (As := As) (rest := rest) S hM cw ⟨PF_fb, va_recv hK hP hc he, fun U hU hW => ⟨rfl, by rw [hU]; exact hP, va_K.moved hW.alike hK, hF.to hS hU hW⟩⟩ rfl hn hsize rfl (lv_room hW) hdg hf) hS (fun q _ h => h) (fun q h => h) (fun r u t H1 locs1 ht _ hr hB _ _ hS1 => by rw [hr]; exact kk H1 locs1 (by rw [← ht]; exact hB) hS1)
theorem fcVv (q0 ci : Nat) (S : CallFix p m c cc nL s args Ts own) (hM : Met l y ws rm (PF D tys wsw zF zS adK adV A (.ref b :: As)) (QV D wsw' A) 0 0 A) (cw : CallW R s args own C index y bytes maxL ret ws rm 0 0 n) (hK : va_K D vwCl tys s) (hP : va_P D vwCl wsw H) (hF : SF zF zS adK adV A s s.heap) (hS : va_S A s.heap H locs) {fs : List Value} {T : u_T} {N : Nat} (hc : vwCl[ci]? = some (C, T, N)) (he : wsw[q0]? = some (b, .inr (ci, fs)))
    (hn : As.length = n) (hsize : ls.size = nL) (hstack : st = As.reverse ++ .ref b :: rest) (hW : (rest.map fun v => v.category).sum ≤ 8) (hdg : decode cc pc = .ok (.invokevirtual index, 3)) (hf : cells + 0 ≤ R.cells ∧ slots + 0 ≤ R.slots)
    (kk : ∀ (H1 : Heap) (locs1 : List Loc), va_P D vwCl wsw' H1 → va_S A s.heap H1 locs1 → W p l e R s m args below meth c H1 locs1 cells slots Q (F0 m (pc + 3) ls rest)) : W p l e R s m args below meth c H locs cells slots Q (F0 m pc ls st) := by
  subst hstack
  exact va_callv (va_runV (As := As) (rest := rest) S hM cw ⟨PF_fb, va_recv hK hP hc he, fun U hU hW => ⟨rfl, by rw [hU]; exact hP, va_K.moved hW.alike hK, hF.to hS hU hW⟩⟩ rfl hn hsize rfl (lv_room hW) hdg hf) hS (fun q _ h => h) (fun q h => h) (fun u t H1 locs1 ht _ _ hB _ _ hS1 => kk H1 locs1 (by rw [← ht]; exact hB) hS1)
end FW
theorem nzX8_isLength {a : Int32} {r : Int32} (h : fX8_isLength a = some r) : narrow .boolean (.int r) = .int r := by
  unfold fX8_isLength at h
  split at h
  · cases h; decide
  · split at h
    · cases h; decide
    · cases h; decide
def fX7_suits  (p0 : Int32) (p1 : Int32) (p2 : Int32) : Option (Int32) :=
  (if p0 = (1 : Int32) then (if p2 ≤ p1 then (some (0 : Int32)) else (some (1 : Int32))) else (if p0 = (2 : Int32) then (if p1 ≤ 0 then (some (0 : Int32)) else (if p2 ≤ p1 then (some (0 : Int32)) else (some (1 : Int32)))) else (if p0 = (3 : Int32) then ((fX8_isLength p1).bind fun r_1 => (some r_1)) else (if (99 : Int32) < p1 then (some (0 : Int32)) else (some (1 : Int32))))))
set_option maxRecDepth 100000 in
set_option maxHeartbeats 4000000 in
theorem ctX7_suits (l : Launch) (zF zS : Nat) (adK adV : Nat → Nat) (A : Nat → Prop) (p0 : Int32) (p1 : Int32) (p2 : Int32) (rv : Int32) (hf : fX7_suits p0 p1 p2 = some rv) : Met l yX7_suits wsX7_suits (rmN 1 20) (PJ zF zS adK adV A [.int p0, .int p1, .int p2]) (SI rv) 0 0 (fun _ => False) := by
  refine mk_met cX7_suits 3 (some .boolean) (by decide) rfl (Nat.le_of_ble_eq_true rfl) ?_
  intro p e s m args below meth c ls hx hb hr hlk hml hown hts hF hl
  have hS : va_S A s.heap s.heap [] := va_S.rf
  replace hl : lv_has ls 3 [(0, .int p0), (1, .int p1), (2, .int p2)] := hl
  replace hown : s.vm.findClass RX7 = some m.cls := hown
  unfold fX7_suits at hf
  refine lv_iload_n hx hb dX7_suits_0 rfl (lv_at hl 0 rfl) ?_
  by_cases hc1 : p0 = (1 : Int32)
  · replace hf := (if_pos hc1).symm.trans hf
    refine lv_tableIn (tgt := 28) hx hb dX7_suits_1 (by rw [hc1]; decide) (by rw [hc1]; decide) (by rw [hc1]; rfl) (by decide) ?_
    refine lv_iload_n hx hb dX7_suits_28 rfl (lv_at hl 1 rfl) ?_
    refine lv_iload_n hx hb dX7_suits_29 rfl (lv_at hl 2 rfl) ?_
    refine lv_icmp_ge (tgt := 37) hx hb dX7_suits_30 (by decide) (fun hc => ?_) (fun hc => ?_)
    · replace hf := (if_pos hc).symm.trans hf
      refine lv_iconst (v := (0 : Int32)) hx hb dX7_suits_37 (by decide) ?_
      exact re_z hx hb hr hlk (by decide) dX7_suits_38 hf
    · replace hf := (if_neg hc).symm.trans hf
      refine lv_iconst (v := (1 : Int32)) hx hb dX7_suits_33 (by decide) ?_
      refine lv_goto (tgt := 38) hx hb dX7_suits_34 (by decide) ?_
      exact re_z hx hb hr hlk (by decide) dX7_suits_38 hf
  replace hf := (if_neg hc1).symm.trans hf
  by_cases hc2 : p0 = (2 : Int32)
  · replace hf := (if_pos hc2).symm.trans hf
    refine lv_tableIn (tgt := 39) hx hb dX7_suits_1 (by rw [hc2]; decide) (by rw [hc2]; decide) (by rw [hc2]; rfl) (by decide) ?_
    refine lv_iload_n hx hb dX7_suits_39 rfl (lv_at hl 1 rfl) ?_
    refine lv_if_le (tgt := 52) hx hb dX7_suits_40 (by decide) (fun hc => ?_) (fun hc => ?_)
    · replace hf := (if_pos hc).symm.trans hf
      refine lv_iconst (v := (0 : Int32)) hx hb dX7_suits_52 (by decide) ?_
      exact re_z hx hb hr hlk (by decide) dX7_suits_53 hf
    · replace hf := (if_neg hc).symm.trans hf
      refine lv_iload_n hx hb dX7_suits_43 rfl (lv_at hl 1 rfl) ?_
      refine lv_iload_n hx hb dX7_suits_44 rfl (lv_at hl 2 rfl) ?_
      refine lv_icmp_ge (tgt := 52) hx hb dX7_suits_45 (by decide) (fun hc => ?_) (fun hc => ?_)
      · replace hf := (if_pos hc).symm.trans hf
        refine lv_iconst (v := (0 : Int32)) hx hb dX7_suits_52 (by decide) ?_
        exact re_z hx hb hr hlk (by decide) dX7_suits_53 hf
      · replace hf := (if_neg hc).symm.trans hf
        refine lv_iconst (v := (1 : Int32)) hx hb dX7_suits_48 (by decide) ?_
        refine lv_goto (tgt := 53) hx hb dX7_suits_49 (by decide) ?_
        exact re_z hx hb hr hlk (by decide) dX7_suits_53 hf
  replace hf := (if_neg hc2).symm.trans hf
  by_cases hc3 : p0 = (3 : Int32)
  · replace hf := (if_pos hc3).symm.trans hf
    refine lv_tableIn (tgt := 54) hx hb dX7_suits_1 (by rw [hc3]; decide) (by rw [hc3]; decide) (by rw [hc3]; rfl) (by decide) ?_
    refine lv_iload_n hx hb dX7_suits_54 rfl (lv_at hl 1 rfl) ?_
    obtain ⟨r_1, hq, hf⟩ := ob hf
    try dsimp only at hf
    refine rcSN (As := [.int p1]) (rest := []) ⟨hx, hb, hml, hown, hts⟩ (ctX8_isLength l p1 r_1 hq) ⟨va_cnB 1 hts gX7_suits_X8_isLength_n28 rfl rfl rfl hF.1 (hts _ (List.mem_of_getElem? (i := 2) rfl)) (by decide +kernel) ⟨Nat.le_of_ble_eq_true rfl, Nat.le_of_ble_eq_true rfl⟩, (hts _ (List.mem_of_getElem? (i := 1) rfl)), trivial⟩ rfl hl.1 rfl (Nat.le_of_ble_eq_true rfl) dX7_suits_55 ⟨Nat.zero_le _, Nat.zero_le _⟩ ?_
    exact re_z hx hb hr hlk (nzX8_isLength hq) dX7_suits_58 hf
  replace hf := (if_neg hc3).symm.trans hf
  refine lv_tableOut (tgt := 59) hx hb dX7_suits_1 (by have e1 := ne_ti (z := 1) hc1 (by decide); have e2 := ne_ti (z := 2) hc2 (by decide); have e3 := ne_ti (z := 3) hc3 (by decide); omega) (by decide) ?_
  refine lv_iload_n hx hb dX7_suits_59 rfl (lv_at hl 1 rfl) ?_
  refine lv_bipush (v := (99 : Int32)) hx hb dX7_suits_60 (by decide) ?_
  refine lv_icmp_gt (tgt := 69) hx hb dX7_suits_62 (by decide) (fun hc => ?_) (fun hc => ?_)
  · replace hf := (if_pos hc).symm.trans hf
    refine lv_iconst (v := (0 : Int32)) hx hb dX7_suits_69 (by decide) ?_
    exact re_z hx hb hr hlk (by decide) dX7_suits_70 hf
  · replace hf := (if_neg hc).symm.trans hf
    refine lv_iconst (v := (1 : Int32)) hx hb dX7_suits_65 (by decide) ?_
    refine lv_goto (tgt := 70) hx hb dX7_suits_66 (by decide) ?_
    exact re_z hx hb hr hlk (by decide) dX7_suits_70 hf
def fX7_firstNeed  (p0 : Int32) : Option (Int32) :=
  (if p0 < 0 then (some (0 : Int32)) else (if (10 : Int32) ≤ p0 then (some (0 : Int32)) else (if gI p0 10 then (some (tF (p0).toNatClampNeg)) else none)))
set_option maxRecDepth 100000 in
set_option maxHeartbeats 4000000 in
theorem ctX7_firstNeed (l : Launch) (zF zS : Nat) (adK adV : Nat → Nat) (A : Nat → Prop) (p0 : Int32) (rv : Int32) (hf : fX7_firstNeed p0 = some rv) : Met l yX7_firstNeed wsX7_firstNeed (rmN 0 0) (PJ zF zS adK adV A [.int p0]) (SI rv) 0 0 (fun _ => False) := by
  refine mk_met cX7_firstNeed 1 (some .int) (by decide) rfl (Nat.le_of_ble_eq_true rfl) ?_
  intro p e s m args below meth c ls hx hb hr hlk hml hown hts hF hl
  have hS : va_S A s.heap s.heap [] := va_S.rf
  replace hl : lv_has ls 1 [(0, .int p0)] := hl
  replace hown : s.vm.findClass RX7 = some m.cls := hown
  unfold fX7_firstNeed at hf
  refine lv_iload_n hx hb dX7_firstNeed_0 rfl (lv_at hl 0 rfl) ?_
  refine lv_if_lt (tgt := 20) hx hb dX7_firstNeed_1 (by decide) (fun hc => ?_) (fun hc => ?_)
  · replace hf := (if_pos hc).symm.trans hf
    refine lv_iconst (v := (0 : Int32)) hx hb dX7_firstNeed_20 (by decide) ?_
    exact re_i hx hb hr hlk dX7_firstNeed_21 hf
  · replace hf := (if_neg hc).symm.trans hf
    refine lv_iload_n hx hb dX7_firstNeed_4 rfl (lv_at hl 0 rfl) ?_
    refine va_gets hx hb hF.2.1 hS hown (hts _ (List.mem_of_getElem? (i := 1) rfl)) (fun _ h => h) dX7_firstNeed_5 ?_
    refine va_tlen hx hb hF.2.2.1 hS (v := (10 : Int32)) rfl dX7_firstNeed_8 ?_
    refine lv_icmp_ge (tgt := 20) hx hb dX7_firstNeed_9 (by decide) (fun hc => ?_) (fun hc => ?_)
    · replace hf := (if_pos hc).symm.trans hf
      refine lv_iconst (v := (0 : Int32)) hx hb dX7_firstNeed_20 (by decide) ?_
      exact re_i hx hb hr hlk dX7_firstNeed_21 hf
    · replace hf := (if_neg hc).symm.trans hf
      refine va_gets hx hb hF.2.1 hS hown (hts _ (List.mem_of_getElem? (i := 1) rfl)) (fun _ h => h) dX7_firstNeed_12 ?_
      refine lv_iload_n hx hb dX7_firstNeed_15 rfl (lv_at hl 0 rfl) ?_
      obtain ⟨hg, hf⟩ := og hf
      refine va_ti hx hb hF.2.2.1 hS (gI_in hg) (v := .int (tF (p0).toNatClampNeg)) rfl dX7_firstNeed_16 ?_
      refine lv_goto (tgt := 21) hx hb dX7_firstNeed_17 (by decide) ?_
      exact re_i hx hb hr hlk dX7_firstNeed_21 hf
def fX7_secondNeed  (p0 : Int32) : Option (Int32) :=
  (if p0 < 0 then (some (0 : Int32)) else (if (10 : Int32) ≤ p0 then (some (0 : Int32)) else (if gI p0 10 then (some (tS (p0).toNatClampNeg)) else none)))
set_option maxRecDepth 100000 in
set_option maxHeartbeats 4000000 in
theorem ctX7_secondNeed (l : Launch) (zF zS : Nat) (adK adV : Nat → Nat) (A : Nat → Prop) (p0 : Int32) (rv : Int32) (hf : fX7_secondNeed p0 = some rv) : Met l yX7_secondNeed wsX7_secondNeed (rmN 0 0) (PJ zF zS adK adV A [.int p0]) (SI rv) 0 0 (fun _ => False) := by
  refine mk_met cX7_secondNeed 1 (some .int) (by decide) rfl (Nat.le_of_ble_eq_true rfl) ?_
  intro p e s m args below meth c ls hx hb hr hlk hml hown hts hF hl
  have hS : va_S A s.heap s.heap [] := va_S.rf
  replace hl : lv_has ls 1 [(0, .int p0)] := hl
  replace hown : s.vm.findClass RX7 = some m.cls := hown
  unfold fX7_secondNeed at hf
  refine lv_iload_n hx hb dX7_secondNeed_0 rfl (lv_at hl 0 rfl) ?_
  refine lv_if_lt (tgt := 20) hx hb dX7_secondNeed_1 (by decide) (fun hc => ?_) (fun hc => ?_)
  · replace hf := (if_pos hc).symm.trans hf
    refine lv_iconst (v := (0 : Int32)) hx hb dX7_secondNeed_20 (by decide) ?_
    exact re_i hx hb hr hlk dX7_secondNeed_21 hf
  · replace hf := (if_neg hc).symm.trans hf
    refine lv_iload_n hx hb dX7_secondNeed_4 rfl (lv_at hl 0 rfl) ?_
    refine va_gets hx hb hF.2.2.2.1 hS hown (hts _ (List.mem_of_getElem? (i := 1) rfl)) (fun _ h => h) dX7_secondNeed_5 ?_
    refine va_tlen hx hb hF.2.2.2.2.1 hS (v := (10 : Int32)) rfl dX7_secondNeed_8 ?_
    refine lv_icmp_ge (tgt := 20) hx hb dX7_secondNeed_9 (by decide) (fun hc => ?_) (fun hc => ?_)
    · replace hf := (if_pos hc).symm.trans hf
      refine lv_iconst (v := (0 : Int32)) hx hb dX7_secondNeed_20 (by decide) ?_
      exact re_i hx hb hr hlk dX7_secondNeed_21 hf
    · replace hf := (if_neg hc).symm.trans hf
      refine va_gets hx hb hF.2.2.2.1 hS hown (hts _ (List.mem_of_getElem? (i := 1) rfl)) (fun _ h => h) dX7_secondNeed_12 ?_
      refine lv_iload_n hx hb dX7_secondNeed_15 rfl (lv_at hl 0 rfl) ?_
      obtain ⟨hg, hf⟩ := og hf
      refine va_ti hx hb hF.2.2.2.2.1 hS (gI_in hg) (v := .int (tS (p0).toNatClampNeg)) rfl dX7_secondNeed_16 ?_
      refine lv_goto (tgt := 21) hx hb dX7_secondNeed_17 (by decide) ?_
      exact re_i hx hb hr hlk dX7_secondNeed_21 hf
def fX7_spelling  (p0 : Int32) : Option (Nat) :=
  (if p0 = (0 : Int32) then (some 0) else (if p0 = (1 : Int32) then (some 1) else (if p0 = (2 : Int32) then (some 2) else (if p0 = (3 : Int32) then (some 3) else (if p0 = (4 : Int32) then (some 4) else (if p0 = (5 : Int32) then (some 5) else (if p0 = (6 : Int32) then (some 6) else (if p0 = (7 : Int32) then (some 7) else (if p0 = (8 : Int32) then (some 8) else (some 9))))))))))
set_option maxRecDepth 100000 in
set_option maxHeartbeats 4000000 in
theorem ctX7_spelling (l : Launch) (zF zS : Nat) (adK adV : Nat → Nat) (A : Nat → Prop) (p0 : Int32) (rv : Nat) (hf : fX7_spelling p0 = some rv) : Met l yX7_spelling wsX7_spelling (rmN 0 0) (PJ zF zS adK adV A [.int p0]) (va_Sr (fun k => k = rv) (fun k => .ref (adK k))) 0 0 (fun _ => False) := by
  refine mk_met cX7_spelling 1 (some (.object "java/lang/String")) (by decide) rfl (Nat.le_of_ble_eq_true rfl) ?_
  intro p e s m args below meth c ls hx hb hr hlk hml hown hts hF hl
  have hS : va_S A s.heap s.heap [] := va_S.rf
  replace hl : lv_has ls 1 [(0, .int p0)] := hl
  replace hown : s.vm.findClass RX7 = some m.cls := hown
  unfold fX7_spelling at hf
  refine lv_iload_n hx hb dX7_spelling_0 rfl (lv_at hl 0 rfl) ?_
  by_cases hc0 : p0 = (0 : Int32)
  · replace hf := (if_pos hc0).symm.trans hf
    refine lv_tableIn (tgt := 52) hx hb dX7_spelling_1 (by rw [hc0]; decide) (by rw [hc0]; decide) (by rw [hc0]; rfl) (by decide) ?_
    refine va_ldcS (index := 32) hx hb hown (hF.2.2.2.2.2.1 0 (by decide)) dX7_spelling_52 ?_
    exact re_k hx hb hr hlk dX7_spelling_54 hf
  replace hf := (if_neg hc0).symm.trans hf
  by_cases hc1 : p0 = (1 : Int32)
  · replace hf := (if_pos hc1).symm.trans hf
    refine lv_tableIn (tgt := 55) hx hb dX7_spelling_1 (by rw [hc1]; decide) (by rw [hc1]; decide) (by rw [hc1]; rfl) (by decide) ?_
    refine va_ldcS (index := 34) hx hb hown (hF.2.2.2.2.2.1 1 (by decide)) dX7_spelling_55 ?_
    exact re_k hx hb hr hlk dX7_spelling_57 hf
  replace hf := (if_neg hc1).symm.trans hf
  by_cases hc2 : p0 = (2 : Int32)
  · replace hf := (if_pos hc2).symm.trans hf
    refine lv_tableIn (tgt := 58) hx hb dX7_spelling_1 (by rw [hc2]; decide) (by rw [hc2]; decide) (by rw [hc2]; rfl) (by decide) ?_
    refine va_ldcS (index := 36) hx hb hown (hF.2.2.2.2.2.1 2 (by decide)) dX7_spelling_58 ?_
    exact re_k hx hb hr hlk dX7_spelling_60 hf
  replace hf := (if_neg hc2).symm.trans hf
  by_cases hc3 : p0 = (3 : Int32)
  · replace hf := (if_pos hc3).symm.trans hf
    refine lv_tableIn (tgt := 61) hx hb dX7_spelling_1 (by rw [hc3]; decide) (by rw [hc3]; decide) (by rw [hc3]; rfl) (by decide) ?_
    refine va_ldcS (index := 38) hx hb hown (hF.2.2.2.2.2.1 3 (by decide)) dX7_spelling_61 ?_
    exact re_k hx hb hr hlk dX7_spelling_63 hf
  replace hf := (if_neg hc3).symm.trans hf
  by_cases hc4 : p0 = (4 : Int32)
  · replace hf := (if_pos hc4).symm.trans hf
    refine lv_tableIn (tgt := 64) hx hb dX7_spelling_1 (by rw [hc4]; decide) (by rw [hc4]; decide) (by rw [hc4]; rfl) (by decide) ?_
    refine va_ldcS (index := 40) hx hb hown (hF.2.2.2.2.2.1 4 (by decide)) dX7_spelling_64 ?_
    exact re_k hx hb hr hlk dX7_spelling_66 hf
  replace hf := (if_neg hc4).symm.trans hf
  by_cases hc5 : p0 = (5 : Int32)
  · replace hf := (if_pos hc5).symm.trans hf
    refine lv_tableIn (tgt := 67) hx hb dX7_spelling_1 (by rw [hc5]; decide) (by rw [hc5]; decide) (by rw [hc5]; rfl) (by decide) ?_
    refine va_ldcS (index := 42) hx hb hown (hF.2.2.2.2.2.1 5 (by decide)) dX7_spelling_67 ?_
    exact re_k hx hb hr hlk dX7_spelling_69 hf
  replace hf := (if_neg hc5).symm.trans hf
  by_cases hc6 : p0 = (6 : Int32)
  · replace hf := (if_pos hc6).symm.trans hf
    refine lv_tableIn (tgt := 70) hx hb dX7_spelling_1 (by rw [hc6]; decide) (by rw [hc6]; decide) (by rw [hc6]; rfl) (by decide) ?_
    refine va_ldcS (index := 44) hx hb hown (hF.2.2.2.2.2.1 6 (by decide)) dX7_spelling_70 ?_
    exact re_k hx hb hr hlk dX7_spelling_72 hf
  replace hf := (if_neg hc6).symm.trans hf
  by_cases hc7 : p0 = (7 : Int32)
  · replace hf := (if_pos hc7).symm.trans hf
    refine lv_tableIn (tgt := 73) hx hb dX7_spelling_1 (by rw [hc7]; decide) (by rw [hc7]; decide) (by rw [hc7]; rfl) (by decide) ?_
    refine va_ldcS (index := 46) hx hb hown (hF.2.2.2.2.2.1 7 (by decide)) dX7_spelling_73 ?_
    exact re_k hx hb hr hlk dX7_spelling_75 hf
  replace hf := (if_neg hc7).symm.trans hf
  by_cases hc8 : p0 = (8 : Int32)
  · replace hf := (if_pos hc8).symm.trans hf
    refine lv_tableIn (tgt := 76) hx hb dX7_spelling_1 (by rw [hc8]; decide) (by rw [hc8]; decide) (by rw [hc8]; rfl) (by decide) ?_
    refine va_ldcS (index := 48) hx hb hown (hF.2.2.2.2.2.1 8 (by decide)) dX7_spelling_76 ?_
    exact re_k hx hb hr hlk dX7_spelling_78 hf
  replace hf := (if_neg hc8).symm.trans hf
  refine lv_tableOut (tgt := 79) hx hb dX7_spelling_1 (by have e0 := ne_ti (z := 0) hc0 (by decide); have e1 := ne_ti (z := 1) hc1 (by decide); have e2 := ne_ti (z := 2) hc2 (by decide); have e3 := ne_ti (z := 3) hc3 (by decide); have e4 := ne_ti (z := 4) hc4 (by decide); have e5 := ne_ti (z := 5) hc5 (by decide); have e6 := ne_ti (z := 6) hc6 (by decide); have e7 := ne_ti (z := 7) hc7 (by decide); have e8 := ne_ti (z := 8) hc8 (by decide); omega) (by decide) ?_
  refine va_ldcS (index := 50) hx hb hown (hF.2.2.2.2.2.1 9 (by decide)) dX7_spelling_79 ?_
  exact re_k hx hb hr hlk dX7_spelling_81 hf
theorem fX7_spelling_lt {p : Int32} {k : Nat} (h : fX7_spelling p = some k) : k < 10 := by
  unfold fX7_spelling at h
  repeat' split at h
  all_goals (cases h; decide)
def fX5_isWord_L15 (cTsz : Int32) (cByt : Nat → Int32) (p0 : Int32) (p2 : Nat) (kk : (Int32) → Option (Int32)) (v4_1 : Int32) : Option (Int32) :=
  (if (slen p2) ≤ v4_1 then (some (1 : Int32)) else ((fX5_byteAt cTsz cByt (p0 + v4_1)).bind fun r_2 => (if gI v4_1 (lenS.getD p2 0) then (if r_2 = (schr p2 v4_1) then (kk (v4_1 + (1 : Int32))) else (some (0 : Int32))) else none)))
def fX5_isWord (cTsz : Int32) (cByt : Nat → Int32) (p0 : Int32) (p1 : Int32) (p2 : Nat) : Option (Int32) :=
  (if (p1 - p0) = (slen p2) then (lp (fX5_isWord_L15 cTsz cByt p0 p2) FU (0 : Int32)) else (some (0 : Int32)))
set_option maxRecDepth 100000 in
set_option maxHeartbeats 4000000 in
theorem ctX5_isWord (l : Launch) (D : va_G) (cI cB cZ : ClassId) (ad : Nat → Nat) (zF zS : Nat) (adK adV : Nat → Nat) (A : Nat → Prop) (cBad cFul cCnt cOpc cStp cTsz cRcn cPlc cFlt cVil cLsz : Int32) (cRts cLns cOpn cGps cTrl cWgt cRch cByt cWds cFst cSnd cSgn : Nat → Int32) (p0 : Int32) (p1 : Int32) (p2 : Nat) (rv : Int32) (hf : fX5_isWord cTsz cByt p0 p1 p2 = some rv) (hk : p2 < 10) : Met l yX5_isWord wsX5_isWord (rmN 4 85) (PF D (tyL cI cB cZ) (wC cI cB cZ ad cBad cFul cCnt cOpc cStp cTsz cRcn cPlc cFlt cVil cLsz cRts cLns cOpn cGps cTrl cWgt cRch cByt cWds cFst cSnd cSgn) zF zS adK adV A [.ref (ad 11), .int p0, .int p1, .ref (adK p2)]) (SI rv) 0 0 (fun _ => False) := by
  refine mk_met cX5_isWord 5 (some .boolean) (by decide) rfl (Nat.le_of_ble_eq_true rfl) ?_
  intro p e s m args below meth c ls hx hb hr hlk hml hown hts hPK hl
  obtain ⟨hP, hK, hF⟩ := hPK
  have hS : va_S A s.heap s.heap [] := va_S.rf
  replace hl : lv_has ls 5 [(0, .ref (ad 11)), (1, .int p0), (2, .int p1), (3, .ref (adK p2))] := hl
  replace hown : s.vm.findClass RX5 = some m.cls := hown
  unfold fX5_isWord at hf
  refine lv_iload_n hx hb dX5_isWord_0 rfl (lv_at hl 2 rfl) ?_
  refine lv_iload_n hx hb dX5_isWord_1 rfl (lv_at hl 1 rfl) ?_
  refine lv_isub hx hb dX5_isWord_2 ?_
  refine lv_aload_n hx hb dX5_isWord_3 rfl (lv_at hl 3 rfl) ?_
  refine jcV hk (As := []) (rest := [.int (p1 - p0)]) ⟨hx, hb, hml, hown, hts⟩ (ctJ_length l zF zS adK adV A p2 hk) (cwV 0 hts gX5_isWord_J0_length_8abf5 rfl rfl rfl (by decide +kernel) ⟨Nat.le_of_ble_eq_true rfl, Nat.le_of_ble_eq_true rfl⟩) hF hS rfl hl.1 rfl (Nat.le_of_ble_eq_true rfl) dX5_isWord_4 ⟨Nat.zero_le _, Nat.zero_le _⟩ ?_
  refine lv_icmp_eq (tgt := 12) hx hb dX5_isWord_7 (by decide) (fun hc => ?_) (fun hc => ?_)
  · replace hf := (if_pos hc).symm.trans hf
    refine lv_iconst (v := (0 : Int32)) hx hb dX5_isWord_12 (by decide) ?_
    refine lv_istore (lv' := [(4, .int (0 : Int32)), (0, .ref (ad 11)), (1, .int p0), (2, .int p1), (3, .ref (adK p2))]) hx hb dX5_isWord_13 hl (by decide) rfl (fun ls hl => ?_)
    have hL15 : ∀ (n : Nat) (v4_1 : Int32) (ls : Array Slot), lp (fX5_isWord_L15 cTsz cByt p0 p2) n v4_1 = some rv → lv_has ls 5 [(0, .ref (ad 11)), (1, .int p0), (2, .int p1), (3, .ref (adK p2)), (4, .int v4_1)] → W p l e (rmN 4 85) s m args below meth c s.heap [] 0 0 (MQ below (SI rv) args s 0 0 (fun _ => False)) (F0 m 15 ls []) := by
      intro n
      induction n with
      | zero => intro v4_1 ls hf; exact (lp_0 hf).elim
      | succ n ih =>
        intro v4_1 ls hf hl
        replace hf := lp_s hf
        dsimp only [fX5_isWord_L15] at hf
        refine lv_iload hx hb dX5_isWord_15 (lv_at hl 4 rfl) ?_
        refine lv_aload_n hx hb dX5_isWord_17 rfl (lv_at hl 3 rfl) ?_
        refine jcV hk (As := []) (rest := [.int v4_1]) ⟨hx, hb, hml, hown, hts⟩ (ctJ_length l zF zS adK adV A p2 hk) (cwV 0 hts gX5_isWord_J0_length_8abf5 rfl rfl rfl (by decide +kernel) ⟨Nat.le_of_ble_eq_true rfl, Nat.le_of_ble_eq_true rfl⟩) hF hS rfl hl.1 rfl (Nat.le_of_ble_eq_true rfl) dX5_isWord_18 ⟨Nat.zero_le _, Nat.zero_le _⟩ ?_
        refine lv_icmp_ge (tgt := 49) hx hb dX5_isWord_21 (by decide) (fun hc => ?_) (fun hc => ?_)
        · replace hf := (if_pos hc).symm.trans hf
          refine lv_iconst (v := (1 : Int32)) hx hb dX5_isWord_49 (by decide) ?_
          exact re_z hx hb hr hlk (by decide) dX5_isWord_50 hf
        · replace hf := (if_neg hc).symm.trans hf
          refine lv_aload_n hx hb dX5_isWord_24 rfl (lv_at hl 0 rfl) ?_
          refine lv_iload_n hx hb dX5_isWord_25 rfl (lv_at hl 1 rfl) ?_
          refine lv_iload hx hb dX5_isWord_26 (lv_at hl 4 rfl) ?_
          refine lv_iadd hx hb dX5_isWord_28 ?_
          obtain ⟨r_2, hq, hf⟩ := ob hf
          try dsimp only at hf
          refine rcV 11 5 (As := [.int (p0 + v4_1)]) (rest := []) ⟨hx, hb, hml, hown, hts⟩ (ctX5_byteAt l D cI cB cZ ad cBad cFul cCnt cOpc cStp cTsz cRcn cPlc cFlt cVil cLsz cRts cLns cOpn cGps cTrl cWgt cRch cByt cWds cFst cSnd cSgn (p0 + v4_1) r_2 hq) (cwV 1 hts gX5_isWord_X5_byteAt rfl rfl rfl (by decide +kernel) ⟨Nat.le_of_ble_eq_true rfl, Nat.le_of_ble_eq_true rfl⟩) hK hP rfl rfl rfl hl.1 rfl (Nat.le_of_ble_eq_true rfl) dX5_isWord_29 ⟨Nat.zero_le _, Nat.zero_le _⟩ ?_
          refine lv_aload_n hx hb dX5_isWord_32 rfl (lv_at hl 3 rfl) ?_
          refine lv_iload hx hb dX5_isWord_33 (lv_at hl 4 rfl) ?_
          obtain ⟨hg, hf⟩ := og hf
          refine jcV hk (As := [.int v4_1]) (rest := [.int r_2]) ⟨hx, hb, hml, hown, hts⟩ (ctJ_charAt l zF zS adK adV A p2 hk v4_1 hg) (cwV 1 hts gX5_isWord_J0_charAt_5068e rfl rfl rfl (by decide +kernel) ⟨Nat.le_of_ble_eq_true rfl, Nat.le_of_ble_eq_true rfl⟩) hF hS rfl hl.1 rfl (Nat.le_of_ble_eq_true rfl) dX5_isWord_35 ⟨Nat.zero_le _, Nat.zero_le _⟩ ?_
          refine lv_icmp_eq (tgt := 43) hx hb dX5_isWord_38 (by decide) (fun hc => ?_) (fun hc => ?_)
          · replace hf := (if_pos hc).symm.trans hf
            refine lv_iinc (v := (v4_1 + (1 : Int32))) (lv' := [(4, .int (v4_1 + (1 : Int32))), (0, .ref (ad 11)), (1, .int p0), (2, .int p1), (3, .ref (adK p2))]) hx hb dX5_isWord_43 hl (k := 4) rfl rfl (by decide) rfl (fun ls hl => ?_)
            refine lv_goto (tgt := 15) hx hb dX5_isWord_46 (by decide) ?_
            exact ih _ _ hf (lv_sub hl [1, 2, 3, 4, 0] rfl)
          · replace hf := (if_neg hc).symm.trans hf
            refine lv_iconst (v := (0 : Int32)) hx hb dX5_isWord_41 (by decide) ?_
            exact re_z hx hb hr hlk (by decide) dX5_isWord_42 hf
    exact hL15 FU _ ls hf (lv_sub hl [1, 2, 3, 4, 0] rfl)
  · replace hf := (if_neg hc).symm.trans hf
    refine lv_iconst (v := (0 : Int32)) hx hb dX5_isWord_10 (by decide) ?_
    exact re_z hx hb hr hlk (by decide) dX5_isWord_11 hf
def fX7_find_L2 (cTsz : Int32) (cByt : Nat → Int32) (p1 : Int32) (p2 : Int32) (kk : (Int32) → Option (Int32)) (v3_1 : Int32) : Option (Int32) :=
  (if (10 : Int32) ≤ v3_1 then (some (-1 : Int32)) else ((fX7_spelling v3_1).bind fun r_2 => ((fX5_isWord cTsz cByt p1 p2 r_2).bind fun r_3 => (if r_3 = 0 then (kk (v3_1 + (1 : Int32))) else (some v3_1)))))
def fX7_find (cTsz : Int32) (cByt : Nat → Int32) (p1 : Int32) (p2 : Int32) : Option (Int32) :=
  (lp (fX7_find_L2 cTsz cByt p1 p2) FU (0 : Int32))
set_option maxRecDepth 100000 in
set_option maxHeartbeats 4000000 in
theorem ctX7_find (l : Launch) (D : va_G) (cI cB cZ : ClassId) (ad : Nat → Nat) (zF zS : Nat) (adK adV : Nat → Nat) (A : Nat → Prop) (cBad cFul cCnt cOpc cStp cTsz cRcn cPlc cFlt cVil cLsz : Int32) (cRts cLns cOpn cGps cTrl cWgt cRch cByt cWds cFst cSnd cSgn : Nat → Int32) (p1 : Int32) (p2 : Int32) (rv : Int32) (hf : fX7_find cTsz cByt p1 p2 = some rv) : Met l yX7_find wsX7_find (rmN 5 109) (PF D (tyL cI cB cZ) (wC cI cB cZ ad cBad cFul cCnt cOpc cStp cTsz cRcn cPlc cFlt cVil cLsz cRts cLns cOpn cGps cTrl cWgt cRch cByt cWds cFst cSnd cSgn) zF zS adK adV A [.ref (ad 11), .int p1, .int p2]) (SI rv) 0 0 (fun _ => False) := by
  refine mk_met cX7_find 4 (some .int) (by decide) rfl (Nat.le_of_ble_eq_true rfl) ?_
  intro p e s m args below meth c ls hx hb hr hlk hml hown hts hPK hl
  obtain ⟨hP, hK, hF⟩ := hPK
  have hS : va_S A s.heap s.heap [] := va_S.rf
  replace hl : lv_has ls 4 [(0, .ref (ad 11)), (1, .int p1), (2, .int p2)] := hl
  replace hown : s.vm.findClass RX7 = some m.cls := hown
  unfold fX7_find at hf
  refine lv_iconst (v := (0 : Int32)) hx hb dX7_find_0 (by decide) ?_
  refine lv_istore_n (lv' := [(3, .int (0 : Int32)), (0, .ref (ad 11)), (1, .int p1), (2, .int p2)]) hx hb dX7_find_1 rfl hl (by decide) rfl (fun ls hl => ?_)
  have hL2 : ∀ (n : Nat) (v3_1 : Int32) (ls : Array Slot), lp (fX7_find_L2 cTsz cByt p1 p2) n v3_1 = some rv → lv_has ls 4 [(0, .ref (ad 11)), (1, .int p1), (2, .int p2), (3, .int v3_1)] → W p l e (rmN 5 109) s m args below meth c s.heap [] 0 0 (MQ below (SI rv) args s 0 0 (fun _ => False)) (F0 m 2 ls []) := by
    intro n
    induction n with
    | zero => intro v3_1 ls hf; exact (lp_0 hf).elim
    | succ n ih =>
      intro v3_1 ls hf hl
      replace hf := lp_s hf
      dsimp only [fX7_find_L2] at hf
      refine lv_iload_n hx hb dX7_find_2 rfl (lv_at hl 3 rfl) ?_
      refine lv_bipush (v := (10 : Int32)) hx hb dX7_find_3 (by decide) ?_
      refine lv_icmp_ge (tgt := 29) hx hb dX7_find_5 (by decide) (fun hc => ?_) (fun hc => ?_)
      · replace hf := (if_pos hc).symm.trans hf
        refine lv_iconst (v := (-1 : Int32)) hx hb dX7_find_29 (by decide) ?_
        exact re_i hx hb hr hlk dX7_find_30 hf
      · replace hf := (if_neg hc).symm.trans hf
        refine lv_aload_n hx hb dX7_find_8 rfl (lv_at hl 0 rfl) ?_
        refine lv_iload_n hx hb dX7_find_9 rfl (lv_at hl 1 rfl) ?_
        refine lv_iload_n hx hb dX7_find_10 rfl (lv_at hl 2 rfl) ?_
        refine lv_iload_n hx hb dX7_find_11 rfl (lv_at hl 3 rfl) ?_
        obtain ⟨r_2, hq, hf⟩ := ob hf
        try dsimp only at hf
        refine jcSk (fun k => .ref (adK k)) (As := [.int v3_1]) (rest := [.int p2, .int p1, .ref (ad 11)]) ⟨hx, hb, hml, hown, hts⟩ (ctX7_spelling l zF zS adK adV A v3_1 r_2 hq) (va_cwS 1 hts gX7_find_X7_spelling rfl rfl rfl (by decide +kernel) ⟨Nat.le_of_ble_eq_true rfl, Nat.le_of_ble_eq_true rfl⟩) hF hS rfl hl.1 rfl (Nat.le_of_ble_eq_true rfl) dX7_find_12 ⟨Nat.zero_le _, Nat.zero_le _⟩ ?_
        have hk := fX7_spelling_lt hq
        obtain ⟨r_3, hq, hf⟩ := ob hf
        try dsimp only at hf
        refine fcV 11 5 (As := [.int p1, .int p2, .ref (adK r_2)]) (rest := []) ⟨hx, hb, hml, hown, hts⟩ (ctX5_isWord l D cI cB cZ ad zF zS adK adV A cBad cFul cCnt cOpc cStp cTsz cRcn cPlc cFlt cVil cLsz cRts cLns cOpn cGps cTrl cWgt cRch cByt cWds cFst cSnd cSgn p1 p2 r_2 r_3 hq hk) (cwV 3 hts gX7_find_X5_isWord rfl rfl rfl (by decide +kernel) ⟨Nat.le_of_ble_eq_true rfl, Nat.le_of_ble_eq_true rfl⟩) hK hP hF hS rfl rfl rfl hl.1 rfl (Nat.le_of_ble_eq_true rfl) dX7_find_15 ⟨Nat.zero_le _, Nat.zero_le _⟩ ?_
        refine lv_if_eq (tgt := 23) hx hb dX7_find_18 (by decide) (fun hc => ?_) (fun hc => ?_)
        · replace hf := (if_pos hc).symm.trans hf
          refine lv_iinc (v := (v3_1 + (1 : Int32))) (lv' := [(3, .int (v3_1 + (1 : Int32))), (0, .ref (ad 11)), (1, .int p1), (2, .int p2)]) hx hb dX7_find_23 hl (k := 3) rfl rfl (by decide) rfl (fun ls hl => ?_)
          refine lv_goto (tgt := 2) hx hb dX7_find_26 (by decide) ?_
          exact ih _ _ hf (lv_sub hl [1, 2, 3, 0] rfl)
        · replace hf := (if_neg hc).symm.trans hf
          refine lv_iload_n hx hb dX7_find_21 rfl (lv_at hl 3 rfl) ?_
          exact re_i hx hb hr hlk dX7_find_22 hf
  exact hL2 FU _ ls hf (lv_sub hl [1, 2, 3, 0] rfl)
def fX3_readWord_L9 (cTsz : Int32) (cByt : Nat → Int32) (kk : (Int32) → Option (Int32)) (wcPlc_2 : Int32) : Option (Int32) :=
  (if cTsz ≤ wcPlc_2 then (some wcPlc_2) else ((fX5_isLetter cTsz cByt wcPlc_2).bind fun r_3 => (if r_3 = 0 then (some wcPlc_2) else (kk (wcPlc_2 + (1 : Int32))))))
def fX3_readWord_J81 (qcPlc_1 : Int32) (owcPlc_2 : Int32) (r_4 : Int32) : Option (Int32 × Int32 × Int32) :=
  (some (r_4, owcPlc_2, qcPlc_1))
def fX3_readWord (cTsz : Int32) (cPlc : Int32) (cFlt : Int32) (cVil : Int32) (cByt : Nat → Int32)  : Option (Int32 × Int32 × Int32) :=
  ((fX3_skipBlanks cTsz cPlc cByt).bind fun qcPlc_1 => ((lp (fX3_readWord_L9 cTsz cByt) FU qcPlc_1).bind fun owcPlc_2 => ((fX7_find cTsz cByt qcPlc_1 owcPlc_2).bind fun r_4 => (if r_4 = (-1 : Int32) then (fX3_readWord_J81 qcPlc_1 owcPlc_2 r_4) else (if r_4 = 0 then (if cVil < (60 : Int32) then (some (r_4, owcPlc_2, cFlt)) else (fX3_readWord_J81 qcPlc_1 owcPlc_2 r_4)) else (some (r_4, owcPlc_2, cFlt)))))))
set_option maxRecDepth 100000 in
set_option maxHeartbeats 4000000 in
theorem ctX3_readWord (l : Launch) (D : va_G) (cI cB cZ : ClassId) (ad : Nat → Nat) (zF zS : Nat) (adK adV : Nat → Nat) (A : Nat → Prop) (hAD : AD A ad 20) (cBad cFul cCnt cOpc cStp cTsz cRcn cPlc cFlt cVil cLsz : Int32) (cRts cLns cOpn cGps cTrl cWgt cRch cByt cWds cFst cSnd cSgn : Nat → Int32)  (rv : Int32) (zcPlc : Int32) (zcFlt : Int32) (hf : fX3_readWord cTsz cPlc cFlt cVil cByt = some (rv, zcPlc, zcFlt)) : Met l yX3_readWord wsX3_readWord (rmN 6 132) (PF D (tyL cI cB cZ) (wC cI cB cZ ad cBad cFul cCnt cOpc cStp cTsz cRcn cPlc cFlt cVil cLsz cRts cLns cOpn cGps cTrl cWgt cRch cByt cWds cFst cSnd cSgn) zF zS adK adV A [.ref (ad 13)]) (QI D (wC cI cB cZ ad cBad cFul cCnt cOpc cStp cTsz cRcn zcPlc zcFlt cVil cLsz cRts cLns cOpn cGps cTrl cWgt cRch cByt cWds cFst cSnd cSgn) A rv) 0 0 A := by
  refine mk_met cX3_readWord 3 (some .int) (by decide) rfl (Nat.le_of_ble_eq_true rfl) ?_
  intro p e s m args below meth c ls hx hb hr hlk hml hown hts hPK hl
  obtain ⟨hP, hK, hF⟩ := hPK
  replace hl : lv_has ls 3 [(0, .ref (ad 13))] := hl
  replace hown : s.vm.findClass RX3 = some m.cls := hown
  have hiX3 : ∀ w ∈ wsX30, w ∈ wsX3_readWord := fun w h => List.mem_cons_of_mem _ (List.mem_append_left _ (List.mem_append_right _ h))
  have hiX5 : ∀ w ∈ wsX50, w ∈ wsX3_readWord := fun w h => List.mem_cons_of_mem _ (List.mem_append_right _ h)
  have hS : va_S A s.heap s.heap [] := va_S.rf
  unfold fX3_readWord at hf
  refine lv_aload_n hx hb dX3_readWord_0 rfl (lv_at hl 0 rfl) ?_
  obtain ⟨qcPlc_1, hq, hf⟩ := ob hf
  try dsimp only at hf
  refine mcVv 13 3 (As := []) (rest := []) ⟨hx, hb, hml, hown, hts⟩ (ctX3_skipBlanks l D cI cB cZ ad A hAD cBad cFul cCnt cOpc cStp cTsz cRcn cPlc cFlt cVil cLsz cRts cLns cOpn cGps cTrl cWgt cRch cByt cWds cFst cSnd cSgn  qcPlc_1 hq) (cwV 0 hts gX3_readWord_X3_skipBlanks rfl rfl rfl (by decide +kernel) ⟨Nat.le_of_ble_eq_true rfl, Nat.le_of_ble_eq_true rfl⟩) hK hP hS rfl rfl rfl hl.1 rfl (Nat.le_of_ble_eq_true rfl) dX3_readWord_1 ⟨Nat.zero_le _, Nat.zero_le _⟩ (fun H locs hP hS => ?_)
  refine lv_aload_n hx hb dX3_readWord_4 rfl (lv_at hl 0 rfl) ?_
  refine va_get (ci := 3) (v := .int qcPlc_1) (C := RX3) (T := TX3) (N := 8) hx hb hts hiX3 hown hK hP 13 rfl rfl 5 (by decide) (hts _ (List.mem_of_getElem? (i := 1) rfl)) (fun _ h9 => h9) rfl dX3_readWord_5 ?_
  refine lv_istore_n (lv' := [(1, .int qcPlc_1), (0, .ref (ad 13))]) hx hb dX3_readWord_8 rfl hl (by decide) rfl (fun ls hl => ?_)
  have hL9 : ∀ (n : Nat) (wcPlc_2 : Int32) (owcPlc_2 : Int32) (H : Heap) (locs : List Loc) (ls : Array Slot), lp (fX3_readWord_L9 cTsz cByt) n wcPlc_2 = some owcPlc_2 → va_P D vwCl (wC cI cB cZ ad cBad cFul cCnt cOpc cStp cTsz cRcn wcPlc_2 cFlt cVil cLsz cRts cLns cOpn cGps cTrl cWgt cRch cByt cWds cFst cSnd cSgn) H → va_S A s.heap H locs → lv_has ls 3 [(0, .ref (ad 13)), (1, .int qcPlc_1)] → (∀ (H : Heap) (locs : List Loc) (ls : Array Slot), va_P D vwCl (wC cI cB cZ ad cBad cFul cCnt cOpc cStp cTsz cRcn owcPlc_2 cFlt cVil cLsz cRts cLns cOpn cGps cTrl cWgt cRch cByt cWds cFst cSnd cSgn) H → va_S A s.heap H locs → lv_has ls 3 [(0, .ref (ad 13)), (1, .int qcPlc_1)] → W p l e (rmN 6 132) s m args below meth c H locs 0 0 (MQ below (QI D (wC cI cB cZ ad cBad cFul cCnt cOpc cStp cTsz cRcn zcPlc zcFlt cVil cLsz cRts cLns cOpn cGps cTrl cWgt cRch cByt cWds cFst cSnd cSgn) A rv) args s 0 0 A) (F0 m 50 ls [])) → W p l e (rmN 6 132) s m args below meth c H locs 0 0 (MQ below (QI D (wC cI cB cZ ad cBad cFul cCnt cOpc cStp cTsz cRcn zcPlc zcFlt cVil cLsz cRts cLns cOpn cGps cTrl cWgt cRch cByt cWds cFst cSnd cSgn) A rv) args s 0 0 A) (F0 m 9 ls []) := by
    intro n
    induction n with
    | zero => intro wcPlc_2 owcPlc_2 H locs ls hf; exact (lp_0 hf).elim
    | succ n ih =>
      intro wcPlc_2 owcPlc_2 H locs ls hf hP hS hl hE
      replace hf := lp_s hf
      dsimp only [fX3_readWord_L9] at hf
      refine lv_aload_n hx hb dX3_readWord_9 rfl (lv_at hl 0 rfl) ?_
      refine va_get (ci := 3) (v := .int wcPlc_2) (C := RX3) (T := TX3) (N := 8) hx hb hts hiX3 hown hK hP 13 rfl rfl 5 (by decide) (hts _ (List.mem_of_getElem? (i := 1) rfl)) (fun _ h9 => h9) rfl dX3_readWord_10 ?_
      refine lv_aload_n hx hb dX3_readWord_13 rfl (lv_at hl 0 rfl) ?_
      refine va_get (ci := 3) (v := .ref (ad 11)) (C := RX3) (T := TX3) (N := 8) hx hb hts hiX3 hown hK hP 13 rfl rfl 4 (by decide) (hts _ (List.mem_of_getElem? (i := 2) rfl)) (fun _ h9 => h9) rfl dX3_readWord_14 ?_
      refine va_get (ci := 5) (v := .int cTsz) (C := RX5) (T := TX5) (N := 2) hx hb hts hiX5 hown hK hP 11 rfl rfl 1 (by decide) (hts _ (List.mem_of_getElem? (i := 3) rfl)) (fun _ h9 => h9) rfl dX3_readWord_17 ?_
      refine lv_icmp_ge (tgt := 50) hx hb dX3_readWord_20 (by decide) (fun hc => ?_) (fun hc => ?_)
      · replace hf := (if_pos hc).symm.trans hf
        cases hf
        exact hE _ _ _ hP hS (lv_sub hl [0, 1] rfl)
      · replace hf := (if_neg hc).symm.trans hf
        refine lv_aload_n hx hb dX3_readWord_23 rfl (lv_at hl 0 rfl) ?_
        refine va_get (ci := 3) (v := .ref (ad 11)) (C := RX3) (T := TX3) (N := 8) hx hb hts hiX3 hown hK hP 13 rfl rfl 4 (by decide) (hts _ (List.mem_of_getElem? (i := 2) rfl)) (fun _ h9 => h9) rfl dX3_readWord_24 ?_
        refine lv_aload_n hx hb dX3_readWord_27 rfl (lv_at hl 0 rfl) ?_
        refine va_get (ci := 3) (v := .int wcPlc_2) (C := RX3) (T := TX3) (N := 8) hx hb hts hiX3 hown hK hP 13 rfl rfl 5 (by decide) (hts _ (List.mem_of_getElem? (i := 1) rfl)) (fun _ h9 => h9) rfl dX3_readWord_28 ?_
        obtain ⟨r_3, hq, hf⟩ := ob hf
        try dsimp only at hf
        refine rcV 11 5 (As := [.int wcPlc_2]) (rest := []) ⟨hx, hb, hml, hown, hts⟩ (ctX5_isLetter l D cI cB cZ ad cBad cFul cCnt cOpc cStp cTsz cRcn wcPlc_2 cFlt cVil cLsz cRts cLns cOpn cGps cTrl cWgt cRch cByt cWds cFst cSnd cSgn wcPlc_2 r_3 hq) (cwV 1 hts gX3_readWord_X5_isLetter rfl rfl rfl (by decide +kernel) ⟨Nat.le_of_ble_eq_true rfl, Nat.le_of_ble_eq_true rfl⟩) hK hP rfl rfl rfl hl.1 rfl (Nat.le_of_ble_eq_true rfl) dX3_readWord_31 ⟨Nat.zero_le _, Nat.zero_le _⟩ ?_
        refine lv_if_eq (tgt := 50) hx hb dX3_readWord_34 (by decide) (fun hc => ?_) (fun hc => ?_)
        · replace hf := (if_pos hc).symm.trans hf
          cases hf
          exact hE _ _ _ hP hS (lv_sub hl [0, 1] rfl)
        · replace hf := (if_neg hc).symm.trans hf
          refine lv_aload_n hx hb dX3_readWord_37 rfl (lv_at hl 0 rfl) ?_
          refine lv_dup hx hb dX3_readWord_38 rfl ?_
          refine va_get (ci := 3) (v := .int wcPlc_2) (C := RX3) (T := TX3) (N := 8) hx hb hts hiX3 hown hK hP 13 rfl rfl 5 (by decide) (hts _ (List.mem_of_getElem? (i := 1) rfl)) (fun _ h9 => h9) rfl dX3_readWord_39 ?_
          refine lv_iconst (v := (1 : Int32)) hx hb dX3_readWord_42 (by decide) ?_
          refine lv_iadd hx hb dX3_readWord_43 ?_
          refine va_put (ci := 3) (v := .int (wcPlc_2 + (1 : Int32))) (ty := .int) (C := RX3) (T := TX3) (N := 8) hx hb hts hiX3 tyX3 tyX3_ok nmX3 hown hK hP (wC_D hAD) hS 13 rfl rfl 5 (by decide) (hts _ (List.mem_of_getElem? (i := 1) rfl)) (fun _ h9 => h9) rfl (tyX3_ok 5 (by decide)) rfl rfl (Nat.le_of_ble_eq_true rfl) dX3_readWord_44 (fun H locs hP _ hS => ?_)
          have hP : va_P D vwCl (wC cI cB cZ ad cBad cFul cCnt cOpc cStp cTsz cRcn (wcPlc_2 + (1 : Int32)) cFlt cVil cLsz cRts cLns cOpn cGps cTrl cWgt cRch cByt cWds cFst cSnd cSgn) H := hP
          refine lv_goto (tgt := 9) hx hb dX3_readWord_47 (by decide) ?_
          exact ih _ _ _ _ _ hf hP hS (lv_sub hl [0, 1] rfl) hE
  obtain ⟨owcPlc_2, hq, hf⟩ := ob hf
  try dsimp only at hf
  refine hL9 FU _ owcPlc_2 _ _ ls hq hP hS (lv_sub hl [1, 0] rfl) (fun H locs ls hP hS hl => ?_)
  refine lv_aload_n hx hb dX3_readWord_50 rfl (lv_at hl 0 rfl) ?_
  refine va_get (ci := 3) (v := .ref (ad 11)) (C := RX3) (T := TX3) (N := 8) hx hb hts hiX3 hown hK hP 13 rfl rfl 4 (by decide) (hts _ (List.mem_of_getElem? (i := 2) rfl)) (fun _ h9 => h9) rfl dX3_readWord_51 ?_
  refine lv_iload_n hx hb dX3_readWord_54 rfl (lv_at hl 1 rfl) ?_
  refine lv_aload_n hx hb dX3_readWord_55 rfl (lv_at hl 0 rfl) ?_
  refine va_get (ci := 3) (v := .int owcPlc_2) (C := RX3) (T := TX3) (N := 8) hx hb hts hiX3 hown hK hP 13 rfl rfl 5 (by decide) (hts _ (List.mem_of_getElem? (i := 1) rfl)) (fun _ h9 => h9) rfl dX3_readWord_56 ?_
  obtain ⟨r_4, hq, hf⟩ := ob hf
  try dsimp only at hf
  refine fcS (As := [.ref (ad 11), .int qcPlc_1, .int owcPlc_2]) (rest := []) ⟨hx, hb, hml, hown, hts⟩ (ctX7_find l D cI cB cZ ad zF zS adK adV A cBad cFul cCnt cOpc cStp cTsz cRcn owcPlc_2 cFlt cVil cLsz cRts cLns cOpn cGps cTrl cWgt cRch cByt cWds cFst cSnd cSgn qcPlc_1 owcPlc_2 r_4 hq) (va_cwS 3 hts gX3_readWord_X7_find rfl rfl rfl (by decide +kernel) ⟨Nat.le_of_ble_eq_true rfl, Nat.le_of_ble_eq_true rfl⟩) hK hP hF hS rfl hl.1 rfl (Nat.le_of_ble_eq_true rfl) dX3_readWord_59 ⟨Nat.zero_le _, Nat.zero_le _⟩ ?_
  refine lv_istore_n (lv' := [(2, .int r_4), (0, .ref (ad 13)), (1, .int qcPlc_1)]) hx hb dX3_readWord_62 rfl hl (by decide) rfl (fun ls hl => ?_)
  refine lv_iload_n hx hb dX3_readWord_63 rfl (lv_at hl 0 rfl) ?_
  refine lv_iconst (v := (-1 : Int32)) hx hb dX3_readWord_64 (by decide) ?_
  have hJ81 : ∀  (H : Heap) (locs : List Loc) (ls : Array Slot), fX3_readWord_J81 qcPlc_1 owcPlc_2 r_4 = some (rv, zcPlc, zcFlt) → va_P D vwCl (wC cI cB cZ ad cBad cFul cCnt cOpc cStp cTsz cRcn owcPlc_2 cFlt cVil cLsz cRts cLns cOpn cGps cTrl cWgt cRch cByt cWds cFst cSnd cSgn) H → va_S A s.heap H locs → lv_has ls 3 [(0, .ref (ad 13)), (1, .int qcPlc_1), (2, .int r_4)] → W p l e (rmN 6 132) s m args below meth c H locs 0 0 (MQ below (QI D (wC cI cB cZ ad cBad cFul cCnt cOpc cStp cTsz cRcn zcPlc zcFlt cVil cLsz cRts cLns cOpn cGps cTrl cWgt cRch cByt cWds cFst cSnd cSgn) A rv) args s 0 0 A) (F0 m 81 ls []) := by
    intro  H locs ls hf hP hS hl
    unfold fX3_readWord_J81 at hf
    refine lv_aload_n hx hb dX3_readWord_81 rfl (lv_at hl 0 rfl) ?_
    refine lv_iload_n hx hb dX3_readWord_82 rfl (lv_at hl 1 rfl) ?_
    refine va_put (ci := 3) (v := .int qcPlc_1) (ty := .int) (C := RX3) (T := TX3) (N := 8) hx hb hts hiX3 tyX3 tyX3_ok nmX3 hown hK hP (wC_D hAD) hS 13 rfl rfl 6 (by decide) (hts _ (List.mem_of_getElem? (i := 5) rfl)) (fun _ h9 => h9) rfl (tyX3_ok 6 (by decide)) rfl rfl (Nat.le_of_ble_eq_true rfl) dX3_readWord_83 (fun H locs hP _ hS => ?_)
    have hP : va_P D vwCl (wC cI cB cZ ad cBad cFul cCnt cOpc cStp cTsz cRcn owcPlc_2 qcPlc_1 cVil cLsz cRts cLns cOpn cGps cTrl cWgt cRch cByt cWds cFst cSnd cSgn) H := hP
    refine lv_iload_n hx hb dX3_readWord_86 rfl (lv_at hl 2 rfl) ?_
    obtain ⟨e0, hz1⟩ := Prod.mk.inj (Option.some.inj hf)
    obtain ⟨e1, hz2⟩ := Prod.mk.inj hz1
    subst e0
    subst e1
    subst hz2
    exact rm_i hx hb hr hlk hP hS dX3_readWord_87
  refine lv_icmp_eq (tgt := 81) hx hb dX3_readWord_65 (by decide) (fun hc => ?_) (fun hc => ?_)
  · replace hf := (if_pos hc).symm.trans hf
    exact hJ81  _ _ _ hf hP hS (lv_sub hl [1, 2, 0] rfl)
  · replace hf := (if_neg hc).symm.trans hf
    refine lv_iload_n hx hb dX3_readWord_68 rfl (lv_at hl 0 rfl) ?_
    refine lv_if_ne (tgt := 86) hx hb dX3_readWord_69 (by decide) (fun hc => ?_) (fun hc => ?_)
    · replace hf := (if_neg hc).symm.trans hf
      refine lv_iload_n hx hb dX3_readWord_86 rfl (lv_at hl 0 rfl) ?_
      obtain ⟨e0, hz1⟩ := Prod.mk.inj (Option.some.inj hf)
      obtain ⟨e1, hz2⟩ := Prod.mk.inj hz1
      subst e0
      subst e1
      subst hz2
      exact rm_i hx hb hr hlk hP hS dX3_readWord_87
    · replace hf := (if_pos hc).symm.trans hf
      refine lv_aload_n hx hb dX3_readWord_72 rfl (lv_at hl 1 rfl) ?_
      refine va_get (ci := 3) (v := .int cVil) (C := RX3) (T := TX3) (N := 8) hx hb hts hiX3 hown hK hP 13 rfl rfl 7 (by decide) (hts _ (List.mem_of_getElem? (i := 4) rfl)) (fun _ h9 => h9) rfl dX3_readWord_73 ?_
      refine lv_bipush (v := (60 : Int32)) hx hb dX3_readWord_76 (by decide) ?_
      refine lv_icmp_lt (tgt := 86) hx hb dX3_readWord_78 (by decide) (fun hc => ?_) (fun hc => ?_)
      · replace hf := (if_pos hc).symm.trans hf
        refine lv_iload_n hx hb dX3_readWord_86 rfl (lv_at hl 0 rfl) ?_
        obtain ⟨e0, hz1⟩ := Prod.mk.inj (Option.some.inj hf)
        obtain ⟨e1, hz2⟩ := Prod.mk.inj hz1
        subst e0
        subst e1
        subst hz2
        exact rm_i hx hb hr hlk hP hS dX3_readWord_87
      · replace hf := (if_neg hc).symm.trans hf
        exact hJ81  _ _ _ hf hP hS (lv_sub hl [1, 2, 0] rfl)
def fX3_readNumber_L25 (cTsz : Int32) (cByt : Nat → Int32) (kk : (Int32 × Int32) → Option (Int32 × Int32)) (ww : Int32 × Int32) : Option (Int32 × Int32) :=
  match ww with
  | (v3_2, wcPlc_3) => (if cTsz ≤ wcPlc_3 then (some (v3_2, wcPlc_3)) else ((fX5_isFigure cTsz cByt wcPlc_3).bind fun r_4 => (if r_4 = 0 then (some (v3_2, wcPlc_3)) else ((fX5_byteAt cTsz cByt wcPlc_3).bind fun r_5 => (kk ((((v3_2 * (10 : Int32)) + r_5) - (48 : Int32)), (wcPlc_3 + (1 : Int32))))))))
def fX3_readNumber_J118 (qcPlc_1 : Int32) (ov3_2 : Int32) (owcPlc_3 : Int32) : Option (Int32 × Int32 × Int32) :=
  (some (ov3_2, owcPlc_3, qcPlc_1))
def fX3_readNumber (cTsz : Int32) (cPlc : Int32) (cFlt : Int32) (cVil : Int32) (cByt : Nat → Int32) (p0 : Int32) : Option (Int32 × Int32 × Int32) :=
  (if cFlt = (-1 : Int32) then (if p0 = 0 then (some ((0 : Int32), cPlc, cFlt)) else ((fX3_skipBlanks cTsz cPlc cByt).bind fun qcPlc_1 => ((lp (fX3_readNumber_L25 cTsz cByt) FU ((0 : Int32), qcPlc_1)).bind fun (ov3_2, owcPlc_3) => (if (owcPlc_3 - qcPlc_1) < (1 : Int32) then (fX3_readNumber_J118 qcPlc_1 ov3_2 owcPlc_3) else (if (2 : Int32) < (owcPlc_3 - qcPlc_1) then (fX3_readNumber_J118 qcPlc_1 ov3_2 owcPlc_3) else ((fX7_suits p0 ov3_2 cVil).bind fun r_6 => (if r_6 = 0 then (fX3_readNumber_J118 qcPlc_1 ov3_2 owcPlc_3) else (some (ov3_2, owcPlc_3, cFlt))))))))) else (some ((0 : Int32), cPlc, cFlt)))
set_option maxRecDepth 100000 in
set_option maxHeartbeats 4000000 in
theorem ctX3_readNumber (l : Launch) (D : va_G) (cI cB cZ : ClassId) (ad : Nat → Nat) (zF zS : Nat) (adK adV : Nat → Nat) (A : Nat → Prop) (hAD : AD A ad 20) (cBad cFul cCnt cOpc cStp cTsz cRcn cPlc cFlt cVil cLsz : Int32) (cRts cLns cOpn cGps cTrl cWgt cRch cByt cWds cFst cSnd cSgn : Nat → Int32) (p0 : Int32) (rv : Int32) (zcPlc : Int32) (zcFlt : Int32) (hf : fX3_readNumber cTsz cPlc cFlt cVil cByt p0 = some (rv, zcPlc, zcFlt)) : Met l yX3_readNumber wsX3_readNumber (rmN 2 43) (PF D (tyL cI cB cZ) (wC cI cB cZ ad cBad cFul cCnt cOpc cStp cTsz cRcn cPlc cFlt cVil cLsz cRts cLns cOpn cGps cTrl cWgt cRch cByt cWds cFst cSnd cSgn) zF zS adK adV A [.ref (ad 13), .int p0]) (QI D (wC cI cB cZ ad cBad cFul cCnt cOpc cStp cTsz cRcn zcPlc zcFlt cVil cLsz cRts cLns cOpn cGps cTrl cWgt cRch cByt cWds cFst cSnd cSgn) A rv) 0 0 A := by
  refine mk_met cX3_readNumber 5 (some .int) (by decide) rfl (Nat.le_of_ble_eq_true rfl) ?_
  intro p e s m args below meth c ls hx hb hr hlk hml hown hts hPK hl
  obtain ⟨hP, hK, hF⟩ := hPK
  replace hl : lv_has ls 5 [(0, .ref (ad 13)), (1, .int p0)] := hl
  replace hown : s.vm.findClass RX3 = some m.cls := hown
  have hiX3 : ∀ w ∈ wsX30, w ∈ wsX3_readNumber := fun w h => List.mem_cons_of_mem _ (List.mem_append_left _ (List.mem_append_right _ h))
  have hiX5 : ∀ w ∈ wsX50, w ∈ wsX3_readNumber := fun w h => List.mem_cons_of_mem _ (List.mem_append_right _ h)
  have hS : va_S A s.heap s.heap [] := va_S.rf
  unfold fX3_readNumber at hf
  refine lv_aload_n hx hb dX3_readNumber_0 rfl (lv_at hl 0 rfl) ?_
  refine va_get (ci := 3) (v := .int cFlt) (C := RX3) (T := TX3) (N := 8) hx hb hts hiX3 hown hK hP 13 rfl rfl 6 (by decide) (hts _ (List.mem_of_getElem? (i := 1) rfl)) (fun _ h9 => h9) rfl dX3_readNumber_1 ?_
  refine lv_iconst (v := (-1 : Int32)) hx hb dX3_readNumber_4 (by decide) ?_
  refine lv_icmp_ne (tgt := 12) hx hb dX3_readNumber_5 (by decide) (fun hc => ?_) (fun hc => ?_)
  · replace hf := (if_neg hc).symm.trans hf
    refine lv_iconst (v := (0 : Int32)) hx hb dX3_readNumber_12 (by decide) ?_
    obtain ⟨e0, hz1⟩ := Prod.mk.inj (Option.some.inj hf)
    obtain ⟨e1, hz2⟩ := Prod.mk.inj hz1
    subst e0
    subst e1
    subst hz2
    exact rm_i hx hb hr hlk hP hS dX3_readNumber_13
  · replace hf := (if_pos hc).symm.trans hf
    refine lv_iload_n hx hb dX3_readNumber_8 rfl (lv_at hl 1 rfl) ?_
    refine lv_if_ne (tgt := 14) hx hb dX3_readNumber_9 (by decide) (fun hc => ?_) (fun hc => ?_)
    · replace hf := (if_neg hc).symm.trans hf
      refine lv_aload_n hx hb dX3_readNumber_14 rfl (lv_at hl 0 rfl) ?_
      obtain ⟨qcPlc_1, hq, hf⟩ := ob hf
      try dsimp only at hf
      refine mcVv 13 3 (As := []) (rest := []) ⟨hx, hb, hml, hown, hts⟩ (ctX3_skipBlanks l D cI cB cZ ad A hAD cBad cFul cCnt cOpc cStp cTsz cRcn cPlc cFlt cVil cLsz cRts cLns cOpn cGps cTrl cWgt cRch cByt cWds cFst cSnd cSgn  qcPlc_1 hq) (cwV 0 hts gX3_readNumber_X3_skipBlanks rfl rfl rfl (by decide +kernel) ⟨Nat.le_of_ble_eq_true rfl, Nat.le_of_ble_eq_true rfl⟩) hK hP hS rfl rfl rfl hl.1 rfl (Nat.le_of_ble_eq_true rfl) dX3_readNumber_15 ⟨Nat.zero_le _, Nat.zero_le _⟩ (fun H locs hP hS => ?_)
      refine lv_aload_n hx hb dX3_readNumber_18 rfl (lv_at hl 0 rfl) ?_
      refine va_get (ci := 3) (v := .int qcPlc_1) (C := RX3) (T := TX3) (N := 8) hx hb hts hiX3 hown hK hP 13 rfl rfl 5 (by decide) (hts _ (List.mem_of_getElem? (i := 2) rfl)) (fun _ h9 => h9) rfl dX3_readNumber_19 ?_
      refine lv_istore_n (lv' := [(2, .int qcPlc_1), (0, .ref (ad 13)), (1, .int p0)]) hx hb dX3_readNumber_22 rfl hl (by decide) rfl (fun ls hl => ?_)
      refine lv_iconst (v := (0 : Int32)) hx hb dX3_readNumber_23 (by decide) ?_
      refine lv_istore_n (lv' := [(3, .int (0 : Int32)), (2, .int qcPlc_1), (0, .ref (ad 13)), (1, .int p0)]) hx hb dX3_readNumber_24 rfl hl (by decide) rfl (fun ls hl => ?_)
      have hL25 : ∀ (n : Nat) (v3_2 : Int32) (wcPlc_3 : Int32) (ov3_2 : Int32) (owcPlc_3 : Int32) (H : Heap) (locs : List Loc) (ls : Array Slot), lp (fX3_readNumber_L25 cTsz cByt) n (v3_2, wcPlc_3) = some (ov3_2, owcPlc_3) → va_P D vwCl (wC cI cB cZ ad cBad cFul cCnt cOpc cStp cTsz cRcn wcPlc_3 cFlt cVil cLsz cRts cLns cOpn cGps cTrl cWgt cRch cByt cWds cFst cSnd cSgn) H → va_S A s.heap H locs → lv_has ls 5 [(0, .ref (ad 13)), (1, .int p0), (2, .int qcPlc_1), (3, .int v3_2)] → (∀ (H : Heap) (locs : List Loc) (ls : Array Slot), va_P D vwCl (wC cI cB cZ ad cBad cFul cCnt cOpc cStp cTsz cRcn owcPlc_3 cFlt cVil cLsz cRts cLns cOpn cGps cTrl cWgt cRch cByt cWds cFst cSnd cSgn) H → va_S A s.heap H locs → lv_has ls 5 [(0, .ref (ad 13)), (1, .int p0), (2, .int qcPlc_1), (3, .int ov3_2)] → W p l e (rmN 2 43) s m args below meth c H locs 0 0 (MQ below (QI D (wC cI cB cZ ad cBad cFul cCnt cOpc cStp cTsz cRcn zcPlc zcFlt cVil cLsz cRts cLns cOpn cGps cTrl cWgt cRch cByt cWds cFst cSnd cSgn) A rv) args s 0 0 A) (F0 m 86 ls [])) → W p l e (rmN 2 43) s m args below meth c H locs 0 0 (MQ below (QI D (wC cI cB cZ ad cBad cFul cCnt cOpc cStp cTsz cRcn zcPlc zcFlt cVil cLsz cRts cLns cOpn cGps cTrl cWgt cRch cByt cWds cFst cSnd cSgn) A rv) args s 0 0 A) (F0 m 25 ls []) := by
        intro n
        induction n with
        | zero => intro v3_2 wcPlc_3 ov3_2 owcPlc_3 H locs ls hf; exact (lp_0 hf).elim
        | succ n ih =>
          intro v3_2 wcPlc_3 ov3_2 owcPlc_3 H locs ls hf hP hS hl hE
          replace hf := lp_s hf
          dsimp only [fX3_readNumber_L25] at hf
          refine lv_aload_n hx hb dX3_readNumber_25 rfl (lv_at hl 0 rfl) ?_
          refine va_get (ci := 3) (v := .int wcPlc_3) (C := RX3) (T := TX3) (N := 8) hx hb hts hiX3 hown hK hP 13 rfl rfl 5 (by decide) (hts _ (List.mem_of_getElem? (i := 2) rfl)) (fun _ h9 => h9) rfl dX3_readNumber_26 ?_
          refine lv_aload_n hx hb dX3_readNumber_29 rfl (lv_at hl 0 rfl) ?_
          refine va_get (ci := 3) (v := .ref (ad 11)) (C := RX3) (T := TX3) (N := 8) hx hb hts hiX3 hown hK hP 13 rfl rfl 4 (by decide) (hts _ (List.mem_of_getElem? (i := 3) rfl)) (fun _ h9 => h9) rfl dX3_readNumber_30 ?_
          refine va_get (ci := 5) (v := .int cTsz) (C := RX5) (T := TX5) (N := 2) hx hb hts hiX5 hown hK hP 11 rfl rfl 1 (by decide) (hts _ (List.mem_of_getElem? (i := 4) rfl)) (fun _ h9 => h9) rfl dX3_readNumber_33 ?_
          refine lv_icmp_ge (tgt := 86) hx hb dX3_readNumber_36 (by decide) (fun hc => ?_) (fun hc => ?_)
          · replace hf := (if_pos hc).symm.trans hf
            cases hf
            exact hE _ _ _ hP hS (lv_sub hl [0, 1, 2, 3] rfl)
          · replace hf := (if_neg hc).symm.trans hf
            refine lv_aload_n hx hb dX3_readNumber_39 rfl (lv_at hl 0 rfl) ?_
            refine va_get (ci := 3) (v := .ref (ad 11)) (C := RX3) (T := TX3) (N := 8) hx hb hts hiX3 hown hK hP 13 rfl rfl 4 (by decide) (hts _ (List.mem_of_getElem? (i := 3) rfl)) (fun _ h9 => h9) rfl dX3_readNumber_40 ?_
            refine lv_aload_n hx hb dX3_readNumber_43 rfl (lv_at hl 0 rfl) ?_
            refine va_get (ci := 3) (v := .int wcPlc_3) (C := RX3) (T := TX3) (N := 8) hx hb hts hiX3 hown hK hP 13 rfl rfl 5 (by decide) (hts _ (List.mem_of_getElem? (i := 2) rfl)) (fun _ h9 => h9) rfl dX3_readNumber_44 ?_
            obtain ⟨r_4, hq, hf⟩ := ob hf
            try dsimp only at hf
            refine rcV 11 5 (As := [.int wcPlc_3]) (rest := []) ⟨hx, hb, hml, hown, hts⟩ (ctX5_isFigure l D cI cB cZ ad cBad cFul cCnt cOpc cStp cTsz cRcn wcPlc_3 cFlt cVil cLsz cRts cLns cOpn cGps cTrl cWgt cRch cByt cWds cFst cSnd cSgn wcPlc_3 r_4 hq) (cwV 1 hts gX3_readNumber_X5_isFigure rfl rfl rfl (by decide +kernel) ⟨Nat.le_of_ble_eq_true rfl, Nat.le_of_ble_eq_true rfl⟩) hK hP rfl rfl rfl hl.1 rfl (Nat.le_of_ble_eq_true rfl) dX3_readNumber_47 ⟨Nat.zero_le _, Nat.zero_le _⟩ ?_
            refine lv_if_eq (tgt := 86) hx hb dX3_readNumber_50 (by decide) (fun hc => ?_) (fun hc => ?_)
            · replace hf := (if_pos hc).symm.trans hf
              cases hf
              exact hE _ _ _ hP hS (lv_sub hl [0, 1, 2, 3] rfl)
            · replace hf := (if_neg hc).symm.trans hf
              refine lv_iload_n hx hb dX3_readNumber_53 rfl (lv_at hl 3 rfl) ?_
              refine lv_bipush (v := (10 : Int32)) hx hb dX3_readNumber_54 (by decide) ?_
              refine lv_imul hx hb dX3_readNumber_56 ?_
              refine lv_aload_n hx hb dX3_readNumber_57 rfl (lv_at hl 0 rfl) ?_
              refine va_get (ci := 3) (v := .ref (ad 11)) (C := RX3) (T := TX3) (N := 8) hx hb hts hiX3 hown hK hP 13 rfl rfl 4 (by decide) (hts _ (List.mem_of_getElem? (i := 3) rfl)) (fun _ h9 => h9) rfl dX3_readNumber_58 ?_
              refine lv_aload_n hx hb dX3_readNumber_61 rfl (lv_at hl 0 rfl) ?_
              refine va_get (ci := 3) (v := .int wcPlc_3) (C := RX3) (T := TX3) (N := 8) hx hb hts hiX3 hown hK hP 13 rfl rfl 5 (by decide) (hts _ (List.mem_of_getElem? (i := 2) rfl)) (fun _ h9 => h9) rfl dX3_readNumber_62 ?_
              obtain ⟨r_5, hq, hf⟩ := ob hf
              try dsimp only at hf
              refine rcV 11 5 (As := [.int wcPlc_3]) (rest := [.int (v3_2 * (10 : Int32))]) ⟨hx, hb, hml, hown, hts⟩ (ctX5_byteAt l D cI cB cZ ad cBad cFul cCnt cOpc cStp cTsz cRcn wcPlc_3 cFlt cVil cLsz cRts cLns cOpn cGps cTrl cWgt cRch cByt cWds cFst cSnd cSgn wcPlc_3 r_5 hq) (cwV 1 hts gX3_readNumber_X5_byteAt rfl rfl rfl (by decide +kernel) ⟨Nat.le_of_ble_eq_true rfl, Nat.le_of_ble_eq_true rfl⟩) hK hP rfl rfl rfl hl.1 rfl (Nat.le_of_ble_eq_true rfl) dX3_readNumber_65 ⟨Nat.zero_le _, Nat.zero_le _⟩ ?_
              refine lv_iadd hx hb dX3_readNumber_68 ?_
              refine lv_bipush (v := (48 : Int32)) hx hb dX3_readNumber_69 (by decide) ?_
              refine lv_isub hx hb dX3_readNumber_71 ?_
              refine lv_istore_n (lv' := [(3, .int (((v3_2 * (10 : Int32)) + r_5) - (48 : Int32))), (0, .ref (ad 13)), (1, .int p0), (2, .int qcPlc_1)]) hx hb dX3_readNumber_72 rfl hl (by decide) rfl (fun ls hl => ?_)
              refine lv_aload_n hx hb dX3_readNumber_73 rfl (lv_at hl 1 rfl) ?_
              refine lv_dup hx hb dX3_readNumber_74 rfl ?_
              refine va_get (ci := 3) (v := .int wcPlc_3) (C := RX3) (T := TX3) (N := 8) hx hb hts hiX3 hown hK hP 13 rfl rfl 5 (by decide) (hts _ (List.mem_of_getElem? (i := 2) rfl)) (fun _ h9 => h9) rfl dX3_readNumber_75 ?_
              refine lv_iconst (v := (1 : Int32)) hx hb dX3_readNumber_78 (by decide) ?_
              refine lv_iadd hx hb dX3_readNumber_79 ?_
              refine va_put (ci := 3) (v := .int (wcPlc_3 + (1 : Int32))) (ty := .int) (C := RX3) (T := TX3) (N := 8) hx hb hts hiX3 tyX3 tyX3_ok nmX3 hown hK hP (wC_D hAD) hS 13 rfl rfl 5 (by decide) (hts _ (List.mem_of_getElem? (i := 2) rfl)) (fun _ h9 => h9) rfl (tyX3_ok 5 (by decide)) rfl rfl (Nat.le_of_ble_eq_true rfl) dX3_readNumber_80 (fun H locs hP _ hS => ?_)
              have hP : va_P D vwCl (wC cI cB cZ ad cBad cFul cCnt cOpc cStp cTsz cRcn (wcPlc_3 + (1 : Int32)) cFlt cVil cLsz cRts cLns cOpn cGps cTrl cWgt cRch cByt cWds cFst cSnd cSgn) H := hP
              refine lv_goto (tgt := 25) hx hb dX3_readNumber_83 (by decide) ?_
              exact ih _ _ _ _ _ _ _ hf hP hS (lv_sub hl [1, 2, 3, 0] rfl) hE
      obtain ⟨⟨ov3_2, owcPlc_3⟩, hq, hf⟩ := ob hf
      try dsimp only at hf
      refine hL25 FU _ _ ov3_2 owcPlc_3 _ _ ls hq hP hS (lv_sub hl [2, 3, 1, 0] rfl) (fun H locs ls hP hS hl => ?_)
      refine lv_aload_n hx hb dX3_readNumber_86 rfl (lv_at hl 0 rfl) ?_
      refine va_get (ci := 3) (v := .int owcPlc_3) (C := RX3) (T := TX3) (N := 8) hx hb hts hiX3 hown hK hP 13 rfl rfl 5 (by decide) (hts _ (List.mem_of_getElem? (i := 2) rfl)) (fun _ h9 => h9) rfl dX3_readNumber_87 ?_
      refine lv_iload_n hx hb dX3_readNumber_90 rfl (lv_at hl 2 rfl) ?_
      refine lv_isub hx hb dX3_readNumber_91 ?_
      refine lv_istore (lv' := [(4, .int (owcPlc_3 - qcPlc_1)), (0, .ref (ad 13)), (1, .int p0), (2, .int qcPlc_1), (3, .int ov3_2)]) hx hb dX3_readNumber_92 hl (by decide) rfl (fun ls hl => ?_)
      refine lv_iload hx hb dX3_readNumber_94 (lv_at hl 0 rfl) ?_
      refine lv_iconst (v := (1 : Int32)) hx hb dX3_readNumber_96 (by decide) ?_
      have hJ118 : ∀  (H : Heap) (locs : List Loc) (ls : Array Slot), fX3_readNumber_J118 qcPlc_1 ov3_2 owcPlc_3 = some (rv, zcPlc, zcFlt) → va_P D vwCl (wC cI cB cZ ad cBad cFul cCnt cOpc cStp cTsz cRcn owcPlc_3 cFlt cVil cLsz cRts cLns cOpn cGps cTrl cWgt cRch cByt cWds cFst cSnd cSgn) H → va_S A s.heap H locs → lv_has ls 5 [(0, .ref (ad 13)), (1, .int p0), (2, .int qcPlc_1), (3, .int ov3_2), (4, .int (owcPlc_3 - qcPlc_1))] → W p l e (rmN 2 43) s m args below meth c H locs 0 0 (MQ below (QI D (wC cI cB cZ ad cBad cFul cCnt cOpc cStp cTsz cRcn zcPlc zcFlt cVil cLsz cRts cLns cOpn cGps cTrl cWgt cRch cByt cWds cFst cSnd cSgn) A rv) args s 0 0 A) (F0 m 118 ls []) := by
        intro  H locs ls hf hP hS hl
        unfold fX3_readNumber_J118 at hf
        refine lv_aload_n hx hb dX3_readNumber_118 rfl (lv_at hl 0 rfl) ?_
        refine lv_iload_n hx hb dX3_readNumber_119 rfl (lv_at hl 2 rfl) ?_
        refine va_put (ci := 3) (v := .int qcPlc_1) (ty := .int) (C := RX3) (T := TX3) (N := 8) hx hb hts hiX3 tyX3 tyX3_ok nmX3 hown hK hP (wC_D hAD) hS 13 rfl rfl 6 (by decide) (hts _ (List.mem_of_getElem? (i := 1) rfl)) (fun _ h9 => h9) rfl (tyX3_ok 6 (by decide)) rfl rfl (Nat.le_of_ble_eq_true rfl) dX3_readNumber_120 (fun H locs hP _ hS => ?_)
        have hP : va_P D vwCl (wC cI cB cZ ad cBad cFul cCnt cOpc cStp cTsz cRcn owcPlc_3 qcPlc_1 cVil cLsz cRts cLns cOpn cGps cTrl cWgt cRch cByt cWds cFst cSnd cSgn) H := hP
        refine lv_iload_n hx hb dX3_readNumber_123 rfl (lv_at hl 3 rfl) ?_
        obtain ⟨e0, hz1⟩ := Prod.mk.inj (Option.some.inj hf)
        obtain ⟨e1, hz2⟩ := Prod.mk.inj hz1
        subst e0
        subst e1
        subst hz2
        exact rm_i hx hb hr hlk hP hS dX3_readNumber_124
      refine lv_icmp_lt (tgt := 118) hx hb dX3_readNumber_97 (by decide) (fun hc => ?_) (fun hc => ?_)
      · replace hf := (if_pos hc).symm.trans hf
        exact hJ118  _ _ _ hf hP hS (lv_sub hl [1, 2, 3, 4, 0] rfl)
      · replace hf := (if_neg hc).symm.trans hf
        refine lv_iload hx hb dX3_readNumber_100 (lv_at hl 0 rfl) ?_
        refine lv_iconst (v := (2 : Int32)) hx hb dX3_readNumber_102 (by decide) ?_
        refine lv_icmp_gt (tgt := 118) hx hb dX3_readNumber_103 (by decide) (fun hc => ?_) (fun hc => ?_)
        · replace hf := (if_pos hc).symm.trans hf
          exact hJ118  _ _ _ hf hP hS (lv_sub hl [1, 2, 3, 4, 0] rfl)
        · replace hf := (if_neg hc).symm.trans hf
          refine lv_iload_n hx hb dX3_readNumber_106 rfl (lv_at hl 2 rfl) ?_
          refine lv_iload_n hx hb dX3_readNumber_107 rfl (lv_at hl 4 rfl) ?_
          refine lv_aload_n hx hb dX3_readNumber_108 rfl (lv_at hl 1 rfl) ?_
          refine va_get (ci := 3) (v := .int cVil) (C := RX3) (T := TX3) (N := 8) hx hb hts hiX3 hown hK hP 13 rfl rfl 7 (by decide) (hts _ (List.mem_of_getElem? (i := 5) rfl)) (fun _ h9 => h9) rfl dX3_readNumber_109 ?_
          obtain ⟨r_6, hq, hf⟩ := ob hf
          try dsimp only at hf
          refine jcS (As := [.int p0, .int ov3_2, .int cVil]) (rest := []) ⟨hx, hb, hml, hown, hts⟩ (ctX7_suits l zF zS adK adV A p0 ov3_2 cVil r_6 hq) (va_cwS 3 hts gX3_readNumber_X7_suits rfl rfl rfl (by decide +kernel) ⟨Nat.le_of_ble_eq_true rfl, Nat.le_of_ble_eq_true rfl⟩) hF hS rfl hl.1 rfl (Nat.le_of_ble_eq_true rfl) dX3_readNumber_112 ⟨Nat.zero_le _, Nat.zero_le _⟩ ?_
          refine lv_if_ne (tgt := 123) hx hb dX3_readNumber_115 (by decide) (fun hc => ?_) (fun hc => ?_)
          · replace hf := (if_neg hc).symm.trans hf
            refine lv_iload_n hx hb dX3_readNumber_123 rfl (lv_at hl 4 rfl) ?_
            obtain ⟨e0, hz1⟩ := Prod.mk.inj (Option.some.inj hf)
            obtain ⟨e1, hz2⟩ := Prod.mk.inj hz1
            subst e0
            subst e1
            subst hz2
            exact rm_i hx hb hr hlk hP hS dX3_readNumber_124
          · replace hf := (if_pos hc).symm.trans hf
            exact hJ118  _ _ _ hf hP hS (lv_sub hl [1, 2, 3, 4, 0] rfl)
    · replace hf := (if_pos hc).symm.trans hf
      refine lv_iconst (v := (0 : Int32)) hx hb dX3_readNumber_12 (by decide) ?_
      obtain ⟨e0, hz1⟩ := Prod.mk.inj (Option.some.inj hf)
      obtain ⟨e1, hz2⟩ := Prod.mk.inj hz1
      subst e0
      subst e1
      subst hz2
      exact rm_i hx hb hr hlk hP hS dX3_readNumber_13
def fX3_readSentence (cTsz : Int32) (cRcn : Int32) (cPlc : Int32) (cFlt : Int32) (cVil : Int32) (cByt : Nat → Int32) (cWds : Nat → Int32) (cFst : Nat → Int32) (cSnd : Nat → Int32)  : Option (Int32 × Int32 × Int32 × Int32 × (Nat → Int32) × (Nat → Int32) × (Nat → Int32)) :=
  ((fX3_readWord cTsz cPlc cFlt cVil cByt).bind fun (r_1, qcPlc_2, qcFlt_3) => ((fX7_firstNeed r_1).bind fun r_4 => ((fX3_readNumber cTsz qcPlc_2 qcFlt_3 cVil cByt r_4).bind fun (r_5, qcPlc_6, qcFlt_7) => ((fX7_secondNeed r_1).bind fun r_8 => ((fX3_readNumber cTsz qcPlc_6 qcFlt_7 cVil cByt r_8).bind fun (r_9, qcPlc_10, qcFlt_11) => ((fX3_readEnd cTsz qcPlc_10 qcFlt_11 cByt).bind fun (qcPlc_12, qcFlt_13) => (if qcFlt_13 = (-1 : Int32) then ((fX3_keep cRcn cVil cWds cFst cSnd r_1 r_5 r_9).bind fun (qcRcn_14, qcVil_15, qcWds_16, qcFst_17, qcSnd_18) => (some (qcRcn_14, qcPlc_12, qcFlt_13, qcVil_15, qcWds_16, qcFst_17, qcSnd_18))) else (some (cRcn, qcPlc_12, qcFlt_13, cVil, cWds, cFst, cSnd)))))))))
set_option maxRecDepth 100000 in
set_option maxHeartbeats 4000000 in
theorem ctX3_readSentence (l : Launch) (D : va_G) (cI cB cZ : ClassId) (ad : Nat → Nat) (zF zS : Nat) (adK adV : Nat → Nat) (A : Nat → Prop) (hAD : AD A ad 20) (cBad cFul cCnt cOpc cStp cTsz cRcn cPlc cFlt cVil cLsz : Int32) (cRts cLns cOpn cGps cTrl cWgt cRch cByt cWds cFst cSnd cSgn : Nat → Int32)  (zcRcn : Int32) (zcPlc : Int32) (zcFlt : Int32) (zcVil : Int32) (zcWds : Nat → Int32) (zcFst : Nat → Int32) (zcSnd : Nat → Int32) (hf : fX3_readSentence cTsz cRcn cPlc cFlt cVil cByt cWds cFst cSnd = some (zcRcn, zcPlc, zcFlt, zcVil, zcWds, zcFst, zcSnd)) : Met l yX3_readSentence wsX3_readSentence (rmN 7 154) (PF D (tyL cI cB cZ) (wC cI cB cZ ad cBad cFul cCnt cOpc cStp cTsz cRcn cPlc cFlt cVil cLsz cRts cLns cOpn cGps cTrl cWgt cRch cByt cWds cFst cSnd cSgn) zF zS adK adV A [.ref (ad 13)]) (QV D (wC cI cB cZ ad cBad cFul cCnt cOpc cStp cTsz zcRcn zcPlc zcFlt zcVil cLsz cRts cLns cOpn cGps cTrl cWgt cRch cByt zcWds zcFst zcSnd cSgn) A) 0 0 A := by
  refine mk_met cX3_readSentence 4 none (by decide) rfl (Nat.le_of_ble_eq_true rfl) ?_
  intro p e s m args below meth c ls hx hb hr hlk hml hown hts hPK hl
  obtain ⟨hP, hK, hF⟩ := hPK
  replace hl : lv_has ls 4 [(0, .ref (ad 13))] := hl
  replace hown : s.vm.findClass RX3 = some m.cls := hown
  have hiX3 : ∀ w ∈ wsX30, w ∈ wsX3_readSentence := fun w h => List.mem_cons_of_mem _ (List.mem_append_left _ (List.mem_append_right _ h))
  have hS : va_S A s.heap s.heap [] := va_S.rf
  unfold fX3_readSentence at hf
  refine lv_aload_n hx hb dX3_readSentence_0 rfl (lv_at hl 0 rfl) ?_
  obtain ⟨⟨r_1, qcPlc_2, qcFlt_3⟩, hq, hf⟩ := ob hf
  try dsimp only at hf
  refine fcVi 13 3 (As := []) (rest := []) ⟨hx, hb, hml, hown, hts⟩ (ctX3_readWord l D cI cB cZ ad zF zS adK adV A hAD cBad cFul cCnt cOpc cStp cTsz cRcn cPlc cFlt cVil cLsz cRts cLns cOpn cGps cTrl cWgt cRch cByt cWds cFst cSnd cSgn  r_1 qcPlc_2 qcFlt_3 hq) (cwV 0 hts gX3_readSentence_X3_readWord rfl rfl rfl (by decide +kernel) ⟨Nat.le_of_ble_eq_true rfl, Nat.le_of_ble_eq_true rfl⟩) hK hP hF hS rfl rfl rfl hl.1 rfl (Nat.le_of_ble_eq_true rfl) dX3_readSentence_1 ⟨Nat.zero_le _, Nat.zero_le _⟩ (fun H locs hP hS => ?_)
  refine lv_istore_n (lv' := [(1, .int r_1), (0, .ref (ad 13))]) hx hb dX3_readSentence_4 rfl hl (by decide) rfl (fun ls hl => ?_)
  refine lv_aload_n hx hb dX3_readSentence_5 rfl (lv_at hl 1 rfl) ?_
  refine lv_iload_n hx hb dX3_readSentence_6 rfl (lv_at hl 0 rfl) ?_
  obtain ⟨r_4, hq, hf⟩ := ob hf
  try dsimp only at hf
  refine jcS (As := [.int r_1]) (rest := [.ref (ad 13)]) ⟨hx, hb, hml, hown, hts⟩ (ctX7_firstNeed l zF zS adK adV A r_1 r_4 hq) (va_cwS 1 hts gX3_readSentence_X7_firstNeed rfl rfl rfl (by decide +kernel) ⟨Nat.le_of_ble_eq_true rfl, Nat.le_of_ble_eq_true rfl⟩) hF hS rfl hl.1 rfl (Nat.le_of_ble_eq_true rfl) dX3_readSentence_7 ⟨Nat.zero_le _, Nat.zero_le _⟩ ?_
  obtain ⟨⟨r_5, qcPlc_6, qcFlt_7⟩, hq, hf⟩ := ob hf
  try dsimp only at hf
  refine fcVi 13 3 (As := [.int r_4]) (rest := []) ⟨hx, hb, hml, hown, hts⟩ (ctX3_readNumber l D cI cB cZ ad zF zS adK adV A hAD cBad cFul cCnt cOpc cStp cTsz cRcn qcPlc_2 qcFlt_3 cVil cLsz cRts cLns cOpn cGps cTrl cWgt cRch cByt cWds cFst cSnd cSgn r_4 r_5 qcPlc_6 qcFlt_7 hq) (cwV 1 hts gX3_readSentence_X3_readNumber rfl rfl rfl (by decide +kernel) ⟨Nat.le_of_ble_eq_true rfl, Nat.le_of_ble_eq_true rfl⟩) hK hP hF hS rfl rfl rfl hl.1 rfl (Nat.le_of_ble_eq_true rfl) dX3_readSentence_10 ⟨Nat.zero_le _, Nat.zero_le _⟩ (fun H locs hP hS => ?_)
  refine lv_istore_n (lv' := [(2, .int r_5), (1, .int r_1), (0, .ref (ad 13))]) hx hb dX3_readSentence_13 rfl hl (by decide) rfl (fun ls hl => ?_)
  refine lv_aload_n hx hb dX3_readSentence_14 rfl (lv_at hl 2 rfl) ?_
  refine lv_iload_n hx hb dX3_readSentence_15 rfl (lv_at hl 1 rfl) ?_
  obtain ⟨r_8, hq, hf⟩ := ob hf
  try dsimp only at hf
  refine jcS (As := [.int r_1]) (rest := [.ref (ad 13)]) ⟨hx, hb, hml, hown, hts⟩ (ctX7_secondNeed l zF zS adK adV A r_1 r_8 hq) (va_cwS 1 hts gX3_readSentence_X7_secondNeed rfl rfl rfl (by decide +kernel) ⟨Nat.le_of_ble_eq_true rfl, Nat.le_of_ble_eq_true rfl⟩) hF hS rfl hl.1 rfl (Nat.le_of_ble_eq_true rfl) dX3_readSentence_16 ⟨Nat.zero_le _, Nat.zero_le _⟩ ?_
  obtain ⟨⟨r_9, qcPlc_10, qcFlt_11⟩, hq, hf⟩ := ob hf
  try dsimp only at hf
  refine fcVi 13 3 (As := [.int r_8]) (rest := []) ⟨hx, hb, hml, hown, hts⟩ (ctX3_readNumber l D cI cB cZ ad zF zS adK adV A hAD cBad cFul cCnt cOpc cStp cTsz cRcn qcPlc_6 qcFlt_7 cVil cLsz cRts cLns cOpn cGps cTrl cWgt cRch cByt cWds cFst cSnd cSgn r_8 r_9 qcPlc_10 qcFlt_11 hq) (cwV 1 hts gX3_readSentence_X3_readNumber rfl rfl rfl (by decide +kernel) ⟨Nat.le_of_ble_eq_true rfl, Nat.le_of_ble_eq_true rfl⟩) hK hP hF hS rfl rfl rfl hl.1 rfl (Nat.le_of_ble_eq_true rfl) dX3_readSentence_19 ⟨Nat.zero_le _, Nat.zero_le _⟩ (fun H locs hP hS => ?_)
  refine lv_istore_n (lv' := [(3, .int r_9), (2, .int r_5), (1, .int r_1), (0, .ref (ad 13))]) hx hb dX3_readSentence_22 rfl hl (by decide) rfl (fun ls hl => ?_)
  refine lv_aload_n hx hb dX3_readSentence_23 rfl (lv_at hl 3 rfl) ?_
  obtain ⟨⟨qcPlc_12, qcFlt_13⟩, hq, hf⟩ := ob hf
  try dsimp only at hf
  refine mcVv 13 3 (As := []) (rest := []) ⟨hx, hb, hml, hown, hts⟩ (ctX3_readEnd l D cI cB cZ ad A hAD cBad cFul cCnt cOpc cStp cTsz cRcn qcPlc_10 qcFlt_11 cVil cLsz cRts cLns cOpn cGps cTrl cWgt cRch cByt cWds cFst cSnd cSgn  qcPlc_12 qcFlt_13 hq) (cwV 0 hts gX3_readSentence_X3_readEnd rfl rfl rfl (by decide +kernel) ⟨Nat.le_of_ble_eq_true rfl, Nat.le_of_ble_eq_true rfl⟩) hK hP hS rfl rfl rfl hl.1 rfl (Nat.le_of_ble_eq_true rfl) dX3_readSentence_24 ⟨Nat.zero_le _, Nat.zero_le _⟩ (fun H locs hP hS => ?_)
  refine lv_aload_n hx hb dX3_readSentence_27 rfl (lv_at hl 3 rfl) ?_
  refine va_get (ci := 3) (v := .int qcFlt_13) (C := RX3) (T := TX3) (N := 8) hx hb hts hiX3 hown hK hP 13 rfl rfl 6 (by decide) (hts _ (List.mem_of_getElem? (i := 1) rfl)) (fun _ h9 => h9) rfl dX3_readSentence_28 ?_
  refine lv_iconst (v := (-1 : Int32)) hx hb dX3_readSentence_31 (by decide) ?_
  refine lv_icmp_ne (tgt := 42) hx hb dX3_readSentence_32 (by decide) (fun hc => ?_) (fun hc => ?_)
  · replace hf := (if_neg hc).symm.trans hf
    obtain ⟨e0, hz1⟩ := Prod.mk.inj (Option.some.inj hf)
    obtain ⟨e1, hz2⟩ := Prod.mk.inj hz1
    obtain ⟨e2, hz3⟩ := Prod.mk.inj hz2
    obtain ⟨e3, hz4⟩ := Prod.mk.inj hz3
    obtain ⟨e4, hz5⟩ := Prod.mk.inj hz4
    obtain ⟨e5, hz6⟩ := Prod.mk.inj hz5
    subst e0
    subst e1
    subst e2
    subst e3
    subst e4
    subst e5
    subst hz6
    exact rm_v hx hb hr hlk hP hS dX3_readSentence_42
  · replace hf := (if_pos hc).symm.trans hf
    refine lv_aload_n hx hb dX3_readSentence_35 rfl (lv_at hl 3 rfl) ?_
    refine lv_iload_n hx hb dX3_readSentence_36 rfl (lv_at hl 2 rfl) ?_
    refine lv_iload_n hx hb dX3_readSentence_37 rfl (lv_at hl 1 rfl) ?_
    refine lv_iload_n hx hb dX3_readSentence_38 rfl (lv_at hl 0 rfl) ?_
    obtain ⟨⟨qcRcn_14, qcVil_15, qcWds_16, qcFst_17, qcSnd_18⟩, hq, hf⟩ := ob hf
    try dsimp only at hf
    refine mcVv 13 3 (As := [.int r_1, .int r_5, .int r_9]) (rest := []) ⟨hx, hb, hml, hown, hts⟩ (ctX3_keep l D cI cB cZ ad A hAD cBad cFul cCnt cOpc cStp cTsz cRcn qcPlc_12 qcFlt_13 cVil cLsz cRts cLns cOpn cGps cTrl cWgt cRch cByt cWds cFst cSnd cSgn r_1 r_5 r_9 qcRcn_14 qcVil_15 qcWds_16 qcFst_17 qcSnd_18 hq) (cwV 3 hts gX3_readSentence_X3_keep rfl rfl rfl (by decide +kernel) ⟨Nat.le_of_ble_eq_true rfl, Nat.le_of_ble_eq_true rfl⟩) hK hP hS rfl rfl rfl hl.1 rfl (Nat.le_of_ble_eq_true rfl) dX3_readSentence_39 ⟨Nat.zero_le _, Nat.zero_le _⟩ (fun H locs hP hS => ?_)
    obtain ⟨e0, hz1⟩ := Prod.mk.inj (Option.some.inj hf)
    obtain ⟨e1, hz2⟩ := Prod.mk.inj hz1
    obtain ⟨e2, hz3⟩ := Prod.mk.inj hz2
    obtain ⟨e3, hz4⟩ := Prod.mk.inj hz3
    obtain ⟨e4, hz5⟩ := Prod.mk.inj hz4
    obtain ⟨e5, hz6⟩ := Prod.mk.inj hz5
    subst e0
    subst e1
    subst e2
    subst e3
    subst e4
    subst e5
    subst hz6
    exact rm_v hx hb hr hlk hP hS dX3_readSentence_42
def fX3_read_J54 (cTsz : Int32) (cByt : Nat → Int32) (v2_1 : Int32) (wcRcn_2 : Int32) (wcPlc_3 : Int32) (wcFlt_4 : Int32) (wcVil_5 : Int32) (wcWds_6 : Nat → Int32) (wcFst_7 : Nat → Int32) (wcSnd_8 : Nat → Int32) (kk : (Int32 × Int32 × Int32 × Int32 × Int32 × (Nat → Int32) × (Nat → Int32) × (Nat → Int32)) → Option (Int32 × Int32 × Int32 × Int32 × Int32 × (Nat → Int32) × (Nat → Int32) × (Nat → Int32))) : Option (Int32 × Int32 × Int32 × Int32 × Int32 × (Nat → Int32) × (Nat → Int32) × (Nat → Int32)) :=
  ((fX3_readSentence cTsz wcRcn_2 wcPlc_3 wcFlt_4 wcVil_5 cByt wcWds_6 wcFst_7 wcSnd_8).bind fun (qcRcn_9, qcPlc_10, qcFlt_11, qcVil_12, qcWds_13, qcFst_14, qcSnd_15) => ((fX3_skipBlanks cTsz qcPlc_10 cByt).bind fun qcPlc_16 => (kk ((v2_1 + (1 : Int32)), qcRcn_9, qcPlc_16, qcFlt_11, qcVil_12, qcWds_13, qcFst_14, qcSnd_15))))
def fX3_read_L22 (cTsz : Int32) (cByt : Nat → Int32) (kk : (Int32 × Int32 × Int32 × Int32 × Int32 × (Nat → Int32) × (Nat → Int32) × (Nat → Int32)) → Option (Int32 × Int32 × Int32 × Int32 × Int32 × (Nat → Int32) × (Nat → Int32) × (Nat → Int32))) (ww : Int32 × Int32 × Int32 × Int32 × Int32 × (Nat → Int32) × (Nat → Int32) × (Nat → Int32)) : Option (Int32 × Int32 × Int32 × Int32 × Int32 × (Nat → Int32) × (Nat → Int32) × (Nat → Int32)) :=
  match ww with
  | (v2_1, wcRcn_2, wcPlc_3, wcFlt_4, wcVil_5, wcWds_6, wcFst_7, wcSnd_8) => (if (30 : Int32) ≤ v2_1 then (some (v2_1, wcRcn_2, wcPlc_3, wcFlt_4, wcVil_5, wcWds_6, wcFst_7, wcSnd_8)) else (if wcFlt_4 = (-1 : Int32) then (if v2_1 = 0 then (fX3_read_J54 cTsz cByt v2_1 wcRcn_2 wcPlc_3 wcFlt_4 wcVil_5 wcWds_6 wcFst_7 wcSnd_8 kk) else (if cTsz ≤ wcPlc_3 then (some (v2_1, wcRcn_2, wcPlc_3, wcFlt_4, wcVil_5, wcWds_6, wcFst_7, wcSnd_8)) else (fX3_read_J54 cTsz cByt v2_1 wcRcn_2 wcPlc_3 wcFlt_4 wcVil_5 wcWds_6 wcFst_7 wcSnd_8 kk))) else (some (v2_1, wcRcn_2, wcPlc_3, wcFlt_4, wcVil_5, wcWds_6, wcFst_7, wcSnd_8))))
def fX3_read (cTsz : Int32) (cRcn : Int32) (cPlc : Int32) (cFlt : Int32) (cVil : Int32) (cByt : Nat → Int32) (cWds : Nat → Int32) (cFst : Nat → Int32) (cSnd : Nat → Int32) (p0 : Int32) : Option (Int32 × Int32 × Int32 × Int32 × Int32 × (Nat → Int32) × (Nat → Int32) × (Nat → Int32)) :=
  ((lp (fX3_read_L22 cTsz cByt) FU ((0 : Int32), (0 : Int32), (0 : Int32), (-1 : Int32), p0, cWds, cFst, cSnd)).bind fun (ov2_1, owcRcn_2, owcPlc_3, owcFlt_4, owcVil_5, owcWds_6, owcFst_7, owcSnd_8) => (some (owcFlt_4, owcRcn_2, owcPlc_3, owcFlt_4, owcVil_5, owcWds_6, owcFst_7, owcSnd_8)))
set_option maxRecDepth 100000 in
set_option maxHeartbeats 4000000 in
theorem ctX3_read (l : Launch) (D : va_G) (cI cB cZ : ClassId) (ad : Nat → Nat) (zF zS : Nat) (adK adV : Nat → Nat) (A : Nat → Prop) (hAD : AD A ad 20) (cBad cFul cCnt cOpc cStp cTsz cRcn cPlc cFlt cVil cLsz : Int32) (cRts cLns cOpn cGps cTrl cWgt cRch cByt cWds cFst cSnd cSgn : Nat → Int32) (p0 : Int32) (rv : Int32) (zcRcn : Int32) (zcPlc : Int32) (zcFlt : Int32) (zcVil : Int32) (zcWds : Nat → Int32) (zcFst : Nat → Int32) (zcSnd : Nat → Int32) (hf : fX3_read cTsz cRcn cPlc cFlt cVil cByt cWds cFst cSnd p0 = some (rv, zcRcn, zcPlc, zcFlt, zcVil, zcWds, zcFst, zcSnd)) : Met l yX3_read wsX3_read (rmN 8 177) (PF D (tyL cI cB cZ) (wC cI cB cZ ad cBad cFul cCnt cOpc cStp cTsz cRcn cPlc cFlt cVil cLsz cRts cLns cOpn cGps cTrl cWgt cRch cByt cWds cFst cSnd cSgn) zF zS adK adV A [.ref (ad 13), .int p0]) (QI D (wC cI cB cZ ad cBad cFul cCnt cOpc cStp cTsz zcRcn zcPlc zcFlt zcVil cLsz cRts cLns cOpn cGps cTrl cWgt cRch cByt zcWds zcFst zcSnd cSgn) A rv) 0 0 A := by
  refine mk_met cX3_read 3 (some .int) (by decide) rfl (Nat.le_of_ble_eq_true rfl) ?_
  intro p e s m args below meth c ls hx hb hr hlk hml hown hts hPK hl
  obtain ⟨hP, hK, hF⟩ := hPK
  replace hl : lv_has ls 3 [(0, .ref (ad 13)), (1, .int p0)] := hl
  replace hown : s.vm.findClass RX3 = some m.cls := hown
  have hiX3 : ∀ w ∈ wsX30, w ∈ wsX3_read := fun w h => List.mem_cons_of_mem _ (List.mem_append_left _ (List.mem_append_right _ h))
  have hiX5 : ∀ w ∈ wsX50, w ∈ wsX3_read := fun w h => List.mem_cons_of_mem _ (List.mem_append_right _ h)
  have hS : va_S A s.heap s.heap [] := va_S.rf
  unfold fX3_read at hf
  refine lv_aload_n hx hb dX3_read_0 rfl (lv_at hl 0 rfl) ?_
  refine lv_iconst (v := (0 : Int32)) hx hb dX3_read_1 (by decide) ?_
  refine va_put (ci := 3) (v := .int (0 : Int32)) (ty := .int) (C := RX3) (T := TX3) (N := 8) hx hb hts hiX3 tyX3 tyX3_ok nmX3 hown hK hP (wC_D hAD) hS 13 rfl rfl 3 (by decide) (hts _ (List.mem_of_getElem? (i := 1) rfl)) (fun _ h9 => h9) rfl (tyX3_ok 3 (by decide)) rfl rfl (Nat.le_of_ble_eq_true rfl) dX3_read_2 (fun H locs hP _ hS => ?_)
  have hP : va_P D vwCl (wC cI cB cZ ad cBad cFul cCnt cOpc cStp cTsz (0 : Int32) cPlc cFlt cVil cLsz cRts cLns cOpn cGps cTrl cWgt cRch cByt cWds cFst cSnd cSgn) H := hP
  refine lv_aload_n hx hb dX3_read_5 rfl (lv_at hl 0 rfl) ?_
  refine lv_iconst (v := (0 : Int32)) hx hb dX3_read_6 (by decide) ?_
  refine va_put (ci := 3) (v := .int (0 : Int32)) (ty := .int) (C := RX3) (T := TX3) (N := 8) hx hb hts hiX3 tyX3 tyX3_ok nmX3 hown hK hP (wC_D hAD) hS 13 rfl rfl 5 (by decide) (hts _ (List.mem_of_getElem? (i := 2) rfl)) (fun _ h9 => h9) rfl (tyX3_ok 5 (by decide)) rfl rfl (Nat.le_of_ble_eq_true rfl) dX3_read_7 (fun H locs hP _ hS => ?_)
  have hP : va_P D vwCl (wC cI cB cZ ad cBad cFul cCnt cOpc cStp cTsz (0 : Int32) (0 : Int32) cFlt cVil cLsz cRts cLns cOpn cGps cTrl cWgt cRch cByt cWds cFst cSnd cSgn) H := hP
  refine lv_aload_n hx hb dX3_read_10 rfl (lv_at hl 0 rfl) ?_
  refine lv_iconst (v := (-1 : Int32)) hx hb dX3_read_11 (by decide) ?_
  refine va_put (ci := 3) (v := .int (-1 : Int32)) (ty := .int) (C := RX3) (T := TX3) (N := 8) hx hb hts hiX3 tyX3 tyX3_ok nmX3 hown hK hP (wC_D hAD) hS 13 rfl rfl 6 (by decide) (hts _ (List.mem_of_getElem? (i := 3) rfl)) (fun _ h9 => h9) rfl (tyX3_ok 6 (by decide)) rfl rfl (Nat.le_of_ble_eq_true rfl) dX3_read_12 (fun H locs hP _ hS => ?_)
  have hP : va_P D vwCl (wC cI cB cZ ad cBad cFul cCnt cOpc cStp cTsz (0 : Int32) (0 : Int32) (-1 : Int32) cVil cLsz cRts cLns cOpn cGps cTrl cWgt cRch cByt cWds cFst cSnd cSgn) H := hP
  refine lv_aload_n hx hb dX3_read_15 rfl (lv_at hl 0 rfl) ?_
  refine lv_iload_n hx hb dX3_read_16 rfl (lv_at hl 1 rfl) ?_
  refine va_put (ci := 3) (v := .int p0) (ty := .int) (C := RX3) (T := TX3) (N := 8) hx hb hts hiX3 tyX3 tyX3_ok nmX3 hown hK hP (wC_D hAD) hS 13 rfl rfl 7 (by decide) (hts _ (List.mem_of_getElem? (i := 4) rfl)) (fun _ h9 => h9) rfl (tyX3_ok 7 (by decide)) rfl rfl (Nat.le_of_ble_eq_true rfl) dX3_read_17 (fun H locs hP _ hS => ?_)
  have hP : va_P D vwCl (wC cI cB cZ ad cBad cFul cCnt cOpc cStp cTsz (0 : Int32) (0 : Int32) (-1 : Int32) p0 cLsz cRts cLns cOpn cGps cTrl cWgt cRch cByt cWds cFst cSnd cSgn) H := hP
  refine lv_iconst (v := (0 : Int32)) hx hb dX3_read_20 (by decide) ?_
  refine lv_istore_n (lv' := [(2, .int (0 : Int32)), (0, .ref (ad 13)), (1, .int p0)]) hx hb dX3_read_21 rfl hl (by decide) rfl (fun ls hl => ?_)
  have hL22 : ∀ (n : Nat) (v2_1 : Int32) (wcRcn_2 : Int32) (wcPlc_3 : Int32) (wcFlt_4 : Int32) (wcVil_5 : Int32) (wcWds_6 : Nat → Int32) (wcFst_7 : Nat → Int32) (wcSnd_8 : Nat → Int32) (ov2_1 : Int32) (owcRcn_2 : Int32) (owcPlc_3 : Int32) (owcFlt_4 : Int32) (owcVil_5 : Int32) (owcWds_6 : Nat → Int32) (owcFst_7 : Nat → Int32) (owcSnd_8 : Nat → Int32) (H : Heap) (locs : List Loc) (ls : Array Slot), lp (fX3_read_L22 cTsz cByt) n (v2_1, wcRcn_2, wcPlc_3, wcFlt_4, wcVil_5, wcWds_6, wcFst_7, wcSnd_8) = some (ov2_1, owcRcn_2, owcPlc_3, owcFlt_4, owcVil_5, owcWds_6, owcFst_7, owcSnd_8) → va_P D vwCl (wC cI cB cZ ad cBad cFul cCnt cOpc cStp cTsz wcRcn_2 wcPlc_3 wcFlt_4 wcVil_5 cLsz cRts cLns cOpn cGps cTrl cWgt cRch cByt wcWds_6 wcFst_7 wcSnd_8 cSgn) H → va_S A s.heap H locs → lv_has ls 3 [(0, .ref (ad 13)), (1, .int p0), (2, .int v2_1)] → (∀ (H : Heap) (locs : List Loc) (ls : Array Slot), va_P D vwCl (wC cI cB cZ ad cBad cFul cCnt cOpc cStp cTsz owcRcn_2 owcPlc_3 owcFlt_4 owcVil_5 cLsz cRts cLns cOpn cGps cTrl cWgt cRch cByt owcWds_6 owcFst_7 owcSnd_8 cSgn) H → va_S A s.heap H locs → lv_has ls 3 [(0, .ref (ad 13)), (1, .int p0), (2, .int ov2_1)] → W p l e (rmN 8 177) s m args below meth c H locs 0 0 (MQ below (QI D (wC cI cB cZ ad cBad cFul cCnt cOpc cStp cTsz zcRcn zcPlc zcFlt zcVil cLsz cRts cLns cOpn cGps cTrl cWgt cRch cByt zcWds zcFst zcSnd cSgn) A rv) args s 0 0 A) (F0 m 68 ls [])) → W p l e (rmN 8 177) s m args below meth c H locs 0 0 (MQ below (QI D (wC cI cB cZ ad cBad cFul cCnt cOpc cStp cTsz zcRcn zcPlc zcFlt zcVil cLsz cRts cLns cOpn cGps cTrl cWgt cRch cByt zcWds zcFst zcSnd cSgn) A rv) args s 0 0 A) (F0 m 22 ls []) := by
    intro n
    induction n with
    | zero => intro v2_1 wcRcn_2 wcPlc_3 wcFlt_4 wcVil_5 wcWds_6 wcFst_7 wcSnd_8 ov2_1 owcRcn_2 owcPlc_3 owcFlt_4 owcVil_5 owcWds_6 owcFst_7 owcSnd_8 H locs ls hf; exact (lp_0 hf).elim
    | succ n ih =>
      intro v2_1 wcRcn_2 wcPlc_3 wcFlt_4 wcVil_5 wcWds_6 wcFst_7 wcSnd_8 ov2_1 owcRcn_2 owcPlc_3 owcFlt_4 owcVil_5 owcWds_6 owcFst_7 owcSnd_8 H locs ls hf hP hS hl hE
      replace hf := lp_s hf
      dsimp only [fX3_read_L22] at hf
      refine lv_iload_n hx hb dX3_read_22 rfl (lv_at hl 2 rfl) ?_
      refine lv_bipush (v := (30 : Int32)) hx hb dX3_read_23 (by decide) ?_
      refine lv_icmp_ge (tgt := 68) hx hb dX3_read_25 (by decide) (fun hc => ?_) (fun hc => ?_)
      · replace hf := (if_pos hc).symm.trans hf
        cases hf
        exact hE _ _ _ hP hS (lv_sub hl [0, 1, 2] rfl)
      · replace hf := (if_neg hc).symm.trans hf
        refine lv_aload_n hx hb dX3_read_28 rfl (lv_at hl 0 rfl) ?_
        refine va_get (ci := 3) (v := .int wcFlt_4) (C := RX3) (T := TX3) (N := 8) hx hb hts hiX3 hown hK hP 13 rfl rfl 6 (by decide) (hts _ (List.mem_of_getElem? (i := 3) rfl)) (fun _ h9 => h9) rfl dX3_read_29 ?_
        refine lv_iconst (v := (-1 : Int32)) hx hb dX3_read_32 (by decide) ?_
        refine lv_icmp_ne (tgt := 68) hx hb dX3_read_33 (by decide) (fun hc => ?_) (fun hc => ?_)
        · replace hf := (if_neg hc).symm.trans hf
          cases hf
          exact hE _ _ _ hP hS (lv_sub hl [0, 1, 2] rfl)
        · replace hf := (if_pos hc).symm.trans hf
          refine lv_iload_n hx hb dX3_read_36 rfl (lv_at hl 2 rfl) ?_
          have hJ54 : ∀  (H : Heap) (locs : List Loc) (ls : Array Slot), fX3_read_J54 cTsz cByt v2_1 wcRcn_2 wcPlc_3 wcFlt_4 wcVil_5 wcWds_6 wcFst_7 wcSnd_8 (lp (fX3_read_L22 cTsz cByt) n) = some (ov2_1, owcRcn_2, owcPlc_3, owcFlt_4, owcVil_5, owcWds_6, owcFst_7, owcSnd_8) → va_P D vwCl (wC cI cB cZ ad cBad cFul cCnt cOpc cStp cTsz wcRcn_2 wcPlc_3 wcFlt_4 wcVil_5 cLsz cRts cLns cOpn cGps cTrl cWgt cRch cByt wcWds_6 wcFst_7 wcSnd_8 cSgn) H → va_S A s.heap H locs → lv_has ls 3 [(0, .ref (ad 13)), (1, .int p0), (2, .int v2_1)] → W p l e (rmN 8 177) s m args below meth c H locs 0 0 (MQ below (QI D (wC cI cB cZ ad cBad cFul cCnt cOpc cStp cTsz zcRcn zcPlc zcFlt zcVil cLsz cRts cLns cOpn cGps cTrl cWgt cRch cByt zcWds zcFst zcSnd cSgn) A rv) args s 0 0 A) (F0 m 54 ls []) := by
            intro  H locs ls hf hP hS hl
            unfold fX3_read_J54 at hf
            refine lv_aload_n hx hb dX3_read_54 rfl (lv_at hl 0 rfl) ?_
            obtain ⟨⟨qcRcn_9, qcPlc_10, qcFlt_11, qcVil_12, qcWds_13, qcFst_14, qcSnd_15⟩, hq, hf⟩ := ob hf
            try dsimp only at hf
            refine fcVv 13 3 (As := []) (rest := []) ⟨hx, hb, hml, hown, hts⟩ (ctX3_readSentence l D cI cB cZ ad zF zS adK adV A hAD cBad cFul cCnt cOpc cStp cTsz wcRcn_2 wcPlc_3 wcFlt_4 wcVil_5 cLsz cRts cLns cOpn cGps cTrl cWgt cRch cByt wcWds_6 wcFst_7 wcSnd_8 cSgn  qcRcn_9 qcPlc_10 qcFlt_11 qcVil_12 qcWds_13 qcFst_14 qcSnd_15 hq) (cwV 0 hts gX3_read_X3_readSentence rfl rfl rfl (by decide +kernel) ⟨Nat.le_of_ble_eq_true rfl, Nat.le_of_ble_eq_true rfl⟩) hK hP hF hS rfl rfl rfl hl.1 rfl (Nat.le_of_ble_eq_true rfl) dX3_read_55 ⟨Nat.zero_le _, Nat.zero_le _⟩ (fun H locs hP hS => ?_)
            refine lv_aload_n hx hb dX3_read_58 rfl (lv_at hl 0 rfl) ?_
            obtain ⟨qcPlc_16, hq, hf⟩ := ob hf
            try dsimp only at hf
            refine mcVv 13 3 (As := []) (rest := []) ⟨hx, hb, hml, hown, hts⟩ (ctX3_skipBlanks l D cI cB cZ ad A hAD cBad cFul cCnt cOpc cStp cTsz qcRcn_9 qcPlc_10 qcFlt_11 qcVil_12 cLsz cRts cLns cOpn cGps cTrl cWgt cRch cByt qcWds_13 qcFst_14 qcSnd_15 cSgn  qcPlc_16 hq) (cwV 0 hts gX3_read_X3_skipBlanks rfl rfl rfl (by decide +kernel) ⟨Nat.le_of_ble_eq_true rfl, Nat.le_of_ble_eq_true rfl⟩) hK hP hS rfl rfl rfl hl.1 rfl (Nat.le_of_ble_eq_true rfl) dX3_read_59 ⟨Nat.zero_le _, Nat.zero_le _⟩ (fun H locs hP hS => ?_)
            refine lv_iinc (v := (v2_1 + (1 : Int32))) (lv' := [(2, .int (v2_1 + (1 : Int32))), (0, .ref (ad 13)), (1, .int p0)]) hx hb dX3_read_62 hl (k := 2) rfl rfl (by decide) rfl (fun ls hl => ?_)
            refine lv_goto (tgt := 22) hx hb dX3_read_65 (by decide) ?_
            exact ih _ _ _ _ _ _ _ _ _ _ _ _ _ _ _ _ _ _ _ hf hP hS (lv_sub hl [1, 2, 0] rfl) hE
          refine lv_if_eq (tgt := 54) hx hb dX3_read_37 (by decide) (fun hc => ?_) (fun hc => ?_)
          · replace hf := (if_pos hc).symm.trans hf
            exact hJ54  _ _ _ hf hP hS (lv_sub hl [0, 1, 2] rfl)
          · replace hf := (if_neg hc).symm.trans hf
            refine lv_aload_n hx hb dX3_read_40 rfl (lv_at hl 0 rfl) ?_
            refine va_get (ci := 3) (v := .int wcPlc_3) (C := RX3) (T := TX3) (N := 8) hx hb hts hiX3 hown hK hP 13 rfl rfl 5 (by decide) (hts _ (List.mem_of_getElem? (i := 2) rfl)) (fun _ h9 => h9) rfl dX3_read_41 ?_
            refine lv_aload_n hx hb dX3_read_44 rfl (lv_at hl 0 rfl) ?_
            refine va_get (ci := 3) (v := .ref (ad 11)) (C := RX3) (T := TX3) (N := 8) hx hb hts hiX3 hown hK hP 13 rfl rfl 4 (by decide) (hts _ (List.mem_of_getElem? (i := 5) rfl)) (fun _ h9 => h9) rfl dX3_read_45 ?_
            refine va_get (ci := 5) (v := .int cTsz) (C := RX5) (T := TX5) (N := 2) hx hb hts hiX5 hown hK hP 11 rfl rfl 1 (by decide) (hts _ (List.mem_of_getElem? (i := 6) rfl)) (fun _ h9 => h9) rfl dX3_read_48 ?_
            refine lv_icmp_ge (tgt := 68) hx hb dX3_read_51 (by decide) (fun hc => ?_) (fun hc => ?_)
            · replace hf := (if_pos hc).symm.trans hf
              cases hf
              exact hE _ _ _ hP hS (lv_sub hl [0, 1, 2] rfl)
            · replace hf := (if_neg hc).symm.trans hf
              exact hJ54  _ _ _ hf hP hS (lv_sub hl [0, 1, 2] rfl)
  obtain ⟨⟨ov2_1, owcRcn_2, owcPlc_3, owcFlt_4, owcVil_5, owcWds_6, owcFst_7, owcSnd_8⟩, hq, hf⟩ := ob hf
  try dsimp only at hf
  refine hL22 FU _ _ _ _ _ _ _ _ ov2_1 owcRcn_2 owcPlc_3 owcFlt_4 owcVil_5 owcWds_6 owcFst_7 owcSnd_8 _ _ ls hq hP hS (lv_sub hl [1, 2, 0] rfl) (fun H locs ls hP hS hl => ?_)
  refine lv_aload_n hx hb dX3_read_68 rfl (lv_at hl 0 rfl) ?_
  refine va_get (ci := 3) (v := .int owcFlt_4) (C := RX3) (T := TX3) (N := 8) hx hb hts hiX3 hown hK hP 13 rfl rfl 6 (by decide) (hts _ (List.mem_of_getElem? (i := 3) rfl)) (fun _ h9 => h9) rfl dX3_read_69 ?_
  obtain ⟨e0, hz1⟩ := Prod.mk.inj (Option.some.inj hf)
  obtain ⟨e1, hz2⟩ := Prod.mk.inj hz1
  obtain ⟨e2, hz3⟩ := Prod.mk.inj hz2
  obtain ⟨e3, hz4⟩ := Prod.mk.inj hz3
  obtain ⟨e4, hz5⟩ := Prod.mk.inj hz4
  obtain ⟨e5, hz6⟩ := Prod.mk.inj hz5
  obtain ⟨e6, hz7⟩ := Prod.mk.inj hz6
  subst e0
  subst e1
  subst e2
  subst e3
  subst e4
  subst e5
  subst e6
  subst hz7
  exact rm_i hx hb hr hlk hP hS dX3_read_72
def fX8_says_J58 (qcWds_6 : Nat → Int32) (qcFst_7 : Nat → Int32) (qcSnd_8 : Nat → Int32) (v2_10 : Int32) (wcCnt_11 : Int32) (wcOpc_12 : Int32) (wcStp_13 : Int32) (wcRts_15 : Nat → Int32) (wcLns_16 : Nat → Int32) (wcOpn_17 : Nat → Int32) (wcGps_18 : Nat → Int32) (wcTrl_19 : Nat → Int32) (kk : (Int32 × Int32 × Int32 × Int32 × Int32 × (Nat → Int32) × (Nat → Int32) × (Nat → Int32) × (Nat → Int32) × (Nat → Int32) × (Nat → Int32)) → Option (Int32 × Int32 × Int32 × Int32 × Int32 × (Nat → Int32) × (Nat → Int32) × (Nat → Int32) × (Nat → Int32) × (Nat → Int32) × (Nat → Int32))) (wcLsz_21 : Int32) (wcSgn_22 : Nat → Int32) : Option (Int32 × Int32 × Int32 × Int32 × Int32 × (Nat → Int32) × (Nat → Int32) × (Nat → Int32) × (Nat → Int32) × (Nat → Int32) × (Nat → Int32)) :=
  (if gI v2_10 30 then (if gI v2_10 30 then (if gI v2_10 30 then ((fX4_tell wcCnt_11 wcOpc_12 wcStp_13 wcLsz_21 wcRts_15 wcLns_16 wcOpn_17 wcGps_18 wcTrl_19 wcSgn_22 (qcWds_6 (v2_10).toNatClampNeg) (qcFst_7 (v2_10).toNatClampNeg) (qcSnd_8 (v2_10).toNatClampNeg)).bind fun (qcCnt_23, qcOpc_24, qcStp_25, qcLsz_26, qcRts_27, qcLns_28, qcOpn_29, qcGps_30, qcTrl_31, qcSgn_32) => (kk ((v2_10 + (1 : Int32)), qcCnt_23, qcOpc_24, qcStp_25, qcLsz_26, qcRts_27, qcLns_28, qcOpn_29, qcGps_30, qcTrl_31, qcSgn_32))) else none) else none) else none)
def fX8_says_L34 (qcRcn_2 : Int32) (qcWds_6 : Nat → Int32) (qcFst_7 : Nat → Int32) (qcSnd_8 : Nat → Int32) (kk : (Int32 × Int32 × Int32 × Int32 × Int32 × (Nat → Int32) × (Nat → Int32) × (Nat → Int32) × (Nat → Int32) × (Nat → Int32) × (Nat → Int32)) → Option (Int32 × Int32 × Int32 × Int32 × Int32 × (Nat → Int32) × (Nat → Int32) × (Nat → Int32) × (Nat → Int32) × (Nat → Int32) × (Nat → Int32))) (ww : Int32 × Int32 × Int32 × Int32 × Int32 × (Nat → Int32) × (Nat → Int32) × (Nat → Int32) × (Nat → Int32) × (Nat → Int32) × (Nat → Int32)) : Option (Int32 × Int32 × Int32 × Int32 × Int32 × (Nat → Int32) × (Nat → Int32) × (Nat → Int32) × (Nat → Int32) × (Nat → Int32) × (Nat → Int32)) :=
  match ww with
  | (v2_10, wcCnt_11, wcOpc_12, wcStp_13, wcLsz_14, wcRts_15, wcLns_16, wcOpn_17, wcGps_18, wcTrl_19, wcSgn_20) => (if qcRcn_2 ≤ v2_10 then (some (v2_10, wcCnt_11, wcOpc_12, wcStp_13, wcLsz_14, wcRts_15, wcLns_16, wcOpn_17, wcGps_18, wcTrl_19, wcSgn_20)) else (if v2_10 ≤ 0 then (fX8_says_J58 qcWds_6 qcFst_7 qcSnd_8 v2_10 wcCnt_11 wcOpc_12 wcStp_13 wcRts_15 wcLns_16 wcOpn_17 wcGps_18 wcTrl_19 kk wcLsz_14 wcSgn_20) else ((fX2_put wcLsz_14 wcSgn_20 (32 : Int32)).bind fun (qcLsz_33, qcSgn_34) => (fX8_says_J58 qcWds_6 qcFst_7 qcSnd_8 v2_10 wcCnt_11 wcOpc_12 wcStp_13 wcRts_15 wcLns_16 wcOpn_17 wcGps_18 wcTrl_19 kk qcLsz_33 qcSgn_34))))
def fX8_says (cCnt : Int32) (cOpc : Int32) (cStp : Int32) (cTsz : Int32) (cRcn : Int32) (cPlc : Int32) (cFlt : Int32) (cVil : Int32) (cLsz : Int32) (cRts : Nat → Int32) (cLns : Nat → Int32) (cOpn : Nat → Int32) (cGps : Nat → Int32) (cTrl : Nat → Int32) (cByt : Nat → Int32) (cWds : Nat → Int32) (cFst : Nat → Int32) (cSnd : Nat → Int32) (cSgn : Nat → Int32)  : Option (Int32 × Int32 × Int32 × Int32 × Int32 × Int32 × Int32 × Int32 × Int32 × (Nat → Int32) × (Nat → Int32) × (Nat → Int32) × (Nat → Int32) × (Nat → Int32) × (Nat → Int32) × (Nat → Int32) × (Nat → Int32) × (Nat → Int32)) :=
  ((fX3_read cTsz cRcn cPlc cFlt cVil cByt cWds cFst cSnd cCnt).bind fun (r_1, qcRcn_2, qcPlc_3, qcFlt_4, qcVil_5, qcWds_6, qcFst_7, qcSnd_8) => (if r_1 = (-1 : Int32) then ((fX2_empty cLsz).bind fun qcLsz_9 => ((lp (fX8_says_L34 qcRcn_2 qcWds_6 qcFst_7 qcSnd_8) FU ((0 : Int32), cCnt, cOpc, cStp, qcLsz_9, cRts, cLns, cOpn, cGps, cTrl, cSgn)).bind fun (ov2_10, owcCnt_11, owcOpc_12, owcStp_13, owcLsz_14, owcRts_15, owcLns_16, owcOpn_17, owcGps_18, owcTrl_19, owcSgn_20) => (some (qcRcn_2, owcCnt_11, owcOpc_12, owcStp_13, qcRcn_2, qcPlc_3, qcFlt_4, qcVil_5, owcLsz_14, owcRts_15, owcLns_16, owcOpn_17, owcGps_18, owcTrl_19, qcWds_6, qcFst_7, qcSnd_8, owcSgn_20)))) else (some (((-10 : Int32) - r_1), cCnt, cOpc, cStp, qcRcn_2, qcPlc_3, qcFlt_4, qcVil_5, cLsz, cRts, cLns, cOpn, cGps, cTrl, qcWds_6, qcFst_7, qcSnd_8, cSgn))))
set_option maxRecDepth 100000 in
set_option maxHeartbeats 4000000 in
theorem ctX8_says (l : Launch) (D : va_G) (cI cB cZ : ClassId) (ad : Nat → Nat) (zF zS : Nat) (adK adV : Nat → Nat) (A : Nat → Prop) (hAD : AD A ad 20) (cBad cFul cCnt cOpc cStp cTsz cRcn cPlc cFlt cVil cLsz : Int32) (cRts cLns cOpn cGps cTrl cWgt cRch cByt cWds cFst cSnd cSgn : Nat → Int32)  (rv : Int32) (zcCnt : Int32) (zcOpc : Int32) (zcStp : Int32) (zcRcn : Int32) (zcPlc : Int32) (zcFlt : Int32) (zcVil : Int32) (zcLsz : Int32) (zcRts : Nat → Int32) (zcLns : Nat → Int32) (zcOpn : Nat → Int32) (zcGps : Nat → Int32) (zcTrl : Nat → Int32) (zcWds : Nat → Int32) (zcFst : Nat → Int32) (zcSnd : Nat → Int32) (zcSgn : Nat → Int32) (hf : fX8_says cCnt cOpc cStp cTsz cRcn cPlc cFlt cVil cLsz cRts cLns cOpn cGps cTrl cByt cWds cFst cSnd cSgn = some (rv, zcCnt, zcOpc, zcStp, zcRcn, zcPlc, zcFlt, zcVil, zcLsz, zcRts, zcLns, zcOpn, zcGps, zcTrl, zcWds, zcFst, zcSnd, zcSgn)) : Met l yX8_says wsX8_says (rmN 9 199) (PF D (tyL cI cB cZ) (wC cI cB cZ ad cBad cFul cCnt cOpc cStp cTsz cRcn cPlc cFlt cVil cLsz cRts cLns cOpn cGps cTrl cWgt cRch cByt cWds cFst cSnd cSgn) zF zS adK adV A [.ref (ad 0)]) (QI D (wC cI cB cZ ad cBad cFul zcCnt zcOpc zcStp cTsz zcRcn zcPlc zcFlt zcVil zcLsz zcRts zcLns zcOpn zcGps zcTrl cWgt cRch cByt zcWds zcFst zcSnd zcSgn) A rv) 0 0 A := by
  refine mk_met cX8_says 3 (some .int) (by decide) rfl (Nat.le_of_ble_eq_true rfl) ?_
  intro p e s m args below meth c ls hx hb hr hlk hml hown hts hPK hl
  obtain ⟨hP, hK, hF⟩ := hPK
  replace hl : lv_has ls 3 [(0, .ref (ad 0))] := hl
  replace hown : s.vm.findClass RX8 = some m.cls := hown
  have hiX1 : ∀ w ∈ wsX10, w ∈ wsX8_says := fun w h => List.mem_cons_of_mem _ (List.mem_append_left _ (List.mem_append_left _ (List.mem_append_left _ (List.mem_append_left _ (List.mem_append_left _ (List.mem_append_left _ (List.mem_append_right _ h)))))))
  have hiX3 : ∀ w ∈ wsX30, w ∈ wsX8_says := fun w h => List.mem_cons_of_mem _ (List.mem_append_left _ (List.mem_append_left _ (List.mem_append_left _ (List.mem_append_left _ (List.mem_append_left _ (List.mem_append_right _ h))))))
  have hiX8 : ∀ w ∈ wsX80, w ∈ wsX8_says := fun w h => List.mem_cons_of_mem _ (List.mem_append_left _ (List.mem_append_left _ (List.mem_append_left _ (List.mem_append_left _ (List.mem_append_left _ (List.mem_append_left _ (List.mem_append_left _ (List.mem_append_right _ h))))))))
  have hS : va_S A s.heap s.heap [] := va_S.rf
  unfold fX8_says at hf
  refine lv_aload_n hx hb dX8_says_0 rfl (lv_at hl 0 rfl) ?_
  refine va_get (ci := 7) (v := .ref (ad 13)) (C := RX8) (T := TX8) (N := 9) hx hb hts hiX8 hown hK hP 0 rfl rfl 4 (by decide) (hts _ (List.mem_of_getElem? (i := 1) rfl)) (fun _ h9 => h9) rfl dX8_says_1 ?_
  refine lv_aload_n hx hb dX8_says_4 rfl (lv_at hl 0 rfl) ?_
  refine va_get (ci := 7) (v := .ref (ad 1)) (C := RX8) (T := TX8) (N := 9) hx hb hts hiX8 hown hK hP 0 rfl rfl 0 (by decide) (hts _ (List.mem_of_getElem? (i := 2) rfl)) (fun _ h9 => h9) rfl dX8_says_5 ?_
  refine va_get (ci := 1) (v := .int cCnt) (C := RX1) (T := TX1) (N := 6) hx hb hts hiX1 hown hK hP 1 rfl rfl 4 (by decide) (hts _ (List.mem_of_getElem? (i := 3) rfl)) (fun _ h9 => h9) rfl dX8_says_8 ?_
  obtain ⟨⟨r_1, qcRcn_2, qcPlc_3, qcFlt_4, qcVil_5, qcWds_6, qcFst_7, qcSnd_8⟩, hq, hf⟩ := ob hf
  try dsimp only at hf
  refine fcVi 13 3 (As := [.int cCnt]) (rest := []) ⟨hx, hb, hml, hown, hts⟩ (ctX3_read l D cI cB cZ ad zF zS adK adV A hAD cBad cFul cCnt cOpc cStp cTsz cRcn cPlc cFlt cVil cLsz cRts cLns cOpn cGps cTrl cWgt cRch cByt cWds cFst cSnd cSgn cCnt r_1 qcRcn_2 qcPlc_3 qcFlt_4 qcVil_5 qcWds_6 qcFst_7 qcSnd_8 hq) (cwV 1 hts gX8_says_X3_read rfl rfl rfl (by decide +kernel) ⟨Nat.le_of_ble_eq_true rfl, Nat.le_of_ble_eq_true rfl⟩) hK hP hF hS rfl rfl rfl hl.1 rfl (Nat.le_of_ble_eq_true rfl) dX8_says_11 ⟨Nat.zero_le _, Nat.zero_le _⟩ (fun H locs hP hS => ?_)
  refine lv_istore_n (lv' := [(1, .int r_1), (0, .ref (ad 0))]) hx hb dX8_says_14 rfl hl (by decide) rfl (fun ls hl => ?_)
  refine lv_iload_n hx hb dX8_says_15 rfl (lv_at hl 0 rfl) ?_
  refine lv_iconst (v := (-1 : Int32)) hx hb dX8_says_16 (by decide) ?_
  refine lv_icmp_eq (tgt := 25) hx hb dX8_says_17 (by decide) (fun hc => ?_) (fun hc => ?_)
  · replace hf := (if_pos hc).symm.trans hf
    refine lv_aload_n hx hb dX8_says_25 rfl (lv_at hl 1 rfl) ?_
    refine va_get (ci := 7) (v := .ref (ad 17)) (C := RX8) (T := TX8) (N := 9) hx hb hts hiX8 hown hK hP 0 rfl rfl 5 (by decide) (hts _ (List.mem_of_getElem? (i := 4) rfl)) (fun _ h9 => h9) rfl dX8_says_26 ?_
    obtain ⟨qcLsz_9, hq, hf⟩ := ob hf
    try dsimp only at hf
    refine mcVv 17 2 (As := []) (rest := []) ⟨hx, hb, hml, hown, hts⟩ (ctX2_empty l D cI cB cZ ad A hAD cBad cFul cCnt cOpc cStp cTsz qcRcn_2 qcPlc_3 qcFlt_4 qcVil_5 cLsz cRts cLns cOpn cGps cTrl cWgt cRch cByt qcWds_6 qcFst_7 qcSnd_8 cSgn  qcLsz_9 hq) (cwV 0 hts gX8_says_X2_empty rfl rfl rfl (by decide +kernel) ⟨Nat.le_of_ble_eq_true rfl, Nat.le_of_ble_eq_true rfl⟩) hK hP hS rfl rfl rfl hl.1 rfl (Nat.le_of_ble_eq_true rfl) dX8_says_29 ⟨Nat.zero_le _, Nat.zero_le _⟩ (fun H locs hP hS => ?_)
    refine lv_iconst (v := (0 : Int32)) hx hb dX8_says_32 (by decide) ?_
    refine lv_istore_n (lv' := [(2, .int (0 : Int32)), (1, .int r_1), (0, .ref (ad 0))]) hx hb dX8_says_33 rfl hl (by decide) rfl (fun ls hl => ?_)
    have hL34 : ∀ (n : Nat) (v2_10 : Int32) (wcCnt_11 : Int32) (wcOpc_12 : Int32) (wcStp_13 : Int32) (wcLsz_14 : Int32) (wcRts_15 : Nat → Int32) (wcLns_16 : Nat → Int32) (wcOpn_17 : Nat → Int32) (wcGps_18 : Nat → Int32) (wcTrl_19 : Nat → Int32) (wcSgn_20 : Nat → Int32) (ov2_10 : Int32) (owcCnt_11 : Int32) (owcOpc_12 : Int32) (owcStp_13 : Int32) (owcLsz_14 : Int32) (owcRts_15 : Nat → Int32) (owcLns_16 : Nat → Int32) (owcOpn_17 : Nat → Int32) (owcGps_18 : Nat → Int32) (owcTrl_19 : Nat → Int32) (owcSgn_20 : Nat → Int32) (H : Heap) (locs : List Loc) (ls : Array Slot), lp (fX8_says_L34 qcRcn_2 qcWds_6 qcFst_7 qcSnd_8) n (v2_10, wcCnt_11, wcOpc_12, wcStp_13, wcLsz_14, wcRts_15, wcLns_16, wcOpn_17, wcGps_18, wcTrl_19, wcSgn_20) = some (ov2_10, owcCnt_11, owcOpc_12, owcStp_13, owcLsz_14, owcRts_15, owcLns_16, owcOpn_17, owcGps_18, owcTrl_19, owcSgn_20) → va_P D vwCl (wC cI cB cZ ad cBad cFul wcCnt_11 wcOpc_12 wcStp_13 cTsz qcRcn_2 qcPlc_3 qcFlt_4 qcVil_5 wcLsz_14 wcRts_15 wcLns_16 wcOpn_17 wcGps_18 wcTrl_19 cWgt cRch cByt qcWds_6 qcFst_7 qcSnd_8 wcSgn_20) H → va_S A s.heap H locs → lv_has ls 3 [(0, .ref (ad 0)), (1, .int r_1), (2, .int v2_10)] → (∀ (H : Heap) (locs : List Loc) (ls : Array Slot), va_P D vwCl (wC cI cB cZ ad cBad cFul owcCnt_11 owcOpc_12 owcStp_13 cTsz qcRcn_2 qcPlc_3 qcFlt_4 qcVil_5 owcLsz_14 owcRts_15 owcLns_16 owcOpn_17 owcGps_18 owcTrl_19 cWgt cRch cByt qcWds_6 qcFst_7 qcSnd_8 owcSgn_20) H → va_S A s.heap H locs → lv_has ls 3 [(0, .ref (ad 0)), (1, .int r_1), (2, .int ov2_10)] → W p l e (rmN 9 199) s m args below meth c H locs 0 0 (MQ below (QI D (wC cI cB cZ ad cBad cFul zcCnt zcOpc zcStp cTsz zcRcn zcPlc zcFlt zcVil zcLsz zcRts zcLns zcOpn zcGps zcTrl cWgt cRch cByt zcWds zcFst zcSnd zcSgn) A rv) args s 0 0 A) (F0 m 98 ls [])) → W p l e (rmN 9 199) s m args below meth c H locs 0 0 (MQ below (QI D (wC cI cB cZ ad cBad cFul zcCnt zcOpc zcStp cTsz zcRcn zcPlc zcFlt zcVil zcLsz zcRts zcLns zcOpn zcGps zcTrl cWgt cRch cByt zcWds zcFst zcSnd zcSgn) A rv) args s 0 0 A) (F0 m 34 ls []) := by
      intro n
      induction n with
      | zero => intro v2_10 wcCnt_11 wcOpc_12 wcStp_13 wcLsz_14 wcRts_15 wcLns_16 wcOpn_17 wcGps_18 wcTrl_19 wcSgn_20 ov2_10 owcCnt_11 owcOpc_12 owcStp_13 owcLsz_14 owcRts_15 owcLns_16 owcOpn_17 owcGps_18 owcTrl_19 owcSgn_20 H locs ls hf; exact (lp_0 hf).elim
      | succ n ih =>
        intro v2_10 wcCnt_11 wcOpc_12 wcStp_13 wcLsz_14 wcRts_15 wcLns_16 wcOpn_17 wcGps_18 wcTrl_19 wcSgn_20 ov2_10 owcCnt_11 owcOpc_12 owcStp_13 owcLsz_14 owcRts_15 owcLns_16 owcOpn_17 owcGps_18 owcTrl_19 owcSgn_20 H locs ls hf hP hS hl hE
        replace hf := lp_s hf
        dsimp only [fX8_says_L34] at hf
        refine lv_iload_n hx hb dX8_says_34 rfl (lv_at hl 2 rfl) ?_
        refine lv_aload_n hx hb dX8_says_35 rfl (lv_at hl 0 rfl) ?_
        refine va_get (ci := 7) (v := .ref (ad 13)) (C := RX8) (T := TX8) (N := 9) hx hb hts hiX8 hown hK hP 0 rfl rfl 4 (by decide) (hts _ (List.mem_of_getElem? (i := 1) rfl)) (fun _ h9 => h9) rfl dX8_says_36 ?_
        refine va_get (ci := 3) (v := .int qcRcn_2) (C := RX3) (T := TX3) (N := 8) hx hb hts hiX3 hown hK hP 13 rfl rfl 3 (by decide) (hts _ (List.mem_of_getElem? (i := 5) rfl)) (fun _ h9 => h9) rfl dX8_says_39 ?_
        refine lv_icmp_ge (tgt := 98) hx hb dX8_says_42 (by decide) (fun hc => ?_) (fun hc => ?_)
        · replace hf := (if_pos hc).symm.trans hf
          cases hf
          exact hE _ _ _ hP hS (lv_sub hl [0, 1, 2] rfl)
        · replace hf := (if_neg hc).symm.trans hf
          refine lv_iload_n hx hb dX8_says_45 rfl (lv_at hl 2 rfl) ?_
          have hJ58 : ∀ (wcLsz_21 : Int32) (wcSgn_22 : Nat → Int32) (H : Heap) (locs : List Loc) (ls : Array Slot), fX8_says_J58 qcWds_6 qcFst_7 qcSnd_8 v2_10 wcCnt_11 wcOpc_12 wcStp_13 wcRts_15 wcLns_16 wcOpn_17 wcGps_18 wcTrl_19 (lp (fX8_says_L34 qcRcn_2 qcWds_6 qcFst_7 qcSnd_8) n) wcLsz_21 wcSgn_22 = some (ov2_10, owcCnt_11, owcOpc_12, owcStp_13, owcLsz_14, owcRts_15, owcLns_16, owcOpn_17, owcGps_18, owcTrl_19, owcSgn_20) → va_P D vwCl (wC cI cB cZ ad cBad cFul wcCnt_11 wcOpc_12 wcStp_13 cTsz qcRcn_2 qcPlc_3 qcFlt_4 qcVil_5 wcLsz_21 wcRts_15 wcLns_16 wcOpn_17 wcGps_18 wcTrl_19 cWgt cRch cByt qcWds_6 qcFst_7 qcSnd_8 wcSgn_22) H → va_S A s.heap H locs → lv_has ls 3 [(0, .ref (ad 0)), (1, .int r_1), (2, .int v2_10)] → W p l e (rmN 9 199) s m args below meth c H locs 0 0 (MQ below (QI D (wC cI cB cZ ad cBad cFul zcCnt zcOpc zcStp cTsz zcRcn zcPlc zcFlt zcVil zcLsz zcRts zcLns zcOpn zcGps zcTrl cWgt cRch cByt zcWds zcFst zcSnd zcSgn) A rv) args s 0 0 A) (F0 m 58 ls []) := by
            intro wcLsz_21 wcSgn_22 H locs ls hf hP hS hl
            unfold fX8_says_J58 at hf
            refine lv_aload_n hx hb dX8_says_58 rfl (lv_at hl 0 rfl) ?_
            refine va_get (ci := 7) (v := .ref (ad 19)) (C := RX8) (T := TX8) (N := 9) hx hb hts hiX8 hown hK hP 0 rfl rfl 6 (by decide) (hts _ (List.mem_of_getElem? (i := 6) rfl)) (fun _ h9 => h9) rfl dX8_says_59 ?_
            refine lv_aload_n hx hb dX8_says_62 rfl (lv_at hl 0 rfl) ?_
            refine va_get (ci := 7) (v := .ref (ad 13)) (C := RX8) (T := TX8) (N := 9) hx hb hts hiX8 hown hK hP 0 rfl rfl 4 (by decide) (hts _ (List.mem_of_getElem? (i := 1) rfl)) (fun _ h9 => h9) rfl dX8_says_63 ?_
            refine va_get (ci := 3) (v := .ref (ad 14)) (C := RX3) (T := TX3) (N := 8) hx hb hts hiX3 hown hK hP 13 rfl rfl 0 (by decide) (hts _ (List.mem_of_getElem? (i := 7) rfl)) (fun _ h9 => h9) rfl dX8_says_66 ?_
            refine lv_iload_n hx hb dX8_says_69 rfl (lv_at hl 2 rfl) ?_
            obtain ⟨hg, hf⟩ := og hf
            refine va_iald hx hb hK hP 14 0 rfl rfl (gI_in hg) dX8_says_70 ?_
            refine lv_aload_n hx hb dX8_says_71 rfl (lv_at hl 0 rfl) ?_
            refine va_get (ci := 7) (v := .ref (ad 13)) (C := RX8) (T := TX8) (N := 9) hx hb hts hiX8 hown hK hP 0 rfl rfl 4 (by decide) (hts _ (List.mem_of_getElem? (i := 1) rfl)) (fun _ h9 => h9) rfl dX8_says_72 ?_
            refine va_get (ci := 3) (v := .ref (ad 15)) (C := RX3) (T := TX3) (N := 8) hx hb hts hiX3 hown hK hP 13 rfl rfl 1 (by decide) (hts _ (List.mem_of_getElem? (i := 8) rfl)) (fun _ h9 => h9) rfl dX8_says_75 ?_
            refine lv_iload_n hx hb dX8_says_78 rfl (lv_at hl 2 rfl) ?_
            obtain ⟨hg, hf⟩ := og hf
            refine va_iald hx hb hK hP 15 0 rfl rfl (gI_in hg) dX8_says_79 ?_
            refine lv_aload_n hx hb dX8_says_80 rfl (lv_at hl 0 rfl) ?_
            refine va_get (ci := 7) (v := .ref (ad 13)) (C := RX8) (T := TX8) (N := 9) hx hb hts hiX8 hown hK hP 0 rfl rfl 4 (by decide) (hts _ (List.mem_of_getElem? (i := 1) rfl)) (fun _ h9 => h9) rfl dX8_says_81 ?_
            refine va_get (ci := 3) (v := .ref (ad 16)) (C := RX3) (T := TX3) (N := 8) hx hb hts hiX3 hown hK hP 13 rfl rfl 2 (by decide) (hts _ (List.mem_of_getElem? (i := 9) rfl)) (fun _ h9 => h9) rfl dX8_says_84 ?_
            refine lv_iload_n hx hb dX8_says_87 rfl (lv_at hl 2 rfl) ?_
            obtain ⟨hg, hf⟩ := og hf
            refine va_iald hx hb hK hP 16 0 rfl rfl (gI_in hg) dX8_says_88 ?_
            obtain ⟨⟨qcCnt_23, qcOpc_24, qcStp_25, qcLsz_26, qcRts_27, qcLns_28, qcOpn_29, qcGps_30, qcTrl_31, qcSgn_32⟩, hq, hf⟩ := ob hf
            try dsimp only at hf
            refine mcVv 19 4 (As := [.int (qcWds_6 (v2_10).toNatClampNeg), .int (qcFst_7 (v2_10).toNatClampNeg), .int (qcSnd_8 (v2_10).toNatClampNeg)]) (rest := []) ⟨hx, hb, hml, hown, hts⟩ (ctX4_tell l D cI cB cZ ad A hAD cBad cFul wcCnt_11 wcOpc_12 wcStp_13 cTsz qcRcn_2 qcPlc_3 qcFlt_4 qcVil_5 wcLsz_21 wcRts_15 wcLns_16 wcOpn_17 wcGps_18 wcTrl_19 cWgt cRch cByt qcWds_6 qcFst_7 qcSnd_8 wcSgn_22 (qcWds_6 (v2_10).toNatClampNeg) (qcFst_7 (v2_10).toNatClampNeg) (qcSnd_8 (v2_10).toNatClampNeg) qcCnt_23 qcOpc_24 qcStp_25 qcLsz_26 qcRts_27 qcLns_28 qcOpn_29 qcGps_30 qcTrl_31 qcSgn_32 hq) (cwV 3 hts gX8_says_X4_tell rfl rfl rfl (by decide +kernel) ⟨Nat.le_of_ble_eq_true rfl, Nat.le_of_ble_eq_true rfl⟩) hK hP hS rfl rfl rfl hl.1 rfl (Nat.le_of_ble_eq_true rfl) dX8_says_89 ⟨Nat.zero_le _, Nat.zero_le _⟩ (fun H locs hP hS => ?_)
            refine lv_iinc (v := (v2_10 + (1 : Int32))) (lv' := [(2, .int (v2_10 + (1 : Int32))), (0, .ref (ad 0)), (1, .int r_1)]) hx hb dX8_says_92 hl (k := 2) rfl rfl (by decide) rfl (fun ls hl => ?_)
            refine lv_goto (tgt := 34) hx hb dX8_says_95 (by decide) ?_
            exact ih _ _ _ _ _ _ _ _ _ _ _ _ _ _ _ _ _ _ _ _ _ _ _ _ _ hf hP hS (lv_sub hl [1, 2, 0] rfl) hE
          refine lv_if_le (tgt := 58) hx hb dX8_says_46 (by decide) (fun hc => ?_) (fun hc => ?_)
          · replace hf := (if_pos hc).symm.trans hf
            exact hJ58 _ _ _ _ _ hf hP hS (lv_sub hl [0, 1, 2] rfl)
          · replace hf := (if_neg hc).symm.trans hf
            refine lv_aload_n hx hb dX8_says_49 rfl (lv_at hl 0 rfl) ?_
            refine va_get (ci := 7) (v := .ref (ad 17)) (C := RX8) (T := TX8) (N := 9) hx hb hts hiX8 hown hK hP 0 rfl rfl 5 (by decide) (hts _ (List.mem_of_getElem? (i := 4) rfl)) (fun _ h9 => h9) rfl dX8_says_50 ?_
            refine lv_bipush (v := (32 : Int32)) hx hb dX8_says_53 (by decide) ?_
            obtain ⟨⟨qcLsz_33, qcSgn_34⟩, hq, hf⟩ := ob hf
            try dsimp only at hf
            refine mcVv 17 2 (As := [.int (32 : Int32)]) (rest := []) ⟨hx, hb, hml, hown, hts⟩ (ctX2_put l D cI cB cZ ad A hAD cBad cFul wcCnt_11 wcOpc_12 wcStp_13 cTsz qcRcn_2 qcPlc_3 qcFlt_4 qcVil_5 wcLsz_14 wcRts_15 wcLns_16 wcOpn_17 wcGps_18 wcTrl_19 cWgt cRch cByt qcWds_6 qcFst_7 qcSnd_8 wcSgn_20 (32 : Int32) qcLsz_33 qcSgn_34 hq) (cwV 1 hts gX8_says_X2_put rfl rfl rfl (by decide +kernel) ⟨Nat.le_of_ble_eq_true rfl, Nat.le_of_ble_eq_true rfl⟩) hK hP hS rfl rfl rfl hl.1 rfl (Nat.le_of_ble_eq_true rfl) dX8_says_55 ⟨Nat.zero_le _, Nat.zero_le _⟩ (fun H locs hP hS => ?_)
            exact hJ58 _ _ _ _ _ hf hP hS (lv_sub hl [0, 1, 2] rfl)
    obtain ⟨⟨ov2_10, owcCnt_11, owcOpc_12, owcStp_13, owcLsz_14, owcRts_15, owcLns_16, owcOpn_17, owcGps_18, owcTrl_19, owcSgn_20⟩, hq, hf⟩ := ob hf
    try dsimp only at hf
    refine hL34 FU _ _ _ _ _ _ _ _ _ _ _ ov2_10 owcCnt_11 owcOpc_12 owcStp_13 owcLsz_14 owcRts_15 owcLns_16 owcOpn_17 owcGps_18 owcTrl_19 owcSgn_20 _ _ ls hq hP hS (lv_sub hl [2, 1, 0] rfl) (fun H locs ls hP hS hl => ?_)
    refine lv_aload_n hx hb dX8_says_98 rfl (lv_at hl 0 rfl) ?_
    refine va_get (ci := 7) (v := .ref (ad 13)) (C := RX8) (T := TX8) (N := 9) hx hb hts hiX8 hown hK hP 0 rfl rfl 4 (by decide) (hts _ (List.mem_of_getElem? (i := 1) rfl)) (fun _ h9 => h9) rfl dX8_says_99 ?_
    refine va_get (ci := 3) (v := .int qcRcn_2) (C := RX3) (T := TX3) (N := 8) hx hb hts hiX3 hown hK hP 13 rfl rfl 3 (by decide) (hts _ (List.mem_of_getElem? (i := 5) rfl)) (fun _ h9 => h9) rfl dX8_says_102 ?_
    obtain ⟨e0, hz1⟩ := Prod.mk.inj (Option.some.inj hf)
    obtain ⟨e1, hz2⟩ := Prod.mk.inj hz1
    obtain ⟨e2, hz3⟩ := Prod.mk.inj hz2
    obtain ⟨e3, hz4⟩ := Prod.mk.inj hz3
    obtain ⟨e4, hz5⟩ := Prod.mk.inj hz4
    obtain ⟨e5, hz6⟩ := Prod.mk.inj hz5
    obtain ⟨e6, hz7⟩ := Prod.mk.inj hz6
    obtain ⟨e7, hz8⟩ := Prod.mk.inj hz7
    obtain ⟨e8, hz9⟩ := Prod.mk.inj hz8
    obtain ⟨e9, hz10⟩ := Prod.mk.inj hz9
    obtain ⟨e10, hz11⟩ := Prod.mk.inj hz10
    obtain ⟨e11, hz12⟩ := Prod.mk.inj hz11
    obtain ⟨e12, hz13⟩ := Prod.mk.inj hz12
    obtain ⟨e13, hz14⟩ := Prod.mk.inj hz13
    obtain ⟨e14, hz15⟩ := Prod.mk.inj hz14
    obtain ⟨e15, hz16⟩ := Prod.mk.inj hz15
    obtain ⟨e16, hz17⟩ := Prod.mk.inj hz16
    subst e0
    subst e1
    subst e2
    subst e3
    subst e4
    subst e5
    subst e6
    subst e7
    subst e8
    subst e9
    subst e10
    subst e11
    subst e12
    subst e13
    subst e14
    subst e15
    subst e16
    subst hz17
    exact rm_i hx hb hr hlk hP hS dX8_says_105
  · replace hf := (if_neg hc).symm.trans hf
    refine lv_bipush (v := (-10 : Int32)) hx hb dX8_says_20 (by decide) ?_
    refine lv_iload_n hx hb dX8_says_22 rfl (lv_at hl 0 rfl) ?_
    refine lv_isub hx hb dX8_says_23 ?_
    obtain ⟨e0, hz1⟩ := Prod.mk.inj (Option.some.inj hf)
    obtain ⟨e1, hz2⟩ := Prod.mk.inj hz1
    obtain ⟨e2, hz3⟩ := Prod.mk.inj hz2
    obtain ⟨e3, hz4⟩ := Prod.mk.inj hz3
    obtain ⟨e4, hz5⟩ := Prod.mk.inj hz4
    obtain ⟨e5, hz6⟩ := Prod.mk.inj hz5
    obtain ⟨e6, hz7⟩ := Prod.mk.inj hz6
    obtain ⟨e7, hz8⟩ := Prod.mk.inj hz7
    obtain ⟨e8, hz9⟩ := Prod.mk.inj hz8
    obtain ⟨e9, hz10⟩ := Prod.mk.inj hz9
    obtain ⟨e10, hz11⟩ := Prod.mk.inj hz10
    obtain ⟨e11, hz12⟩ := Prod.mk.inj hz11
    obtain ⟨e12, hz13⟩ := Prod.mk.inj hz12
    obtain ⟨e13, hz14⟩ := Prod.mk.inj hz13
    obtain ⟨e14, hz15⟩ := Prod.mk.inj hz14
    obtain ⟨e15, hz16⟩ := Prod.mk.inj hz15
    obtain ⟨e16, hz17⟩ := Prod.mk.inj hz16
    subst e0
    subst e1
    subst e2
    subst e3
    subst e4
    subst e5
    subst e6
    subst e7
    subst e8
    subst e9
    subst e10
    subst e11
    subst e12
    subst e13
    subst e14
    subst e15
    subst e16
    subst hz17
    exact rm_i hx hb hr hlk hP hS dX8_says_24
