def fX5_put (cTsz : Int32) (cByt : Nat → Int32) (p0 : Int32) : Option (Int32 × Int32 × (Nat → Int32)) :=
  (if (120 : Int32) ≤ cTsz then (some (cTsz, cTsz, cByt)) else (if gI cTsz 120 then (some ((cTsz + (1 : Int32)), (cTsz + (1 : Int32)), (upd cByt (cTsz).toNatClampNeg (vp_nar .byte (p0).toInt8.toInt32)))) else none))
set_option maxRecDepth 100000 in
set_option maxHeartbeats 4000000 in
theorem ctX5_put (l : Launch) (D : va_G) (cI cB cZ : ClassId) (ad : Nat → Nat) (A : Nat → Prop) (hAD : AD A ad 20) (cBad cFul cCnt cOpc cStp cTsz cRcn cPlc cFlt cVil cLsz : Int32) (cRts cLns cOpn cGps cTrl cWgt cRch cByt cWds cFst cSnd cSgn : Nat → Int32) (p0 : Int32) (rv : Int32) (zcTsz : Int32) (zcByt : Nat → Int32) (hf : fX5_put cTsz cByt p0 = some (rv, zcTsz, zcByt)) : Met l yX5_put wsX5_put (rmN 0 0) (PR D (tyL cI cB cZ) (wC cI cB cZ ad cBad cFul cCnt cOpc cStp cTsz cRcn cPlc cFlt cVil cLsz cRts cLns cOpn cGps cTrl cWgt cRch cByt cWds cFst cSnd cSgn) [.ref (ad 11), .int p0]) (QI D (wC cI cB cZ ad cBad cFul cCnt cOpc cStp zcTsz cRcn cPlc cFlt cVil cLsz cRts cLns cOpn cGps cTrl cWgt cRch zcByt cWds cFst cSnd cSgn) A rv) 0 0 A := by
  refine mk_met cX5_put 2 (some .int) (by decide) rfl (Nat.le_of_ble_eq_true rfl) ?_
  intro p e s m args below meth c ls hx hb hr hlk hml hown hts hPK hl
  obtain ⟨hP, hK⟩ := hPK
  replace hl : lv_has ls 2 [(0, .ref (ad 11)), (1, .int p0)] := hl
  replace hown : s.vm.findClass RX5 = some m.cls := hown
  have hiX5 : ∀ w ∈ wsX50, w ∈ wsX5_put := fun w h => List.mem_cons_of_mem _ (List.mem_append_right _ h)
  have hS : va_S A s.heap s.heap [] := va_S.rf
  unfold fX5_put at hf
  refine lv_aload_n hx hb dX5_put_0 rfl (lv_at hl 0 rfl) ?_
  refine va_get (ci := 5) (v := .int cTsz) (C := RX5) (T := TX5) (N := 2) hx hb hts hiX5 hown hK hP 11 rfl rfl 1 (by decide) (hts _ (List.mem_of_getElem? (i := 1) rfl)) (fun _ h9 => h9) rfl dX5_put_1 ?_
  refine lv_bipush (v := (120 : Int32)) hx hb dX5_put_4 (by decide) ?_
  refine lv_icmp_ge (tgt := 30) hx hb dX5_put_6 (by decide) (fun hc => ?_) (fun hc => ?_)
  · replace hf := (if_pos hc).symm.trans hf
    refine lv_aload_n hx hb dX5_put_30 rfl (lv_at hl 0 rfl) ?_
    refine va_get (ci := 5) (v := .int cTsz) (C := RX5) (T := TX5) (N := 2) hx hb hts hiX5 hown hK hP 11 rfl rfl 1 (by decide) (hts _ (List.mem_of_getElem? (i := 1) rfl)) (fun _ h9 => h9) rfl dX5_put_31 ?_
    obtain ⟨e0, hz1⟩ := Prod.mk.inj (Option.some.inj hf)
    obtain ⟨e1, hz2⟩ := Prod.mk.inj hz1
    subst e0
    subst e1
    subst hz2
    exact rm_i hx hb hr hlk hP hS dX5_put_34
  · replace hf := (if_neg hc).symm.trans hf
    refine lv_aload_n hx hb dX5_put_9 rfl (lv_at hl 0 rfl) ?_
    refine va_get (ci := 5) (v := .ref (ad 12)) (C := RX5) (T := TX5) (N := 2) hx hb hts hiX5 hown hK hP 11 rfl rfl 0 (by decide) (hts _ (List.mem_of_getElem? (i := 2) rfl)) (fun _ h9 => h9) rfl dX5_put_10 ?_
    refine lv_aload_n hx hb dX5_put_13 rfl (lv_at hl 0 rfl) ?_
    refine va_get (ci := 5) (v := .int cTsz) (C := RX5) (T := TX5) (N := 2) hx hb hts hiX5 hown hK hP 11 rfl rfl 1 (by decide) (hts _ (List.mem_of_getElem? (i := 1) rfl)) (fun _ h9 => h9) rfl dX5_put_14 ?_
    refine lv_iload_n hx hb dX5_put_17 rfl (lv_at hl 1 rfl) ?_
    refine lv_i2b (v := (p0).toInt8.toInt32) hx hb dX5_put_18 rfl ?_
    obtain ⟨hg, hf⟩ := og hf
    refine va_bast hx hb hK hP (wC_D hAD) hS 12 1 rfl rfl (gI_in hg) dX5_put_19 (fun H locs hP _ hS => ?_)
    have hP : va_P D vwCl (wC cI cB cZ ad cBad cFul cCnt cOpc cStp cTsz cRcn cPlc cFlt cVil cLsz cRts cLns cOpn cGps cTrl cWgt cRch (upd cByt (cTsz).toNatClampNeg (vp_nar .byte (p0).toInt8.toInt32)) cWds cFst cSnd cSgn) H := hP
    refine lv_aload_n hx hb dX5_put_20 rfl (lv_at hl 0 rfl) ?_
    refine lv_dup hx hb dX5_put_21 rfl ?_
    refine va_get (ci := 5) (v := .int cTsz) (C := RX5) (T := TX5) (N := 2) hx hb hts hiX5 hown hK hP 11 rfl rfl 1 (by decide) (hts _ (List.mem_of_getElem? (i := 1) rfl)) (fun _ h9 => h9) rfl dX5_put_22 ?_
    refine lv_iconst (v := (1 : Int32)) hx hb dX5_put_25 (by decide) ?_
    refine lv_iadd hx hb dX5_put_26 ?_
    refine va_put (ci := 5) (v := .int (cTsz + (1 : Int32))) (ty := .int) (C := RX5) (T := TX5) (N := 2) hx hb hts hiX5 tyX5 tyX5_ok nmX5 hown hK hP (wC_D hAD) hS 11 rfl rfl 1 (by decide) (hts _ (List.mem_of_getElem? (i := 1) rfl)) (fun _ h9 => h9) rfl (tyX5_ok 1 (by decide)) rfl rfl (Nat.le_of_ble_eq_true rfl) dX5_put_27 (fun H locs hP _ hS => ?_)
    have hP : va_P D vwCl (wC cI cB cZ ad cBad cFul cCnt cOpc cStp (cTsz + (1 : Int32)) cRcn cPlc cFlt cVil cLsz cRts cLns cOpn cGps cTrl cWgt cRch (upd cByt (cTsz).toNatClampNeg (vp_nar .byte (p0).toInt8.toInt32)) cWds cFst cSnd cSgn) H := hP
    refine lv_aload_n hx hb dX5_put_30 rfl (lv_at hl 0 rfl) ?_
    refine va_get (ci := 5) (v := .int (cTsz + (1 : Int32))) (C := RX5) (T := TX5) (N := 2) hx hb hts hiX5 hown hK hP 11 rfl rfl 1 (by decide) (hts _ (List.mem_of_getElem? (i := 1) rfl)) (fun _ h9 => h9) rfl dX5_put_31 ?_
    obtain ⟨e0, hz1⟩ := Prod.mk.inj (Option.some.inj hf)
    obtain ⟨e1, hz2⟩ := Prod.mk.inj hz1
    subst e0
    subst e1
    subst hz2
    exact rm_i hx hb hr hlk hP hS dX5_put_34

def fX5_empty (cTsz : Int32)  : Option (Int32 × Int32) :=
  (some (cTsz, (0 : Int32)))
set_option maxRecDepth 100000 in
set_option maxHeartbeats 4000000 in
theorem ctX5_empty (l : Launch) (D : va_G) (cI cB cZ : ClassId) (ad : Nat → Nat) (A : Nat → Prop) (hAD : AD A ad 20) (cBad cFul cCnt cOpc cStp cTsz cRcn cPlc cFlt cVil cLsz : Int32) (cRts cLns cOpn cGps cTrl cWgt cRch cByt cWds cFst cSnd cSgn : Nat → Int32)  (rv : Int32) (zcTsz : Int32) (hf : fX5_empty cTsz = some (rv, zcTsz)) : Met l yX5_empty wsX5_empty (rmN 0 0) (PR D (tyL cI cB cZ) (wC cI cB cZ ad cBad cFul cCnt cOpc cStp cTsz cRcn cPlc cFlt cVil cLsz cRts cLns cOpn cGps cTrl cWgt cRch cByt cWds cFst cSnd cSgn) [.ref (ad 11)]) (QI D (wC cI cB cZ ad cBad cFul cCnt cOpc cStp zcTsz cRcn cPlc cFlt cVil cLsz cRts cLns cOpn cGps cTrl cWgt cRch cByt cWds cFst cSnd cSgn) A rv) 0 0 A := by
  refine mk_met cX5_empty 2 (some .int) (by decide) rfl (Nat.le_of_ble_eq_true rfl) ?_
  intro p e s m args below meth c ls hx hb hr hlk hml hown hts hPK hl
  obtain ⟨hP, hK⟩ := hPK
  replace hl : lv_has ls 2 [(0, .ref (ad 11))] := hl
  replace hown : s.vm.findClass RX5 = some m.cls := hown
  have hiX5 : ∀ w ∈ wsX50, w ∈ wsX5_empty := fun w h => List.mem_cons_of_mem _ (List.mem_append_right _ h)
  have hS : va_S A s.heap s.heap [] := va_S.rf
  unfold fX5_empty at hf
  refine lv_aload_n hx hb dX5_empty_0 rfl (lv_at hl 0 rfl) ?_
  refine va_get (ci := 5) (v := .int cTsz) (C := RX5) (T := TX5) (N := 2) hx hb hts hiX5 hown hK hP 11 rfl rfl 1 (by decide) (hts _ (List.mem_of_getElem? (i := 1) rfl)) (fun _ h9 => h9) rfl dX5_empty_1 ?_
  refine lv_istore_n (lv' := [(1, .int cTsz), (0, .ref (ad 11))]) hx hb dX5_empty_4 rfl hl (by decide) rfl (fun ls hl => ?_)
  refine lv_aload_n hx hb dX5_empty_5 rfl (lv_at hl 1 rfl) ?_
  refine lv_iconst (v := (0 : Int32)) hx hb dX5_empty_6 (by decide) ?_
  refine va_put (ci := 5) (v := .int (0 : Int32)) (ty := .int) (C := RX5) (T := TX5) (N := 2) hx hb hts hiX5 tyX5 tyX5_ok nmX5 hown hK hP (wC_D hAD) hS 11 rfl rfl 1 (by decide) (hts _ (List.mem_of_getElem? (i := 1) rfl)) (fun _ h9 => h9) rfl (tyX5_ok 1 (by decide)) rfl rfl (Nat.le_of_ble_eq_true rfl) dX5_empty_7 (fun H locs hP _ hS => ?_)
  have hP : va_P D vwCl (wC cI cB cZ ad cBad cFul cCnt cOpc cStp (0 : Int32) cRcn cPlc cFlt cVil cLsz cRts cLns cOpn cGps cTrl cWgt cRch cByt cWds cFst cSnd cSgn) H := hP
  refine lv_iload_n hx hb dX5_empty_10 rfl (lv_at hl 0 rfl) ?_
  obtain ⟨e0, hz1⟩ := Prod.mk.inj (Option.some.inj hf)
  subst e0
  subst hz1
  exact rm_i hx hb hr hlk hP hS dX5_empty_11

def fX2_empty (cLsz : Int32)  : Option (Int32) :=
  (some (0 : Int32))
set_option maxRecDepth 100000 in
set_option maxHeartbeats 4000000 in
theorem ctX2_empty (l : Launch) (D : va_G) (cI cB cZ : ClassId) (ad : Nat → Nat) (A : Nat → Prop) (hAD : AD A ad 20) (cBad cFul cCnt cOpc cStp cTsz cRcn cPlc cFlt cVil cLsz : Int32) (cRts cLns cOpn cGps cTrl cWgt cRch cByt cWds cFst cSnd cSgn : Nat → Int32)  (zcLsz : Int32) (hf : fX2_empty cLsz = some zcLsz) : Met l yX2_empty wsX2_empty (rmN 0 0) (PR D (tyL cI cB cZ) (wC cI cB cZ ad cBad cFul cCnt cOpc cStp cTsz cRcn cPlc cFlt cVil cLsz cRts cLns cOpn cGps cTrl cWgt cRch cByt cWds cFst cSnd cSgn) [.ref (ad 17)]) (QV D (wC cI cB cZ ad cBad cFul cCnt cOpc cStp cTsz cRcn cPlc cFlt cVil zcLsz cRts cLns cOpn cGps cTrl cWgt cRch cByt cWds cFst cSnd cSgn) A) 0 0 A := by
  refine mk_met cX2_empty 1 none (by decide) rfl (Nat.le_of_ble_eq_true rfl) ?_
  intro p e s m args below meth c ls hx hb hr hlk hml hown hts hPK hl
  obtain ⟨hP, hK⟩ := hPK
  replace hl : lv_has ls 1 [(0, .ref (ad 17))] := hl
  replace hown : s.vm.findClass RX2 = some m.cls := hown
  have hiX2 : ∀ w ∈ wsX20, w ∈ wsX2_empty := fun w h => List.mem_cons_of_mem _ (List.mem_append_right _ h)
  have hS : va_S A s.heap s.heap [] := va_S.rf
  unfold fX2_empty at hf
  refine lv_aload_n hx hb dX2_empty_0 rfl (lv_at hl 0 rfl) ?_
  refine lv_iconst (v := (0 : Int32)) hx hb dX2_empty_1 (by decide) ?_
  refine va_put (ci := 2) (v := .int (0 : Int32)) (ty := .int) (C := RX2) (T := TX2) (N := 2) hx hb hts hiX2 tyX2 tyX2_ok nmX2 hown hK hP (wC_D hAD) hS 17 rfl rfl 1 (by decide) (hts _ (List.mem_of_getElem? (i := 1) rfl)) (fun _ h9 => h9) rfl (tyX2_ok 1 (by decide)) rfl rfl (Nat.le_of_ble_eq_true rfl) dX2_empty_2 (fun H locs hP _ hS => ?_)
  have hP : va_P D vwCl (wC cI cB cZ ad cBad cFul cCnt cOpc cStp cTsz cRcn cPlc cFlt cVil (0 : Int32) cRts cLns cOpn cGps cTrl cWgt cRch cByt cWds cFst cSnd cSgn) H := hP
  have e0 := Option.some.inj hf
  subst e0
  exact rm_v hx hb hr hlk hP hS dX2_empty_5

def fX2_put (cLsz : Int32) (cSgn : Nat → Int32) (p0 : Int32) : Option (Int32 × (Nat → Int32)) :=
  (if (400 : Int32) ≤ cLsz then (some (cLsz, cSgn)) else (if gI cLsz 400 then (some ((cLsz + (1 : Int32)), (upd cSgn (cLsz).toNatClampNeg (vp_nar .byte (p0).toInt8.toInt32)))) else none))
set_option maxRecDepth 100000 in
set_option maxHeartbeats 4000000 in
theorem ctX2_put (l : Launch) (D : va_G) (cI cB cZ : ClassId) (ad : Nat → Nat) (A : Nat → Prop) (hAD : AD A ad 20) (cBad cFul cCnt cOpc cStp cTsz cRcn cPlc cFlt cVil cLsz : Int32) (cRts cLns cOpn cGps cTrl cWgt cRch cByt cWds cFst cSnd cSgn : Nat → Int32) (p0 : Int32) (zcLsz : Int32) (zcSgn : Nat → Int32) (hf : fX2_put cLsz cSgn p0 = some (zcLsz, zcSgn)) : Met l yX2_put wsX2_put (rmN 0 0) (PR D (tyL cI cB cZ) (wC cI cB cZ ad cBad cFul cCnt cOpc cStp cTsz cRcn cPlc cFlt cVil cLsz cRts cLns cOpn cGps cTrl cWgt cRch cByt cWds cFst cSnd cSgn) [.ref (ad 17), .int p0]) (QV D (wC cI cB cZ ad cBad cFul cCnt cOpc cStp cTsz cRcn cPlc cFlt cVil zcLsz cRts cLns cOpn cGps cTrl cWgt cRch cByt cWds cFst cSnd zcSgn) A) 0 0 A := by
  refine mk_met cX2_put 2 none (by decide) rfl (Nat.le_of_ble_eq_true rfl) ?_
  intro p e s m args below meth c ls hx hb hr hlk hml hown hts hPK hl
  obtain ⟨hP, hK⟩ := hPK
  replace hl : lv_has ls 2 [(0, .ref (ad 17)), (1, .int p0)] := hl
  replace hown : s.vm.findClass RX2 = some m.cls := hown
  have hiX2 : ∀ w ∈ wsX20, w ∈ wsX2_put := fun w h => List.mem_cons_of_mem _ (List.mem_append_right _ h)
  have hS : va_S A s.heap s.heap [] := va_S.rf
  unfold fX2_put at hf
  refine lv_aload_n hx hb dX2_put_0 rfl (lv_at hl 0 rfl) ?_
  refine va_get (ci := 2) (v := .int cLsz) (C := RX2) (T := TX2) (N := 2) hx hb hts hiX2 hown hK hP 17 rfl rfl 1 (by decide) (hts _ (List.mem_of_getElem? (i := 1) rfl)) (fun _ h9 => h9) rfl dX2_put_1 ?_
  refine lv_sipush (v := (400 : Int32)) hx hb dX2_put_4 (by decide) ?_
  refine lv_icmp_ge (tgt := 31) hx hb dX2_put_7 (by decide) (fun hc => ?_) (fun hc => ?_)
  · replace hf := (if_pos hc).symm.trans hf
    obtain ⟨e0, hz1⟩ := Prod.mk.inj (Option.some.inj hf)
    subst e0
    subst hz1
    exact rm_v hx hb hr hlk hP hS dX2_put_31
  · replace hf := (if_neg hc).symm.trans hf
    refine lv_aload_n hx hb dX2_put_10 rfl (lv_at hl 0 rfl) ?_
    refine va_get (ci := 2) (v := .ref (ad 18)) (C := RX2) (T := TX2) (N := 2) hx hb hts hiX2 hown hK hP 17 rfl rfl 0 (by decide) (hts _ (List.mem_of_getElem? (i := 2) rfl)) (fun _ h9 => h9) rfl dX2_put_11 ?_
    refine lv_aload_n hx hb dX2_put_14 rfl (lv_at hl 0 rfl) ?_
    refine va_get (ci := 2) (v := .int cLsz) (C := RX2) (T := TX2) (N := 2) hx hb hts hiX2 hown hK hP 17 rfl rfl 1 (by decide) (hts _ (List.mem_of_getElem? (i := 1) rfl)) (fun _ h9 => h9) rfl dX2_put_15 ?_
    refine lv_iload_n hx hb dX2_put_18 rfl (lv_at hl 1 rfl) ?_
    refine lv_i2b (v := (p0).toInt8.toInt32) hx hb dX2_put_19 rfl ?_
    obtain ⟨hg, hf⟩ := og hf
    refine va_bast hx hb hK hP (wC_D hAD) hS 18 1 rfl rfl (gI_in hg) dX2_put_20 (fun H locs hP _ hS => ?_)
    have hP : va_P D vwCl (wC cI cB cZ ad cBad cFul cCnt cOpc cStp cTsz cRcn cPlc cFlt cVil cLsz cRts cLns cOpn cGps cTrl cWgt cRch cByt cWds cFst cSnd (upd cSgn (cLsz).toNatClampNeg (vp_nar .byte (p0).toInt8.toInt32))) H := hP
    refine lv_aload_n hx hb dX2_put_21 rfl (lv_at hl 0 rfl) ?_
    refine lv_dup hx hb dX2_put_22 rfl ?_
    refine va_get (ci := 2) (v := .int cLsz) (C := RX2) (T := TX2) (N := 2) hx hb hts hiX2 hown hK hP 17 rfl rfl 1 (by decide) (hts _ (List.mem_of_getElem? (i := 1) rfl)) (fun _ h9 => h9) rfl dX2_put_23 ?_
    refine lv_iconst (v := (1 : Int32)) hx hb dX2_put_26 (by decide) ?_
    refine lv_iadd hx hb dX2_put_27 ?_
    refine va_put (ci := 2) (v := .int (cLsz + (1 : Int32))) (ty := .int) (C := RX2) (T := TX2) (N := 2) hx hb hts hiX2 tyX2 tyX2_ok nmX2 hown hK hP (wC_D hAD) hS 17 rfl rfl 1 (by decide) (hts _ (List.mem_of_getElem? (i := 1) rfl)) (fun _ h9 => h9) rfl (tyX2_ok 1 (by decide)) rfl rfl (Nat.le_of_ble_eq_true rfl) dX2_put_28 (fun H locs hP _ hS => ?_)
    have hP : va_P D vwCl (wC cI cB cZ ad cBad cFul cCnt cOpc cStp cTsz cRcn cPlc cFlt cVil (cLsz + (1 : Int32)) cRts cLns cOpn cGps cTrl cWgt cRch cByt cWds cFst cSnd (upd cSgn (cLsz).toNatClampNeg (vp_nar .byte (p0).toInt8.toInt32))) H := hP
    obtain ⟨e0, hz1⟩ := Prod.mk.inj (Option.some.inj hf)
    subst e0
    subst hz1
    exact rm_v hx hb hr hlk hP hS dX2_put_31

def fX2_putNumber_L4 (p0 : Int32) (kk : (Int32 × Int32) → Option (Int32 × Int32)) (ww : Int32 × Int32) : Option (Int32 × Int32) :=
  match ww with
  | (v2_1, v3_2) => (if (9 : Int32) ≤ v3_2 then (some (v2_1, v3_2)) else (if gN v2_1 then (if (p0 / v2_1) < (10 : Int32) then (some (v2_1, v3_2)) else (kk ((v2_1 * (10 : Int32)), (v3_2 + (1 : Int32))))) else none))
def fX2_putNumber_L31 (p0 : Int32) (kk : (Int32 × Int32 × (Nat → Int32)) → Option (Int32 × Int32 × (Nat → Int32))) (ww : Int32 × Int32 × (Nat → Int32)) : Option (Int32 × Int32 × (Nat → Int32)) :=
  match ww with
  | (v3_3, wcLsz_4, wcSgn_5) => (if v3_3 ≤ 0 then (some (v3_3, wcLsz_4, wcSgn_5)) else (if gN v3_3 then ((fX2_put wcLsz_4 wcSgn_5 ((48 : Int32) + ((p0 / v3_3) - (p0 / v3_3) / (10 : Int32) * (10 : Int32)))).bind fun (qcLsz_6, qcSgn_7) => (kk ((v3_3 / (10 : Int32)), qcLsz_6, qcSgn_7))) else none))
def fX2_putNumber (cLsz : Int32) (cSgn : Nat → Int32) (p0 : Int32) : Option (Int32 × (Nat → Int32)) :=
  ((lp (fX2_putNumber_L4 p0) FU ((1 : Int32), (1 : Int32))).bind fun (ov2_1, ov3_2) => ((lp (fX2_putNumber_L31 p0) FU (ov2_1, cLsz, cSgn)).bind fun (ov3_3, owcLsz_4, owcSgn_5) => (some (owcLsz_4, owcSgn_5))))
set_option maxRecDepth 100000 in
set_option maxHeartbeats 4000000 in
theorem ctX2_putNumber (l : Launch) (D : va_G) (cI cB cZ : ClassId) (ad : Nat → Nat) (A : Nat → Prop) (hAD : AD A ad 20) (cBad cFul cCnt cOpc cStp cTsz cRcn cPlc cFlt cVil cLsz : Int32) (cRts cLns cOpn cGps cTrl cWgt cRch cByt cWds cFst cSnd cSgn : Nat → Int32) (p0 : Int32) (zcLsz : Int32) (zcSgn : Nat → Int32) (hf : fX2_putNumber cLsz cSgn p0 = some (zcLsz, zcSgn)) : Met l yX2_putNumber wsX2_putNumber (rmN 1 21) (PR D (tyL cI cB cZ) (wC cI cB cZ ad cBad cFul cCnt cOpc cStp cTsz cRcn cPlc cFlt cVil cLsz cRts cLns cOpn cGps cTrl cWgt cRch cByt cWds cFst cSnd cSgn) [.ref (ad 17), .int p0]) (QV D (wC cI cB cZ ad cBad cFul cCnt cOpc cStp cTsz cRcn cPlc cFlt cVil zcLsz cRts cLns cOpn cGps cTrl cWgt cRch cByt cWds cFst cSnd zcSgn) A) 0 0 A := by
  refine mk_met cX2_putNumber 4 none (by decide) rfl (Nat.le_of_ble_eq_true rfl) ?_
  intro p e s m args below meth c ls hx hb hr hlk hml hown hts hPK hl
  obtain ⟨hP, hK⟩ := hPK
  replace hl : lv_has ls 4 [(0, .ref (ad 17)), (1, .int p0)] := hl
  replace hown : s.vm.findClass RX2 = some m.cls := hown
  have hS : va_S A s.heap s.heap [] := va_S.rf
  unfold fX2_putNumber at hf
  refine lv_iconst (v := (1 : Int32)) hx hb dX2_putNumber_0 (by decide) ?_
  refine lv_istore_n (lv' := [(2, .int (1 : Int32)), (0, .ref (ad 17)), (1, .int p0)]) hx hb dX2_putNumber_1 rfl hl (by decide) rfl (fun ls hl => ?_)
  refine lv_iconst (v := (1 : Int32)) hx hb dX2_putNumber_2 (by decide) ?_
  refine lv_istore_n (lv' := [(3, .int (1 : Int32)), (2, .int (1 : Int32)), (0, .ref (ad 17)), (1, .int p0)]) hx hb dX2_putNumber_3 rfl hl (by decide) rfl (fun ls hl => ?_)
  have hL4 : ∀ (n : Nat) (v2_1 : Int32) (v3_2 : Int32) (ov2_1 : Int32) (ov3_2 : Int32) (H : Heap) (locs : List Loc) (ls : Array Slot), lp (fX2_putNumber_L4 p0) n (v2_1, v3_2) = some (ov2_1, ov3_2) → va_P D vwCl (wC cI cB cZ ad cBad cFul cCnt cOpc cStp cTsz cRcn cPlc cFlt cVil cLsz cRts cLns cOpn cGps cTrl cWgt cRch cByt cWds cFst cSnd cSgn) H → va_S A s.heap H locs → lv_has ls 4 [(0, .ref (ad 17)), (1, .int p0), (2, .int v2_1), (3, .int v3_2)] → (∀ (H : Heap) (locs : List Loc) (ls : Array Slot), va_P D vwCl (wC cI cB cZ ad cBad cFul cCnt cOpc cStp cTsz cRcn cPlc cFlt cVil cLsz cRts cLns cOpn cGps cTrl cWgt cRch cByt cWds cFst cSnd cSgn) H → va_S A s.heap H locs → lv_has ls 4 [(0, .ref (ad 17)), (1, .int p0), (2, .int ov2_1), (3, .int ov3_2)] → W p l e (rmN 1 21) s m args below meth c H locs 0 0 (MQ below (QV D (wC cI cB cZ ad cBad cFul cCnt cOpc cStp cTsz cRcn cPlc cFlt cVil zcLsz cRts cLns cOpn cGps cTrl cWgt cRch cByt cWds cFst cSnd zcSgn) A) args s 0 0 A) (F0 m 29 ls [])) → W p l e (rmN 1 21) s m args below meth c H locs 0 0 (MQ below (QV D (wC cI cB cZ ad cBad cFul cCnt cOpc cStp cTsz cRcn cPlc cFlt cVil zcLsz cRts cLns cOpn cGps cTrl cWgt cRch cByt cWds cFst cSnd zcSgn) A) args s 0 0 A) (F0 m 4 ls []) := by
    intro n
    induction n with
    | zero => intro v2_1 v3_2 ov2_1 ov3_2 H locs ls hf; exact (lp_0 hf).elim
    | succ n ih =>
      intro v2_1 v3_2 ov2_1 ov3_2 H locs ls hf hP hS hl hE
      replace hf := lp_s hf
      dsimp only [fX2_putNumber_L4] at hf
      refine lv_iload_n hx hb dX2_putNumber_4 rfl (lv_at hl 3 rfl) ?_
      refine lv_bipush (v := (9 : Int32)) hx hb dX2_putNumber_5 (by decide) ?_
      refine lv_icmp_ge (tgt := 29) hx hb dX2_putNumber_7 (by decide) (fun hc => ?_) (fun hc => ?_)
      · replace hf := (if_pos hc).symm.trans hf
        cases hf
        exact hE _ _ _ hP hS (lv_sub hl [0, 1, 2, 3] rfl)
      · replace hf := (if_neg hc).symm.trans hf
        refine lv_iload_n hx hb dX2_putNumber_10 rfl (lv_at hl 1 rfl) ?_
        refine lv_iload_n hx hb dX2_putNumber_11 rfl (lv_at hl 2 rfl) ?_
        obtain ⟨hg, hf⟩ := og hf
        refine lv_idiv hx hb dX2_putNumber_12 (gN_ne hg) ?_
        refine lv_bipush (v := (10 : Int32)) hx hb dX2_putNumber_13 (by decide) ?_
        refine lv_icmp_lt (tgt := 29) hx hb dX2_putNumber_15 (by decide) (fun hc => ?_) (fun hc => ?_)
        · replace hf := (if_pos hc).symm.trans hf
          cases hf
          exact hE _ _ _ hP hS (lv_sub hl [0, 1, 2, 3] rfl)
        · replace hf := (if_neg hc).symm.trans hf
          refine lv_iload_n hx hb dX2_putNumber_18 rfl (lv_at hl 2 rfl) ?_
          refine lv_bipush (v := (10 : Int32)) hx hb dX2_putNumber_19 (by decide) ?_
          refine lv_imul hx hb dX2_putNumber_21 ?_
          refine lv_istore_n (lv' := [(2, .int (v2_1 * (10 : Int32))), (0, .ref (ad 17)), (1, .int p0), (3, .int v3_2)]) hx hb dX2_putNumber_22 rfl hl (by decide) rfl (fun ls hl => ?_)
          refine lv_iinc (v := (v3_2 + (1 : Int32))) (lv' := [(3, .int (v3_2 + (1 : Int32))), (2, .int (v2_1 * (10 : Int32))), (0, .ref (ad 17)), (1, .int p0)]) hx hb dX2_putNumber_23 hl (k := 3) rfl rfl (by decide) rfl (fun ls hl => ?_)
          refine lv_goto (tgt := 4) hx hb dX2_putNumber_26 (by decide) ?_
          exact ih _ _ _ _ _ _ _ hf hP hS (lv_sub hl [2, 3, 1, 0] rfl) hE
  obtain ⟨⟨ov2_1, ov3_2⟩, hq, hf⟩ := ob hf
  try dsimp only at hf
  refine hL4 FU _ _ ov2_1 ov3_2 _ _ ls hq hP hS (lv_sub hl [2, 3, 1, 0] rfl) (fun H locs ls hP hS hl => ?_)
  refine lv_iload_n hx hb dX2_putNumber_29 rfl (lv_at hl 2 rfl) ?_
  refine lv_istore_n (lv' := [(3, .int ov2_1), (0, .ref (ad 17)), (1, .int p0), (2, .int ov2_1)]) hx hb dX2_putNumber_30 rfl hl (by decide) rfl (fun ls hl => ?_)
  have hL31 : ∀ (n : Nat) (v3_3 : Int32) (wcLsz_4 : Int32) (wcSgn_5 : Nat → Int32) (ov3_3 : Int32) (owcLsz_4 : Int32) (owcSgn_5 : Nat → Int32) (H : Heap) (locs : List Loc) (ls : Array Slot), lp (fX2_putNumber_L31 p0) n (v3_3, wcLsz_4, wcSgn_5) = some (ov3_3, owcLsz_4, owcSgn_5) → va_P D vwCl (wC cI cB cZ ad cBad cFul cCnt cOpc cStp cTsz cRcn cPlc cFlt cVil wcLsz_4 cRts cLns cOpn cGps cTrl cWgt cRch cByt cWds cFst cSnd wcSgn_5) H → va_S A s.heap H locs → lv_has ls 4 [(0, .ref (ad 17)), (1, .int p0), (2, .int ov2_1), (3, .int v3_3)] → (∀ (H : Heap) (locs : List Loc) (ls : Array Slot), va_P D vwCl (wC cI cB cZ ad cBad cFul cCnt cOpc cStp cTsz cRcn cPlc cFlt cVil owcLsz_4 cRts cLns cOpn cGps cTrl cWgt cRch cByt cWds cFst cSnd owcSgn_5) H → va_S A s.heap H locs → lv_has ls 4 [(0, .ref (ad 17)), (1, .int p0), (2, .int ov2_1), (3, .int ov3_3)] → W p l e (rmN 1 21) s m args below meth c H locs 0 0 (MQ below (QV D (wC cI cB cZ ad cBad cFul cCnt cOpc cStp cTsz cRcn cPlc cFlt cVil zcLsz cRts cLns cOpn cGps cTrl cWgt cRch cByt cWds cFst cSnd zcSgn) A) args s 0 0 A) (F0 m 56 ls [])) → W p l e (rmN 1 21) s m args below meth c H locs 0 0 (MQ below (QV D (wC cI cB cZ ad cBad cFul cCnt cOpc cStp cTsz cRcn cPlc cFlt cVil zcLsz cRts cLns cOpn cGps cTrl cWgt cRch cByt cWds cFst cSnd zcSgn) A) args s 0 0 A) (F0 m 31 ls []) := by
    intro n
    induction n with
    | zero => intro v3_3 wcLsz_4 wcSgn_5 ov3_3 owcLsz_4 owcSgn_5 H locs ls hf; exact (lp_0 hf).elim
    | succ n ih =>
      intro v3_3 wcLsz_4 wcSgn_5 ov3_3 owcLsz_4 owcSgn_5 H locs ls hf hP hS hl hE
      replace hf := lp_s hf
      dsimp only [fX2_putNumber_L31] at hf
      refine lv_iload_n hx hb dX2_putNumber_31 rfl (lv_at hl 3 rfl) ?_
      refine lv_if_le (tgt := 56) hx hb dX2_putNumber_32 (by decide) (fun hc => ?_) (fun hc => ?_)
      · replace hf := (if_pos hc).symm.trans hf
        cases hf
        exact hE _ _ _ hP hS (lv_sub hl [0, 1, 2, 3] rfl)
      · replace hf := (if_neg hc).symm.trans hf
        refine lv_aload_n hx hb dX2_putNumber_35 rfl (lv_at hl 0 rfl) ?_
        refine lv_bipush (v := (48 : Int32)) hx hb dX2_putNumber_36 (by decide) ?_
        refine lv_iload_n hx hb dX2_putNumber_38 rfl (lv_at hl 1 rfl) ?_
        refine lv_iload_n hx hb dX2_putNumber_39 rfl (lv_at hl 3 rfl) ?_
        obtain ⟨hg, hf⟩ := og hf
        refine lv_idiv hx hb dX2_putNumber_40 (gN_ne hg) ?_
        refine lv_bipush (v := (10 : Int32)) hx hb dX2_putNumber_41 (by decide) ?_
        refine lv_irem hx hb dX2_putNumber_43 (by decide) ?_
        refine lv_iadd hx hb dX2_putNumber_44 ?_
        obtain ⟨⟨qcLsz_6, qcSgn_7⟩, hq, hf⟩ := ob hf
        try dsimp only at hf
        refine mcVv 17 2 (As := [.int ((48 : Int32) + ((p0 / v3_3) - (p0 / v3_3) / (10 : Int32) * (10 : Int32)))]) (rest := []) ⟨hx, hb, hml, hown, hts⟩ (ctX2_put l D cI cB cZ ad A hAD cBad cFul cCnt cOpc cStp cTsz cRcn cPlc cFlt cVil wcLsz_4 cRts cLns cOpn cGps cTrl cWgt cRch cByt cWds cFst cSnd wcSgn_5 ((48 : Int32) + ((p0 / v3_3) - (p0 / v3_3) / (10 : Int32) * (10 : Int32))) qcLsz_6 qcSgn_7 hq) (cwV 1 hts gX2_putNumber_X2_put rfl rfl rfl (by decide +kernel) ⟨Nat.le_of_ble_eq_true rfl, Nat.le_of_ble_eq_true rfl⟩) hK hP hS rfl rfl rfl hl.1 rfl (Nat.le_of_ble_eq_true rfl) dX2_putNumber_45 ⟨Nat.zero_le _, Nat.zero_le _⟩ (fun H locs hP hS => ?_)
        refine lv_iload_n hx hb dX2_putNumber_48 rfl (lv_at hl 3 rfl) ?_
        refine lv_bipush (v := (10 : Int32)) hx hb dX2_putNumber_49 (by decide) ?_
        refine lv_idiv hx hb dX2_putNumber_51 (by decide) ?_
        refine lv_istore_n (lv' := [(3, .int (v3_3 / (10 : Int32))), (0, .ref (ad 17)), (1, .int p0), (2, .int ov2_1)]) hx hb dX2_putNumber_52 rfl hl (by decide) rfl (fun ls hl => ?_)
        refine lv_goto (tgt := 31) hx hb dX2_putNumber_53 (by decide) ?_
        exact ih _ _ _ _ _ _ _ _ _ hf hP hS (lv_sub hl [1, 2, 3, 0] rfl) hE
  obtain ⟨⟨ov3_3, owcLsz_4, owcSgn_5⟩, hq, hf⟩ := ob hf
  try dsimp only at hf
  refine hL31 FU _ _ _ ov3_3 owcLsz_4 owcSgn_5 _ _ ls hq hP hS (lv_sub hl [1, 2, 3, 0] rfl) (fun H locs ls hP hS hl => ?_)
  obtain ⟨e0, hz1⟩ := Prod.mk.inj (Option.some.inj hf)
  subst e0
  subst hz1
  exact rm_v hx hb hr hlk hP hS dX2_putNumber_56

def fX5_byteAt (cTsz : Int32) (cByt : Nat → Int32) (p0 : Int32) : Option (Int32) :=
  (if p0 < 0 then (some (-1 : Int32)) else (if cTsz ≤ p0 then (some (-1 : Int32)) else (if gI p0 120 then (some (cByt (p0).toNatClampNeg)) else none)))
set_option maxRecDepth 100000 in
set_option maxHeartbeats 4000000 in
theorem ctX5_byteAt (l : Launch) (D : va_G) (cI cB cZ : ClassId) (ad : Nat → Nat) (cBad cFul cCnt cOpc cStp cTsz cRcn cPlc cFlt cVil cLsz : Int32) (cRts cLns cOpn cGps cTrl cWgt cRch cByt cWds cFst cSnd cSgn : Nat → Int32) (p0 : Int32) (rv : Int32) (hf : fX5_byteAt cTsz cByt p0 = some rv) : Met l yX5_byteAt wsX5_byteAt (rmN 0 0) (PR D (tyL cI cB cZ) (wC cI cB cZ ad cBad cFul cCnt cOpc cStp cTsz cRcn cPlc cFlt cVil cLsz cRts cLns cOpn cGps cTrl cWgt cRch cByt cWds cFst cSnd cSgn) [.ref (ad 11), .int p0]) (SI rv) 0 0 (fun _ => False) := by
  refine mk_met cX5_byteAt 2 (some .int) (by decide) rfl (Nat.le_of_ble_eq_true rfl) ?_
  intro p e s m args below meth c ls hx hb hr hlk hml hown hts hPK hl
  obtain ⟨hP, hK⟩ := hPK
  replace hl : lv_has ls 2 [(0, .ref (ad 11)), (1, .int p0)] := hl
  replace hown : s.vm.findClass RX5 = some m.cls := hown
  have hiX5 : ∀ w ∈ wsX50, w ∈ wsX5_byteAt := fun w h => List.mem_cons_of_mem _ (List.mem_append_right _ h)
  unfold fX5_byteAt at hf
  refine lv_iload_n hx hb dX5_byteAt_0 rfl (lv_at hl 1 rfl) ?_
  refine lv_if_lt (tgt := 21) hx hb dX5_byteAt_1 (by decide) (fun hc => ?_) (fun hc => ?_)
  · replace hf := (if_pos hc).symm.trans hf
    refine lv_iconst (v := (-1 : Int32)) hx hb dX5_byteAt_21 (by decide) ?_
    exact re_i hx hb hr hlk dX5_byteAt_22 hf
  · replace hf := (if_neg hc).symm.trans hf
    refine lv_iload_n hx hb dX5_byteAt_4 rfl (lv_at hl 1 rfl) ?_
    refine lv_aload_n hx hb dX5_byteAt_5 rfl (lv_at hl 0 rfl) ?_
    refine va_get (ci := 5) (v := .int cTsz) (C := RX5) (T := TX5) (N := 2) hx hb hts hiX5 hown hK hP 11 rfl rfl 1 (by decide) (hts _ (List.mem_of_getElem? (i := 1) rfl)) (fun _ h9 => h9) rfl dX5_byteAt_6 ?_
    refine lv_icmp_ge (tgt := 21) hx hb dX5_byteAt_9 (by decide) (fun hc => ?_) (fun hc => ?_)
    · replace hf := (if_pos hc).symm.trans hf
      refine lv_iconst (v := (-1 : Int32)) hx hb dX5_byteAt_21 (by decide) ?_
      exact re_i hx hb hr hlk dX5_byteAt_22 hf
    · replace hf := (if_neg hc).symm.trans hf
      refine lv_aload_n hx hb dX5_byteAt_12 rfl (lv_at hl 0 rfl) ?_
      refine va_get (ci := 5) (v := .ref (ad 12)) (C := RX5) (T := TX5) (N := 2) hx hb hts hiX5 hown hK hP 11 rfl rfl 0 (by decide) (hts _ (List.mem_of_getElem? (i := 2) rfl)) (fun _ h9 => h9) rfl dX5_byteAt_13 ?_
      refine lv_iload_n hx hb dX5_byteAt_16 rfl (lv_at hl 1 rfl) ?_
      obtain ⟨hg, hf⟩ := og hf
      refine va_bald hx hb hK hP 12 1 rfl rfl (gI_in hg) dX5_byteAt_17 ?_
      refine lv_goto (tgt := 22) hx hb dX5_byteAt_18 (by decide) ?_
      exact re_i hx hb hr hlk dX5_byteAt_22 hf

def fX5_isLetter (cTsz : Int32) (cByt : Nat → Int32) (p0 : Int32) : Option (Int32) :=
  ((fX5_byteAt cTsz cByt p0).bind fun r_1 => (if r_1 < (97 : Int32) then (some (0 : Int32)) else (if (122 : Int32) < r_1 then (some (0 : Int32)) else (some (1 : Int32)))))
set_option maxRecDepth 100000 in
set_option maxHeartbeats 4000000 in
theorem ctX5_isLetter (l : Launch) (D : va_G) (cI cB cZ : ClassId) (ad : Nat → Nat) (cBad cFul cCnt cOpc cStp cTsz cRcn cPlc cFlt cVil cLsz : Int32) (cRts cLns cOpn cGps cTrl cWgt cRch cByt cWds cFst cSnd cSgn : Nat → Int32) (p0 : Int32) (rv : Int32) (hf : fX5_isLetter cTsz cByt p0 = some rv) : Met l yX5_isLetter wsX5_isLetter (rmN 1 21) (PR D (tyL cI cB cZ) (wC cI cB cZ ad cBad cFul cCnt cOpc cStp cTsz cRcn cPlc cFlt cVil cLsz cRts cLns cOpn cGps cTrl cWgt cRch cByt cWds cFst cSnd cSgn) [.ref (ad 11), .int p0]) (SI rv) 0 0 (fun _ => False) := by
  refine mk_met cX5_isLetter 3 (some .boolean) (by decide) rfl (Nat.le_of_ble_eq_true rfl) ?_
  intro p e s m args below meth c ls hx hb hr hlk hml hown hts hPK hl
  obtain ⟨hP, hK⟩ := hPK
  replace hl : lv_has ls 3 [(0, .ref (ad 11)), (1, .int p0)] := hl
  replace hown : s.vm.findClass RX5 = some m.cls := hown
  unfold fX5_isLetter at hf
  refine lv_aload_n hx hb dX5_isLetter_0 rfl (lv_at hl 0 rfl) ?_
  refine lv_iload_n hx hb dX5_isLetter_1 rfl (lv_at hl 1 rfl) ?_
  obtain ⟨r_1, hq, hf⟩ := ob hf
  try dsimp only at hf
  refine rcV 11 5 (As := [.int p0]) (rest := []) ⟨hx, hb, hml, hown, hts⟩ (ctX5_byteAt l D cI cB cZ ad cBad cFul cCnt cOpc cStp cTsz cRcn cPlc cFlt cVil cLsz cRts cLns cOpn cGps cTrl cWgt cRch cByt cWds cFst cSnd cSgn p0 r_1 hq) (cwV 1 hts gX5_isLetter_X5_byteAt rfl rfl rfl (by decide +kernel) ⟨Nat.le_of_ble_eq_true rfl, Nat.le_of_ble_eq_true rfl⟩) hK hP rfl rfl rfl hl.1 rfl (Nat.le_of_ble_eq_true rfl) dX5_isLetter_2 ⟨Nat.zero_le _, Nat.zero_le _⟩ ?_
  refine lv_istore_n (lv' := [(2, .int r_1), (0, .ref (ad 11)), (1, .int p0)]) hx hb dX5_isLetter_5 rfl hl (by decide) rfl (fun ls hl => ?_)
  refine lv_iload_n hx hb dX5_isLetter_6 rfl (lv_at hl 0 rfl) ?_
  refine lv_bipush (v := (97 : Int32)) hx hb dX5_isLetter_7 (by decide) ?_
  refine lv_icmp_lt (tgt := 22) hx hb dX5_isLetter_9 (by decide) (fun hc => ?_) (fun hc => ?_)
  · replace hf := (if_pos hc).symm.trans hf
    refine lv_iconst (v := (0 : Int32)) hx hb dX5_isLetter_22 (by decide) ?_
    exact re_z hx hb hr hlk (by decide) dX5_isLetter_23 hf
  · replace hf := (if_neg hc).symm.trans hf
    refine lv_iload_n hx hb dX5_isLetter_12 rfl (lv_at hl 0 rfl) ?_
    refine lv_bipush (v := (122 : Int32)) hx hb dX5_isLetter_13 (by decide) ?_
    refine lv_icmp_gt (tgt := 22) hx hb dX5_isLetter_15 (by decide) (fun hc => ?_) (fun hc => ?_)
    · replace hf := (if_pos hc).symm.trans hf
      refine lv_iconst (v := (0 : Int32)) hx hb dX5_isLetter_22 (by decide) ?_
      exact re_z hx hb hr hlk (by decide) dX5_isLetter_23 hf
    · replace hf := (if_neg hc).symm.trans hf
      refine lv_iconst (v := (1 : Int32)) hx hb dX5_isLetter_18 (by decide) ?_
      refine lv_goto (tgt := 23) hx hb dX5_isLetter_19 (by decide) ?_
      exact re_z hx hb hr hlk (by decide) dX5_isLetter_23 hf

def fX5_isFigure (cTsz : Int32) (cByt : Nat → Int32) (p0 : Int32) : Option (Int32) :=
  ((fX5_byteAt cTsz cByt p0).bind fun r_1 => (if r_1 < (48 : Int32) then (some (0 : Int32)) else (if (57 : Int32) < r_1 then (some (0 : Int32)) else (some (1 : Int32)))))
set_option maxRecDepth 100000 in
set_option maxHeartbeats 4000000 in
theorem ctX5_isFigure (l : Launch) (D : va_G) (cI cB cZ : ClassId) (ad : Nat → Nat) (cBad cFul cCnt cOpc cStp cTsz cRcn cPlc cFlt cVil cLsz : Int32) (cRts cLns cOpn cGps cTrl cWgt cRch cByt cWds cFst cSnd cSgn : Nat → Int32) (p0 : Int32) (rv : Int32) (hf : fX5_isFigure cTsz cByt p0 = some rv) : Met l yX5_isFigure wsX5_isFigure (rmN 1 21) (PR D (tyL cI cB cZ) (wC cI cB cZ ad cBad cFul cCnt cOpc cStp cTsz cRcn cPlc cFlt cVil cLsz cRts cLns cOpn cGps cTrl cWgt cRch cByt cWds cFst cSnd cSgn) [.ref (ad 11), .int p0]) (SI rv) 0 0 (fun _ => False) := by
  refine mk_met cX5_isFigure 3 (some .boolean) (by decide) rfl (Nat.le_of_ble_eq_true rfl) ?_
  intro p e s m args below meth c ls hx hb hr hlk hml hown hts hPK hl
  obtain ⟨hP, hK⟩ := hPK
  replace hl : lv_has ls 3 [(0, .ref (ad 11)), (1, .int p0)] := hl
  replace hown : s.vm.findClass RX5 = some m.cls := hown
  unfold fX5_isFigure at hf
  refine lv_aload_n hx hb dX5_isFigure_0 rfl (lv_at hl 0 rfl) ?_
  refine lv_iload_n hx hb dX5_isFigure_1 rfl (lv_at hl 1 rfl) ?_
  obtain ⟨r_1, hq, hf⟩ := ob hf
  try dsimp only at hf
  refine rcV 11 5 (As := [.int p0]) (rest := []) ⟨hx, hb, hml, hown, hts⟩ (ctX5_byteAt l D cI cB cZ ad cBad cFul cCnt cOpc cStp cTsz cRcn cPlc cFlt cVil cLsz cRts cLns cOpn cGps cTrl cWgt cRch cByt cWds cFst cSnd cSgn p0 r_1 hq) (cwV 1 hts gX5_isFigure_X5_byteAt rfl rfl rfl (by decide +kernel) ⟨Nat.le_of_ble_eq_true rfl, Nat.le_of_ble_eq_true rfl⟩) hK hP rfl rfl rfl hl.1 rfl (Nat.le_of_ble_eq_true rfl) dX5_isFigure_2 ⟨Nat.zero_le _, Nat.zero_le _⟩ ?_
  refine lv_istore_n (lv' := [(2, .int r_1), (0, .ref (ad 11)), (1, .int p0)]) hx hb dX5_isFigure_5 rfl hl (by decide) rfl (fun ls hl => ?_)
  refine lv_iload_n hx hb dX5_isFigure_6 rfl (lv_at hl 0 rfl) ?_
  refine lv_bipush (v := (48 : Int32)) hx hb dX5_isFigure_7 (by decide) ?_
  refine lv_icmp_lt (tgt := 22) hx hb dX5_isFigure_9 (by decide) (fun hc => ?_) (fun hc => ?_)
  · replace hf := (if_pos hc).symm.trans hf
    refine lv_iconst (v := (0 : Int32)) hx hb dX5_isFigure_22 (by decide) ?_
    exact re_z hx hb hr hlk (by decide) dX5_isFigure_23 hf
  · replace hf := (if_neg hc).symm.trans hf
    refine lv_iload_n hx hb dX5_isFigure_12 rfl (lv_at hl 0 rfl) ?_
    refine lv_bipush (v := (57 : Int32)) hx hb dX5_isFigure_13 (by decide) ?_
    refine lv_icmp_gt (tgt := 22) hx hb dX5_isFigure_15 (by decide) (fun hc => ?_) (fun hc => ?_)
    · replace hf := (if_pos hc).symm.trans hf
      refine lv_iconst (v := (0 : Int32)) hx hb dX5_isFigure_22 (by decide) ?_
      exact re_z hx hb hr hlk (by decide) dX5_isFigure_23 hf
    · replace hf := (if_neg hc).symm.trans hf
      refine lv_iconst (v := (1 : Int32)) hx hb dX5_isFigure_18 (by decide) ?_
      refine lv_goto (tgt := 23) hx hb dX5_isFigure_19 (by decide) ?_
      exact re_z hx hb hr hlk (by decide) dX5_isFigure_23 hf
