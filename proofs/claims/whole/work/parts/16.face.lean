def fX8_refuseBad (cBad : Int32)  : Option (Int32 × Int32) :=
  (some ((-2 : Int32), (cBad + (1 : Int32))))
set_option maxRecDepth 100000 in
set_option maxHeartbeats 4000000 in
theorem ctX8_refuseBad (l : Launch) (D : va_G) (cI cB cZ : ClassId) (ad : Nat → Nat) (A : Nat → Prop) (hAD : AD A ad 20) (cBad cFul cCnt cOpc cStp cTsz cRcn cPlc cFlt cVil cLsz : Int32) (cRts cLns cOpn cGps cTrl cWgt cRch cByt cWds cFst cSnd cSgn : Nat → Int32)  (rv : Int32) (zcBad : Int32) (hf : fX8_refuseBad cBad = some (rv, zcBad)) : Met l yX8_refuseBad wsX8_refuseBad (rmN 0 0) (PR D (tyL cI cB cZ) (wC cI cB cZ ad cBad cFul cCnt cOpc cStp cTsz cRcn cPlc cFlt cVil cLsz cRts cLns cOpn cGps cTrl cWgt cRch cByt cWds cFst cSnd cSgn) [.ref (ad 0)]) (QI D (wC cI cB cZ ad zcBad cFul cCnt cOpc cStp cTsz cRcn cPlc cFlt cVil cLsz cRts cLns cOpn cGps cTrl cWgt cRch cByt cWds cFst cSnd cSgn) A rv) 0 0 A := by
  refine mk_met cX8_refuseBad 1 (some .int) (by decide) rfl (Nat.le_of_ble_eq_true rfl) ?_
  intro p e s m args below meth c ls hx hb hr hlk hml hown hts hPK hl
  obtain ⟨hP, hK⟩ := hPK
  replace hl : lv_has ls 1 [(0, .ref (ad 0))] := hl
  replace hown : s.vm.findClass RX8 = some m.cls := hown
  have hiX8 : ∀ w ∈ wsX80, w ∈ wsX8_refuseBad := fun w h => List.mem_cons_of_mem _ (List.mem_append_right _ h)
  have hS : va_S A s.heap s.heap [] := va_S.rf
  unfold fX8_refuseBad at hf
  refine lv_aload_n hx hb dX8_refuseBad_0 rfl (lv_at hl 0 rfl) ?_
  refine lv_dup hx hb dX8_refuseBad_1 rfl ?_
  refine va_get (ci := 7) (v := .int cBad) (C := RX8) (T := TX8) (N := 9) hx hb hts hiX8 hown hK hP 0 rfl rfl 7 (by decide) (hts _ (List.mem_of_getElem? (i := 1) rfl)) (fun _ h9 => h9) rfl dX8_refuseBad_2 ?_
  refine lv_iconst (v := (1 : Int32)) hx hb dX8_refuseBad_5 (by decide) ?_
  refine lv_iadd hx hb dX8_refuseBad_6 ?_
  refine va_put (ci := 7) (v := .int (cBad + (1 : Int32))) (ty := .int) (C := RX8) (T := TX8) (N := 9) hx hb hts hiX8 tyX8 tyX8_ok nmX8 hown hK hP (wC_D hAD) hS 0 rfl rfl 7 (by decide) (hts _ (List.mem_of_getElem? (i := 1) rfl)) (fun _ h9 => h9) rfl (tyX8_ok 7 (by decide)) rfl rfl (Nat.le_of_ble_eq_true rfl) dX8_refuseBad_7 (fun H locs hP _ hS => ?_)
  have hP : va_P D vwCl (wC cI cB cZ ad (cBad + (1 : Int32)) cFul cCnt cOpc cStp cTsz cRcn cPlc cFlt cVil cLsz cRts cLns cOpn cGps cTrl cWgt cRch cByt cWds cFst cSnd cSgn) H := hP
  refine lv_bipush (v := (-2 : Int32)) hx hb dX8_refuseBad_10 (by decide) ?_
  obtain ⟨e0, hz1⟩ := Prod.mk.inj (Option.some.inj hf)
  subst e0
  subst hz1
  exact rm_i hx hb hr hlk hP hS dX8_refuseBad_12

def fX8_refuseFull (cFul : Int32)  : Option (Int32 × Int32) :=
  (some ((-4 : Int32), (cFul + (1 : Int32))))
set_option maxRecDepth 100000 in
set_option maxHeartbeats 4000000 in
theorem ctX8_refuseFull (l : Launch) (D : va_G) (cI cB cZ : ClassId) (ad : Nat → Nat) (A : Nat → Prop) (hAD : AD A ad 20) (cBad cFul cCnt cOpc cStp cTsz cRcn cPlc cFlt cVil cLsz : Int32) (cRts cLns cOpn cGps cTrl cWgt cRch cByt cWds cFst cSnd cSgn : Nat → Int32)  (rv : Int32) (zcFul : Int32) (hf : fX8_refuseFull cFul = some (rv, zcFul)) : Met l yX8_refuseFull wsX8_refuseFull (rmN 0 0) (PR D (tyL cI cB cZ) (wC cI cB cZ ad cBad cFul cCnt cOpc cStp cTsz cRcn cPlc cFlt cVil cLsz cRts cLns cOpn cGps cTrl cWgt cRch cByt cWds cFst cSnd cSgn) [.ref (ad 0)]) (QI D (wC cI cB cZ ad cBad zcFul cCnt cOpc cStp cTsz cRcn cPlc cFlt cVil cLsz cRts cLns cOpn cGps cTrl cWgt cRch cByt cWds cFst cSnd cSgn) A rv) 0 0 A := by
  refine mk_met cX8_refuseFull 1 (some .int) (by decide) rfl (Nat.le_of_ble_eq_true rfl) ?_
  intro p e s m args below meth c ls hx hb hr hlk hml hown hts hPK hl
  obtain ⟨hP, hK⟩ := hPK
  replace hl : lv_has ls 1 [(0, .ref (ad 0))] := hl
  replace hown : s.vm.findClass RX8 = some m.cls := hown
  have hiX8 : ∀ w ∈ wsX80, w ∈ wsX8_refuseFull := fun w h => List.mem_cons_of_mem _ (List.mem_append_right _ h)
  have hS : va_S A s.heap s.heap [] := va_S.rf
  unfold fX8_refuseFull at hf
  refine lv_aload_n hx hb dX8_refuseFull_0 rfl (lv_at hl 0 rfl) ?_
  refine lv_dup hx hb dX8_refuseFull_1 rfl ?_
  refine va_get (ci := 7) (v := .int cFul) (C := RX8) (T := TX8) (N := 9) hx hb hts hiX8 hown hK hP 0 rfl rfl 8 (by decide) (hts _ (List.mem_of_getElem? (i := 1) rfl)) (fun _ h9 => h9) rfl dX8_refuseFull_2 ?_
  refine lv_iconst (v := (1 : Int32)) hx hb dX8_refuseFull_5 (by decide) ?_
  refine lv_iadd hx hb dX8_refuseFull_6 ?_
  refine va_put (ci := 7) (v := .int (cFul + (1 : Int32))) (ty := .int) (C := RX8) (T := TX8) (N := 9) hx hb hts hiX8 tyX8 tyX8_ok nmX8 hown hK hP (wC_D hAD) hS 0 rfl rfl 8 (by decide) (hts _ (List.mem_of_getElem? (i := 1) rfl)) (fun _ h9 => h9) rfl (tyX8_ok 8 (by decide)) rfl rfl (Nat.le_of_ble_eq_true rfl) dX8_refuseFull_7 (fun H locs hP _ hS => ?_)
  have hP : va_P D vwCl (wC cI cB cZ ad cBad (cFul + (1 : Int32)) cCnt cOpc cStp cTsz cRcn cPlc cFlt cVil cLsz cRts cLns cOpn cGps cTrl cWgt cRch cByt cWds cFst cSnd cSgn) H := hP
  refine lv_bipush (v := (-4 : Int32)) hx hb dX8_refuseFull_10 (by decide) ?_
  obtain ⟨e0, hz1⟩ := Prod.mk.inj (Option.some.inj hf)
  subst e0
  subst hz1
  exact rm_i hx hb hr hlk hP hS dX8_refuseFull_12

def fX8_add_J18 (cBad : Int32) (cFul : Int32) (cCnt : Int32) (cRts : Nat → Int32) (cLns : Nat → Int32) (cOpn : Nat → Int32) (cGps : Nat → Int32) : Option (Int32 × Int32 × Int32 × Int32 × (Nat → Int32) × (Nat → Int32) × (Nat → Int32) × (Nat → Int32)) :=
  ((fX8_refuseBad cBad).bind fun (r_2, qcBad_3) => (some (r_2, qcBad_3, cFul, cCnt, cRts, cLns, cOpn, cGps)))
def fX8_add (cBad : Int32) (cFul : Int32) (cCnt : Int32) (cRts : Nat → Int32) (cLns : Nat → Int32) (cOpn : Nat → Int32) (cGps : Nat → Int32) (p0 : Int32) (p1 : Int32) : Option (Int32 × Int32 × Int32 × Int32 × (Nat → Int32) × (Nat → Int32) × (Nat → Int32) × (Nat → Int32)) :=
  ((fX1_has cCnt p0).bind fun r_1 => (if r_1 = 0 then (fX8_add_J18 cBad cFul cCnt cRts cLns cOpn cGps) else ((fX8_isLength p1).bind fun r_4 => (if r_4 = 0 then (fX8_add_J18 cBad cFul cCnt cRts cLns cOpn cGps) else (if cCnt < (60 : Int32) then ((fX1_settle cCnt cRts cLns cOpn cGps p0 p1).bind fun (r_5, qcCnt_6, qcRts_7, qcLns_8, qcOpn_9, qcGps_10) => (some (r_5, cBad, cFul, qcCnt_6, qcRts_7, qcLns_8, qcOpn_9, qcGps_10))) else ((fX8_refuseFull cFul).bind fun (r_11, qcFul_12) => (some (r_11, cBad, qcFul_12, cCnt, cRts, cLns, cOpn, cGps))))))))
set_option maxRecDepth 100000 in
set_option maxHeartbeats 4000000 in
theorem ctX8_add (l : Launch) (D : va_G) (cI cB cZ : ClassId) (ad : Nat → Nat) (A : Nat → Prop) (hAD : AD A ad 20) (cBad cFul cCnt cOpc cStp cTsz cRcn cPlc cFlt cVil cLsz : Int32) (cRts cLns cOpn cGps cTrl cWgt cRch cByt cWds cFst cSnd cSgn : Nat → Int32) (p0 : Int32) (p1 : Int32) (rv : Int32) (zcBad : Int32) (zcFul : Int32) (zcCnt : Int32) (zcRts : Nat → Int32) (zcLns : Nat → Int32) (zcOpn : Nat → Int32) (zcGps : Nat → Int32) (hf : fX8_add cBad cFul cCnt cRts cLns cOpn cGps p0 p1 = some (rv, zcBad, zcFul, zcCnt, zcRts, zcLns, zcOpn, zcGps)) : Met l yX8_add wsX8_add (rmN 3 70) (PR D (tyL cI cB cZ) (wC cI cB cZ ad cBad cFul cCnt cOpc cStp cTsz cRcn cPlc cFlt cVil cLsz cRts cLns cOpn cGps cTrl cWgt cRch cByt cWds cFst cSnd cSgn) [.ref (ad 0), .int p0, .int p1]) (QI D (wC cI cB cZ ad zcBad zcFul zcCnt cOpc cStp cTsz cRcn cPlc cFlt cVil cLsz zcRts zcLns zcOpn zcGps cTrl cWgt cRch cByt cWds cFst cSnd cSgn) A rv) 0 0 A := by
  refine mk_met cX8_add 3 (some .int) (by decide) rfl (Nat.le_of_ble_eq_true rfl) ?_
  intro p e s m args below meth c ls hx hb hr hlk hml hown hts hPK hl
  obtain ⟨hP, hK⟩ := hPK
  replace hl : lv_has ls 3 [(0, .ref (ad 0)), (1, .int p0), (2, .int p1)] := hl
  replace hown : s.vm.findClass RX8 = some m.cls := hown
  have hiX1 : ∀ w ∈ wsX10, w ∈ wsX8_add := fun w h => List.mem_cons_of_mem _ (List.mem_append_right _ h)
  have hiX8 : ∀ w ∈ wsX80, w ∈ wsX8_add := fun w h => List.mem_cons_of_mem _ (List.mem_append_left _ (List.mem_append_right _ h))
  have hS : va_S A s.heap s.heap [] := va_S.rf
  unfold fX8_add at hf
  refine lv_aload_n hx hb dX8_add_0 rfl (lv_at hl 0 rfl) ?_
  refine va_get (ci := 7) (v := .ref (ad 1)) (C := RX8) (T := TX8) (N := 9) hx hb hts hiX8 hown hK hP 0 rfl rfl 0 (by decide) (hts _ (List.mem_of_getElem? (i := 1) rfl)) (fun _ h9 => h9) rfl dX8_add_1 ?_
  refine lv_iload_n hx hb dX8_add_4 rfl (lv_at hl 1 rfl) ?_
  obtain ⟨r_1, hq, hf⟩ := ob hf
  try dsimp only at hf
  refine rcV 1 1 (As := [.int p0]) (rest := []) ⟨hx, hb, hml, hown, hts⟩ (ctX1_has l D cI cB cZ ad cBad cFul cCnt cOpc cStp cTsz cRcn cPlc cFlt cVil cLsz cRts cLns cOpn cGps cTrl cWgt cRch cByt cWds cFst cSnd cSgn p0 r_1 hq) (cwV 1 hts gX8_add_X1_has rfl rfl rfl (by decide +kernel) ⟨Nat.le_of_ble_eq_true rfl, Nat.le_of_ble_eq_true rfl⟩) hK hP rfl rfl rfl hl.1 rfl (Nat.le_of_ble_eq_true rfl) dX8_add_5 ⟨Nat.zero_le _, Nat.zero_le _⟩ ?_
  have hJ18 : ∀  (H : Heap) (locs : List Loc) (ls : Array Slot), fX8_add_J18 cBad cFul cCnt cRts cLns cOpn cGps = some (rv, zcBad, zcFul, zcCnt, zcRts, zcLns, zcOpn, zcGps) → va_P D vwCl (wC cI cB cZ ad cBad cFul cCnt cOpc cStp cTsz cRcn cPlc cFlt cVil cLsz cRts cLns cOpn cGps cTrl cWgt cRch cByt cWds cFst cSnd cSgn) H → va_S A s.heap H locs → lv_has ls 3 [(0, .ref (ad 0)), (1, .int p0), (2, .int p1)] → W p l e (rmN 3 70) s m args below meth c H locs 0 0 (MQ below (QI D (wC cI cB cZ ad zcBad zcFul zcCnt cOpc cStp cTsz cRcn cPlc cFlt cVil cLsz zcRts zcLns zcOpn zcGps cTrl cWgt cRch cByt cWds cFst cSnd cSgn) A rv) args s 0 0 A) (F0 m 18 ls []) := by
    intro  H locs ls hf hP hS hl
    unfold fX8_add_J18 at hf
    refine lv_aload_n hx hb dX8_add_18 rfl (lv_at hl 0 rfl) ?_
    obtain ⟨⟨r_2, qcBad_3⟩, hq, hf⟩ := ob hf
    try dsimp only at hf
    refine mcVi 0 7 (As := []) (rest := []) ⟨hx, hb, hml, hown, hts⟩ (ctX8_refuseBad l D cI cB cZ ad A hAD cBad cFul cCnt cOpc cStp cTsz cRcn cPlc cFlt cVil cLsz cRts cLns cOpn cGps cTrl cWgt cRch cByt cWds cFst cSnd cSgn  r_2 qcBad_3 hq) (cwV 0 hts gX8_add_X8_refuseBad rfl rfl rfl (by decide +kernel) ⟨Nat.le_of_ble_eq_true rfl, Nat.le_of_ble_eq_true rfl⟩) hK hP hS rfl rfl rfl hl.1 rfl (Nat.le_of_ble_eq_true rfl) dX8_add_19 ⟨Nat.zero_le _, Nat.zero_le _⟩ (fun H locs hP hS => ?_)
    obtain ⟨e0, hz1⟩ := Prod.mk.inj (Option.some.inj hf)
    obtain ⟨e1, hz2⟩ := Prod.mk.inj hz1
    obtain ⟨e2, hz3⟩ := Prod.mk.inj hz2
    obtain ⟨e3, hz4⟩ := Prod.mk.inj hz3
    obtain ⟨e4, hz5⟩ := Prod.mk.inj hz4
    obtain ⟨e5, hz6⟩ := Prod.mk.inj hz5
    obtain ⟨e6, hz7⟩ := Prod.mk.inj hz6
    subst e0
    subst e1
    subst e2
    subst e3
    subst e4
    subst e5
    subst e6
    subst hz7
    exact rm_i hx hb hr hlk hP hS dX8_add_22
  refine lv_if_eq (tgt := 18) hx hb dX8_add_8 (by decide) (fun hc => ?_) (fun hc => ?_)
  · replace hf := (if_pos hc).symm.trans hf
    exact hJ18  _ _ _ hf hP hS (lv_sub hl [0, 1, 2] rfl)
  · replace hf := (if_neg hc).symm.trans hf
    refine lv_iload_n hx hb dX8_add_11 rfl (lv_at hl 2 rfl) ?_
    obtain ⟨r_4, hq, hf⟩ := ob hf
    try dsimp only at hf
    refine rcS (As := [.int p1]) (rest := []) ⟨hx, hb, hml, hown, hts⟩ (ctX8_isLength l p1 r_4 hq) (va_cwS 1 hts gX8_add_X8_isLength rfl rfl rfl (by decide +kernel) ⟨Nat.le_of_ble_eq_true rfl, Nat.le_of_ble_eq_true rfl⟩) rfl hl.1 rfl (Nat.le_of_ble_eq_true rfl) dX8_add_12 ⟨Nat.zero_le _, Nat.zero_le _⟩ ?_
    refine lv_if_ne (tgt := 23) hx hb dX8_add_15 (by decide) (fun hc => ?_) (fun hc => ?_)
    · replace hf := (if_neg hc).symm.trans hf
      refine lv_aload_n hx hb dX8_add_23 rfl (lv_at hl 0 rfl) ?_
      refine va_get (ci := 7) (v := .ref (ad 1)) (C := RX8) (T := TX8) (N := 9) hx hb hts hiX8 hown hK hP 0 rfl rfl 0 (by decide) (hts _ (List.mem_of_getElem? (i := 1) rfl)) (fun _ h9 => h9) rfl dX8_add_24 ?_
      refine va_get (ci := 1) (v := .int cCnt) (C := RX1) (T := TX1) (N := 6) hx hb hts hiX1 hown hK hP 1 rfl rfl 4 (by decide) (hts _ (List.mem_of_getElem? (i := 2) rfl)) (fun _ h9 => h9) rfl dX8_add_27 ?_
      refine lv_bipush (v := (60 : Int32)) hx hb dX8_add_30 (by decide) ?_
      refine lv_icmp_lt (tgt := 40) hx hb dX8_add_32 (by decide) (fun hc => ?_) (fun hc => ?_)
      · replace hf := (if_pos hc).symm.trans hf
        refine lv_aload_n hx hb dX8_add_40 rfl (lv_at hl 0 rfl) ?_
        refine va_get (ci := 7) (v := .ref (ad 1)) (C := RX8) (T := TX8) (N := 9) hx hb hts hiX8 hown hK hP 0 rfl rfl 0 (by decide) (hts _ (List.mem_of_getElem? (i := 1) rfl)) (fun _ h9 => h9) rfl dX8_add_41 ?_
        refine lv_iload_n hx hb dX8_add_44 rfl (lv_at hl 1 rfl) ?_
        refine lv_iload_n hx hb dX8_add_45 rfl (lv_at hl 2 rfl) ?_
        obtain ⟨⟨r_5, qcCnt_6, qcRts_7, qcLns_8, qcOpn_9, qcGps_10⟩, hq, hf⟩ := ob hf
        try dsimp only at hf
        refine mcVi 1 1 (As := [.int p0, .int p1]) (rest := []) ⟨hx, hb, hml, hown, hts⟩ (ctX1_settle l D cI cB cZ ad A hAD cBad cFul cCnt cOpc cStp cTsz cRcn cPlc cFlt cVil cLsz cRts cLns cOpn cGps cTrl cWgt cRch cByt cWds cFst cSnd cSgn p0 p1 r_5 qcCnt_6 qcRts_7 qcLns_8 qcOpn_9 qcGps_10 hq) (cwV 2 hts gX8_add_X1_settle rfl rfl rfl (by decide +kernel) ⟨Nat.le_of_ble_eq_true rfl, Nat.le_of_ble_eq_true rfl⟩) hK hP hS rfl rfl rfl hl.1 rfl (Nat.le_of_ble_eq_true rfl) dX8_add_46 ⟨Nat.zero_le _, Nat.zero_le _⟩ (fun H locs hP hS => ?_)
        obtain ⟨e0, hz1⟩ := Prod.mk.inj (Option.some.inj hf)
        obtain ⟨e1, hz2⟩ := Prod.mk.inj hz1
        obtain ⟨e2, hz3⟩ := Prod.mk.inj hz2
        obtain ⟨e3, hz4⟩ := Prod.mk.inj hz3
        obtain ⟨e4, hz5⟩ := Prod.mk.inj hz4
        obtain ⟨e5, hz6⟩ := Prod.mk.inj hz5
        obtain ⟨e6, hz7⟩ := Prod.mk.inj hz6
        subst e0
        subst e1
        subst e2
        subst e3
        subst e4
        subst e5
        subst e6
        subst hz7
        exact rm_i hx hb hr hlk hP hS dX8_add_49
      · replace hf := (if_neg hc).symm.trans hf
        refine lv_aload_n hx hb dX8_add_35 rfl (lv_at hl 0 rfl) ?_
        obtain ⟨⟨r_11, qcFul_12⟩, hq, hf⟩ := ob hf
        try dsimp only at hf
        refine mcVi 0 7 (As := []) (rest := []) ⟨hx, hb, hml, hown, hts⟩ (ctX8_refuseFull l D cI cB cZ ad A hAD cBad cFul cCnt cOpc cStp cTsz cRcn cPlc cFlt cVil cLsz cRts cLns cOpn cGps cTrl cWgt cRch cByt cWds cFst cSnd cSgn  r_11 qcFul_12 hq) (cwV 0 hts gX8_add_X8_refuseFull rfl rfl rfl (by decide +kernel) ⟨Nat.le_of_ble_eq_true rfl, Nat.le_of_ble_eq_true rfl⟩) hK hP hS rfl rfl rfl hl.1 rfl (Nat.le_of_ble_eq_true rfl) dX8_add_36 ⟨Nat.zero_le _, Nat.zero_le _⟩ (fun H locs hP hS => ?_)
        obtain ⟨e0, hz1⟩ := Prod.mk.inj (Option.some.inj hf)
        obtain ⟨e1, hz2⟩ := Prod.mk.inj hz1
        obtain ⟨e2, hz3⟩ := Prod.mk.inj hz2
        obtain ⟨e3, hz4⟩ := Prod.mk.inj hz3
        obtain ⟨e4, hz5⟩ := Prod.mk.inj hz4
        obtain ⟨e5, hz6⟩ := Prod.mk.inj hz5
        obtain ⟨e6, hz7⟩ := Prod.mk.inj hz6
        subst e0
        subst e1
        subst e2
        subst e3
        subst e4
        subst e5
        subst e6
        subst hz7
        exact rm_i hx hb hr hlk hP hS dX8_add_39
    · replace hf := (if_pos hc).symm.trans hf
      exact hJ18  _ _ _ hf hP hS (lv_sub hl [0, 1, 2] rfl)

def fX8_depot_J19 (cBad : Int32) (cOpc : Int32) (cOpn : Nat → Int32) : Option (Int32 × Int32 × Int32 × (Nat → Int32)) :=
  ((fX8_refuseBad cBad).bind fun (r_2, qcBad_3) => (some (r_2, qcBad_3, cOpc, cOpn)))
def fX8_depot_J39 (cBad : Int32) (cCnt : Int32) (cOpc : Int32) (cOpn : Nat → Int32) (p0 : Int32) (t_5 : Int32) : Option (Int32 × Int32 × Int32 × (Nat → Int32)) :=
  ((fX1_setDepot cCnt cOpc cOpn p0 t_5).bind fun (r_6, qcOpc_7, qcOpn_8) => (some (r_6, cBad, qcOpc_7, qcOpn_8)))
def fX8_depot (cBad : Int32) (cCnt : Int32) (cOpc : Int32) (cOpn : Nat → Int32) (p0 : Int32) (p1 : Int32) : Option (Int32 × Int32 × Int32 × (Nat → Int32)) :=
  ((fX1_has cCnt p0).bind fun r_1 => (if r_1 = 0 then (fX8_depot_J19 cBad cOpc cOpn) else ((fX8_isUpTo p1 (1 : Int32)).bind fun r_4 => (if r_4 = 0 then (fX8_depot_J19 cBad cOpc cOpn) else (if p1 = (1 : Int32) then (fX8_depot_J39 cBad cCnt cOpc cOpn p0 (1 : Int32)) else (fX8_depot_J39 cBad cCnt cOpc cOpn p0 (0 : Int32)))))))
set_option maxRecDepth 100000 in
set_option maxHeartbeats 4000000 in
theorem ctX8_depot (l : Launch) (D : va_G) (cI cB cZ : ClassId) (ad : Nat → Nat) (A : Nat → Prop) (hAD : AD A ad 20) (cBad cFul cCnt cOpc cStp cTsz cRcn cPlc cFlt cVil cLsz : Int32) (cRts cLns cOpn cGps cTrl cWgt cRch cByt cWds cFst cSnd cSgn : Nat → Int32) (p0 : Int32) (p1 : Int32) (rv : Int32) (zcBad : Int32) (zcOpc : Int32) (zcOpn : Nat → Int32) (hf : fX8_depot cBad cCnt cOpc cOpn p0 p1 = some (rv, zcBad, zcOpc, zcOpn)) : Met l yX8_depot wsX8_depot (rmN 2 43) (PR D (tyL cI cB cZ) (wC cI cB cZ ad cBad cFul cCnt cOpc cStp cTsz cRcn cPlc cFlt cVil cLsz cRts cLns cOpn cGps cTrl cWgt cRch cByt cWds cFst cSnd cSgn) [.ref (ad 0), .int p0, .int p1]) (QI D (wC cI cB cZ ad zcBad cFul cCnt zcOpc cStp cTsz cRcn cPlc cFlt cVil cLsz cRts cLns zcOpn cGps cTrl cWgt cRch cByt cWds cFst cSnd cSgn) A rv) 0 0 A := by
  refine mk_met cX8_depot 3 (some .int) (by decide) rfl (Nat.le_of_ble_eq_true rfl) ?_
  intro p e s m args below meth c ls hx hb hr hlk hml hown hts hPK hl
  obtain ⟨hP, hK⟩ := hPK
  replace hl : lv_has ls 3 [(0, .ref (ad 0)), (1, .int p0), (2, .int p1)] := hl
  replace hown : s.vm.findClass RX8 = some m.cls := hown
  have hiX8 : ∀ w ∈ wsX80, w ∈ wsX8_depot := fun w h => List.mem_cons_of_mem _ (List.mem_append_left _ (List.mem_append_right _ h))
  have hS : va_S A s.heap s.heap [] := va_S.rf
  unfold fX8_depot at hf
  refine lv_aload_n hx hb dX8_depot_0 rfl (lv_at hl 0 rfl) ?_
  refine va_get (ci := 7) (v := .ref (ad 1)) (C := RX8) (T := TX8) (N := 9) hx hb hts hiX8 hown hK hP 0 rfl rfl 0 (by decide) (hts _ (List.mem_of_getElem? (i := 1) rfl)) (fun _ h9 => h9) rfl dX8_depot_1 ?_
  refine lv_iload_n hx hb dX8_depot_4 rfl (lv_at hl 1 rfl) ?_
  obtain ⟨r_1, hq, hf⟩ := ob hf
  try dsimp only at hf
  refine rcV 1 1 (As := [.int p0]) (rest := []) ⟨hx, hb, hml, hown, hts⟩ (ctX1_has l D cI cB cZ ad cBad cFul cCnt cOpc cStp cTsz cRcn cPlc cFlt cVil cLsz cRts cLns cOpn cGps cTrl cWgt cRch cByt cWds cFst cSnd cSgn p0 r_1 hq) (cwV 1 hts gX8_depot_X1_has rfl rfl rfl (by decide +kernel) ⟨Nat.le_of_ble_eq_true rfl, Nat.le_of_ble_eq_true rfl⟩) hK hP rfl rfl rfl hl.1 rfl (Nat.le_of_ble_eq_true rfl) dX8_depot_5 ⟨Nat.zero_le _, Nat.zero_le _⟩ ?_
  have hJ19 : ∀  (H : Heap) (locs : List Loc) (ls : Array Slot), fX8_depot_J19 cBad cOpc cOpn = some (rv, zcBad, zcOpc, zcOpn) → va_P D vwCl (wC cI cB cZ ad cBad cFul cCnt cOpc cStp cTsz cRcn cPlc cFlt cVil cLsz cRts cLns cOpn cGps cTrl cWgt cRch cByt cWds cFst cSnd cSgn) H → va_S A s.heap H locs → lv_has ls 3 [(0, .ref (ad 0)), (1, .int p0), (2, .int p1)] → W p l e (rmN 2 43) s m args below meth c H locs 0 0 (MQ below (QI D (wC cI cB cZ ad zcBad cFul cCnt zcOpc cStp cTsz cRcn cPlc cFlt cVil cLsz cRts cLns zcOpn cGps cTrl cWgt cRch cByt cWds cFst cSnd cSgn) A rv) args s 0 0 A) (F0 m 19 ls []) := by
    intro  H locs ls hf hP hS hl
    unfold fX8_depot_J19 at hf
    refine lv_aload_n hx hb dX8_depot_19 rfl (lv_at hl 0 rfl) ?_
    obtain ⟨⟨r_2, qcBad_3⟩, hq, hf⟩ := ob hf
    try dsimp only at hf
    refine mcVi 0 7 (As := []) (rest := []) ⟨hx, hb, hml, hown, hts⟩ (ctX8_refuseBad l D cI cB cZ ad A hAD cBad cFul cCnt cOpc cStp cTsz cRcn cPlc cFlt cVil cLsz cRts cLns cOpn cGps cTrl cWgt cRch cByt cWds cFst cSnd cSgn  r_2 qcBad_3 hq) (cwV 0 hts gX8_depot_X8_refuseBad rfl rfl rfl (by decide +kernel) ⟨Nat.le_of_ble_eq_true rfl, Nat.le_of_ble_eq_true rfl⟩) hK hP hS rfl rfl rfl hl.1 rfl (Nat.le_of_ble_eq_true rfl) dX8_depot_20 ⟨Nat.zero_le _, Nat.zero_le _⟩ (fun H locs hP hS => ?_)
    obtain ⟨e0, hz1⟩ := Prod.mk.inj (Option.some.inj hf)
    obtain ⟨e1, hz2⟩ := Prod.mk.inj hz1
    obtain ⟨e2, hz3⟩ := Prod.mk.inj hz2
    subst e0
    subst e1
    subst e2
    subst hz3
    exact rm_i hx hb hr hlk hP hS dX8_depot_23
  refine lv_if_eq (tgt := 19) hx hb dX8_depot_8 (by decide) (fun hc => ?_) (fun hc => ?_)
  · replace hf := (if_pos hc).symm.trans hf
    exact hJ19  _ _ _ hf hP hS (lv_sub hl [0, 1, 2] rfl)
  · replace hf := (if_neg hc).symm.trans hf
    refine lv_iload_n hx hb dX8_depot_11 rfl (lv_at hl 2 rfl) ?_
    refine lv_iconst (v := (1 : Int32)) hx hb dX8_depot_12 (by decide) ?_
    obtain ⟨r_4, hq, hf⟩ := ob hf
    try dsimp only at hf
    refine rcS (As := [.int p1, .int (1 : Int32)]) (rest := []) ⟨hx, hb, hml, hown, hts⟩ (ctX8_isUpTo l p1 (1 : Int32) r_4 hq) (va_cwS 2 hts gX8_depot_X8_isUpTo rfl rfl rfl (by decide +kernel) ⟨Nat.le_of_ble_eq_true rfl, Nat.le_of_ble_eq_true rfl⟩) rfl hl.1 rfl (Nat.le_of_ble_eq_true rfl) dX8_depot_13 ⟨Nat.zero_le _, Nat.zero_le _⟩ ?_
    refine lv_if_ne (tgt := 24) hx hb dX8_depot_16 (by decide) (fun hc => ?_) (fun hc => ?_)
    · replace hf := (if_neg hc).symm.trans hf
      refine lv_aload_n hx hb dX8_depot_24 rfl (lv_at hl 0 rfl) ?_
      refine va_get (ci := 7) (v := .ref (ad 1)) (C := RX8) (T := TX8) (N := 9) hx hb hts hiX8 hown hK hP 0 rfl rfl 0 (by decide) (hts _ (List.mem_of_getElem? (i := 1) rfl)) (fun _ h9 => h9) rfl dX8_depot_25 ?_
      refine lv_iload_n hx hb dX8_depot_28 rfl (lv_at hl 1 rfl) ?_
      refine lv_iload_n hx hb dX8_depot_29 rfl (lv_at hl 2 rfl) ?_
      refine lv_iconst (v := (1 : Int32)) hx hb dX8_depot_30 (by decide) ?_
      have hJ39 : ∀ (t_5 : Int32) (H : Heap) (locs : List Loc) (ls : Array Slot), fX8_depot_J39 cBad cCnt cOpc cOpn p0 t_5 = some (rv, zcBad, zcOpc, zcOpn) → va_P D vwCl (wC cI cB cZ ad cBad cFul cCnt cOpc cStp cTsz cRcn cPlc cFlt cVil cLsz cRts cLns cOpn cGps cTrl cWgt cRch cByt cWds cFst cSnd cSgn) H → va_S A s.heap H locs → lv_has ls 3 [(0, .ref (ad 0)), (1, .int p0), (2, .int p1)] → W p l e (rmN 2 43) s m args below meth c H locs 0 0 (MQ below (QI D (wC cI cB cZ ad zcBad cFul cCnt zcOpc cStp cTsz cRcn cPlc cFlt cVil cLsz cRts cLns zcOpn cGps cTrl cWgt cRch cByt cWds cFst cSnd cSgn) A rv) args s 0 0 A) (F0 m 39 ls [.int t_5, .int p0, .ref (ad 1)]) := by
        intro t_5 H locs ls hf hP hS hl
        unfold fX8_depot_J39 at hf
        obtain ⟨⟨r_6, qcOpc_7, qcOpn_8⟩, hq, hf⟩ := ob hf
        try dsimp only at hf
        refine mcVi 1 1 (As := [.int p0, .int t_5]) (rest := []) ⟨hx, hb, hml, hown, hts⟩ (ctX1_setDepot l D cI cB cZ ad A hAD cBad cFul cCnt cOpc cStp cTsz cRcn cPlc cFlt cVil cLsz cRts cLns cOpn cGps cTrl cWgt cRch cByt cWds cFst cSnd cSgn p0 t_5 r_6 qcOpc_7 qcOpn_8 hq) (cwV 2 hts gX8_depot_X1_setDepot rfl rfl rfl (by decide +kernel) ⟨Nat.le_of_ble_eq_true rfl, Nat.le_of_ble_eq_true rfl⟩) hK hP hS rfl rfl rfl hl.1 rfl (Nat.le_of_ble_eq_true rfl) dX8_depot_39 ⟨Nat.zero_le _, Nat.zero_le _⟩ (fun H locs hP hS => ?_)
        obtain ⟨e0, hz1⟩ := Prod.mk.inj (Option.some.inj hf)
        obtain ⟨e1, hz2⟩ := Prod.mk.inj hz1
        obtain ⟨e2, hz3⟩ := Prod.mk.inj hz2
        subst e0
        subst e1
        subst e2
        subst hz3
        exact rm_i hx hb hr hlk hP hS dX8_depot_42
      refine lv_icmp_ne (tgt := 38) hx hb dX8_depot_31 (by decide) (fun hc => ?_) (fun hc => ?_)
      · replace hf := (if_neg hc).symm.trans hf
        refine lv_iconst (v := (0 : Int32)) hx hb dX8_depot_38 (by decide) ?_
        exact hJ39 _ _ _ _ hf hP hS (lv_sub hl [0, 1, 2] rfl)
      · replace hf := (if_pos hc).symm.trans hf
        refine lv_iconst (v := (1 : Int32)) hx hb dX8_depot_34 (by decide) ?_
        refine lv_goto (tgt := 39) hx hb dX8_depot_35 (by decide) ?_
        exact hJ39 _ _ _ _ hf hP hS (lv_sub hl [0, 1, 2] rfl)
    · replace hf := (if_pos hc).symm.trans hf
      exact hJ19  _ _ _ hf hP hS (lv_sub hl [0, 1, 2] rfl)

def fX8_road_J22 (cBad : Int32) (cLns : Nat → Int32) (cGps : Nat → Int32) : Option (Int32 × Int32 × (Nat → Int32) × (Nat → Int32)) :=
  ((fX8_refuseBad cBad).bind fun (r_2, qcBad_3) => (some (r_2, qcBad_3, cLns, cGps)))
def fX8_road (cBad : Int32) (cCnt : Int32) (cRts : Nat → Int32) (cLns : Nat → Int32) (cGps : Nat → Int32) (p0 : Int32) (p1 : Int32) : Option (Int32 × Int32 × (Nat → Int32) × (Nat → Int32)) :=
  ((fX1_has cCnt p0).bind fun r_1 => (if r_1 = 0 then (fX8_road_J22 cBad cLns cGps) else (if p0 = 0 then (fX8_road_J22 cBad cLns cGps) else ((fX8_isLength p1).bind fun r_4 => (if r_4 = 0 then (fX8_road_J22 cBad cLns cGps) else ((fX1_setRoad cCnt cRts cLns cGps p0 p1).bind fun (r_5, qcLns_6, qcGps_7) => (some (r_5, cBad, qcLns_6, qcGps_7))))))))
set_option maxRecDepth 100000 in
set_option maxHeartbeats 4000000 in
theorem ctX8_road (l : Launch) (D : va_G) (cI cB cZ : ClassId) (ad : Nat → Nat) (A : Nat → Prop) (hAD : AD A ad 20) (cBad cFul cCnt cOpc cStp cTsz cRcn cPlc cFlt cVil cLsz : Int32) (cRts cLns cOpn cGps cTrl cWgt cRch cByt cWds cFst cSnd cSgn : Nat → Int32) (p0 : Int32) (p1 : Int32) (rv : Int32) (zcBad : Int32) (zcLns : Nat → Int32) (zcGps : Nat → Int32) (hf : fX8_road cBad cCnt cRts cLns cGps p0 p1 = some (rv, zcBad, zcLns, zcGps)) : Met l yX8_road wsX8_road (rmN 3 71) (PR D (tyL cI cB cZ) (wC cI cB cZ ad cBad cFul cCnt cOpc cStp cTsz cRcn cPlc cFlt cVil cLsz cRts cLns cOpn cGps cTrl cWgt cRch cByt cWds cFst cSnd cSgn) [.ref (ad 0), .int p0, .int p1]) (QI D (wC cI cB cZ ad zcBad cFul cCnt cOpc cStp cTsz cRcn cPlc cFlt cVil cLsz cRts zcLns cOpn zcGps cTrl cWgt cRch cByt cWds cFst cSnd cSgn) A rv) 0 0 A := by
  refine mk_met cX8_road 3 (some .int) (by decide) rfl (Nat.le_of_ble_eq_true rfl) ?_
  intro p e s m args below meth c ls hx hb hr hlk hml hown hts hPK hl
  obtain ⟨hP, hK⟩ := hPK
  replace hl : lv_has ls 3 [(0, .ref (ad 0)), (1, .int p0), (2, .int p1)] := hl
  replace hown : s.vm.findClass RX8 = some m.cls := hown
  have hiX8 : ∀ w ∈ wsX80, w ∈ wsX8_road := fun w h => List.mem_cons_of_mem _ (List.mem_append_left _ (List.mem_append_right _ h))
  have hS : va_S A s.heap s.heap [] := va_S.rf
  unfold fX8_road at hf
  refine lv_aload_n hx hb dX8_road_0 rfl (lv_at hl 0 rfl) ?_
  refine va_get (ci := 7) (v := .ref (ad 1)) (C := RX8) (T := TX8) (N := 9) hx hb hts hiX8 hown hK hP 0 rfl rfl 0 (by decide) (hts _ (List.mem_of_getElem? (i := 1) rfl)) (fun _ h9 => h9) rfl dX8_road_1 ?_
  refine lv_iload_n hx hb dX8_road_4 rfl (lv_at hl 1 rfl) ?_
  obtain ⟨r_1, hq, hf⟩ := ob hf
  try dsimp only at hf
  refine rcV 1 1 (As := [.int p0]) (rest := []) ⟨hx, hb, hml, hown, hts⟩ (ctX1_has l D cI cB cZ ad cBad cFul cCnt cOpc cStp cTsz cRcn cPlc cFlt cVil cLsz cRts cLns cOpn cGps cTrl cWgt cRch cByt cWds cFst cSnd cSgn p0 r_1 hq) (cwV 1 hts gX8_road_X1_has rfl rfl rfl (by decide +kernel) ⟨Nat.le_of_ble_eq_true rfl, Nat.le_of_ble_eq_true rfl⟩) hK hP rfl rfl rfl hl.1 rfl (Nat.le_of_ble_eq_true rfl) dX8_road_5 ⟨Nat.zero_le _, Nat.zero_le _⟩ ?_
  have hJ22 : ∀  (H : Heap) (locs : List Loc) (ls : Array Slot), fX8_road_J22 cBad cLns cGps = some (rv, zcBad, zcLns, zcGps) → va_P D vwCl (wC cI cB cZ ad cBad cFul cCnt cOpc cStp cTsz cRcn cPlc cFlt cVil cLsz cRts cLns cOpn cGps cTrl cWgt cRch cByt cWds cFst cSnd cSgn) H → va_S A s.heap H locs → lv_has ls 3 [(0, .ref (ad 0)), (1, .int p0), (2, .int p1)] → W p l e (rmN 3 71) s m args below meth c H locs 0 0 (MQ below (QI D (wC cI cB cZ ad zcBad cFul cCnt cOpc cStp cTsz cRcn cPlc cFlt cVil cLsz cRts zcLns cOpn zcGps cTrl cWgt cRch cByt cWds cFst cSnd cSgn) A rv) args s 0 0 A) (F0 m 22 ls []) := by
    intro  H locs ls hf hP hS hl
    unfold fX8_road_J22 at hf
    refine lv_aload_n hx hb dX8_road_22 rfl (lv_at hl 0 rfl) ?_
    obtain ⟨⟨r_2, qcBad_3⟩, hq, hf⟩ := ob hf
    try dsimp only at hf
    refine mcVi 0 7 (As := []) (rest := []) ⟨hx, hb, hml, hown, hts⟩ (ctX8_refuseBad l D cI cB cZ ad A hAD cBad cFul cCnt cOpc cStp cTsz cRcn cPlc cFlt cVil cLsz cRts cLns cOpn cGps cTrl cWgt cRch cByt cWds cFst cSnd cSgn  r_2 qcBad_3 hq) (cwV 0 hts gX8_road_X8_refuseBad rfl rfl rfl (by decide +kernel) ⟨Nat.le_of_ble_eq_true rfl, Nat.le_of_ble_eq_true rfl⟩) hK hP hS rfl rfl rfl hl.1 rfl (Nat.le_of_ble_eq_true rfl) dX8_road_23 ⟨Nat.zero_le _, Nat.zero_le _⟩ (fun H locs hP hS => ?_)
    obtain ⟨e0, hz1⟩ := Prod.mk.inj (Option.some.inj hf)
    obtain ⟨e1, hz2⟩ := Prod.mk.inj hz1
    obtain ⟨e2, hz3⟩ := Prod.mk.inj hz2
    subst e0
    subst e1
    subst e2
    subst hz3
    exact rm_i hx hb hr hlk hP hS dX8_road_26
  refine lv_if_eq (tgt := 22) hx hb dX8_road_8 (by decide) (fun hc => ?_) (fun hc => ?_)
  · replace hf := (if_pos hc).symm.trans hf
    exact hJ22  _ _ _ hf hP hS (lv_sub hl [0, 1, 2] rfl)
  · replace hf := (if_neg hc).symm.trans hf
    refine lv_iload_n hx hb dX8_road_11 rfl (lv_at hl 1 rfl) ?_
    refine lv_if_eq (tgt := 22) hx hb dX8_road_12 (by decide) (fun hc => ?_) (fun hc => ?_)
    · replace hf := (if_pos hc).symm.trans hf
      exact hJ22  _ _ _ hf hP hS (lv_sub hl [0, 1, 2] rfl)
    · replace hf := (if_neg hc).symm.trans hf
      refine lv_iload_n hx hb dX8_road_15 rfl (lv_at hl 2 rfl) ?_
      obtain ⟨r_4, hq, hf⟩ := ob hf
      try dsimp only at hf
      refine rcS (As := [.int p1]) (rest := []) ⟨hx, hb, hml, hown, hts⟩ (ctX8_isLength l p1 r_4 hq) (va_cwS 1 hts gX8_road_X8_isLength rfl rfl rfl (by decide +kernel) ⟨Nat.le_of_ble_eq_true rfl, Nat.le_of_ble_eq_true rfl⟩) rfl hl.1 rfl (Nat.le_of_ble_eq_true rfl) dX8_road_16 ⟨Nat.zero_le _, Nat.zero_le _⟩ ?_
      refine lv_if_ne (tgt := 27) hx hb dX8_road_19 (by decide) (fun hc => ?_) (fun hc => ?_)
      · replace hf := (if_neg hc).symm.trans hf
        refine lv_aload_n hx hb dX8_road_27 rfl (lv_at hl 0 rfl) ?_
        refine va_get (ci := 7) (v := .ref (ad 1)) (C := RX8) (T := TX8) (N := 9) hx hb hts hiX8 hown hK hP 0 rfl rfl 0 (by decide) (hts _ (List.mem_of_getElem? (i := 1) rfl)) (fun _ h9 => h9) rfl dX8_road_28 ?_
        refine lv_iload_n hx hb dX8_road_31 rfl (lv_at hl 1 rfl) ?_
        refine lv_iload_n hx hb dX8_road_32 rfl (lv_at hl 2 rfl) ?_
        obtain ⟨⟨r_5, qcLns_6, qcGps_7⟩, hq, hf⟩ := ob hf
        try dsimp only at hf
        refine mcVi 1 1 (As := [.int p0, .int p1]) (rest := []) ⟨hx, hb, hml, hown, hts⟩ (ctX1_setRoad l D cI cB cZ ad A hAD cBad cFul cCnt cOpc cStp cTsz cRcn cPlc cFlt cVil cLsz cRts cLns cOpn cGps cTrl cWgt cRch cByt cWds cFst cSnd cSgn p0 p1 r_5 qcLns_6 qcGps_7 hq) (cwV 2 hts gX8_road_X1_setRoad rfl rfl rfl (by decide +kernel) ⟨Nat.le_of_ble_eq_true rfl, Nat.le_of_ble_eq_true rfl⟩) hK hP hS rfl rfl rfl hl.1 rfl (Nat.le_of_ble_eq_true rfl) dX8_road_33 ⟨Nat.zero_le _, Nat.zero_le _⟩ (fun H locs hP hS => ?_)
        obtain ⟨e0, hz1⟩ := Prod.mk.inj (Option.some.inj hf)
        obtain ⟨e1, hz2⟩ := Prod.mk.inj hz1
        obtain ⟨e2, hz3⟩ := Prod.mk.inj hz2
        subst e0
        subst e1
        subst e2
        subst hz3
        exact rm_i hx hb hr hlk hP hS dX8_road_36
      · replace hf := (if_pos hc).symm.trans hf
        exact hJ22  _ _ _ hf hP hS (lv_sub hl [0, 1, 2] rfl)

def fX8_anew (cCnt : Int32) (cOpc : Int32) (cRts : Nat → Int32) (cLns : Nat → Int32) (cOpn : Nat → Int32)  : Option (Int32 × Int32 × Int32 × (Nat → Int32) × (Nat → Int32) × (Nat → Int32)) :=
  ((fX1_empty cCnt cOpc cRts cLns cOpn).bind fun (r_1, qcCnt_2, qcOpc_3, qcRts_4, qcLns_5, qcOpn_6) => (some (r_1, qcCnt_2, qcOpc_3, qcRts_4, qcLns_5, qcOpn_6)))
set_option maxRecDepth 100000 in
set_option maxHeartbeats 4000000 in
theorem ctX8_anew (l : Launch) (D : va_G) (cI cB cZ : ClassId) (ad : Nat → Nat) (A : Nat → Prop) (hAD : AD A ad 20) (cBad cFul cCnt cOpc cStp cTsz cRcn cPlc cFlt cVil cLsz : Int32) (cRts cLns cOpn cGps cTrl cWgt cRch cByt cWds cFst cSnd cSgn : Nat → Int32)  (rv : Int32) (zcCnt : Int32) (zcOpc : Int32) (zcRts : Nat → Int32) (zcLns : Nat → Int32) (zcOpn : Nat → Int32) (hf : fX8_anew cCnt cOpc cRts cLns cOpn = some (rv, zcCnt, zcOpc, zcRts, zcLns, zcOpn)) : Met l yX8_anew wsX8_anew (rmN 1 21) (PR D (tyL cI cB cZ) (wC cI cB cZ ad cBad cFul cCnt cOpc cStp cTsz cRcn cPlc cFlt cVil cLsz cRts cLns cOpn cGps cTrl cWgt cRch cByt cWds cFst cSnd cSgn) [.ref (ad 0)]) (QI D (wC cI cB cZ ad cBad cFul zcCnt zcOpc cStp cTsz cRcn cPlc cFlt cVil cLsz zcRts zcLns zcOpn cGps cTrl cWgt cRch cByt cWds cFst cSnd cSgn) A rv) 0 0 A := by
  refine mk_met cX8_anew 1 (some .int) (by decide) rfl (Nat.le_of_ble_eq_true rfl) ?_
  intro p e s m args below meth c ls hx hb hr hlk hml hown hts hPK hl
  obtain ⟨hP, hK⟩ := hPK
  replace hl : lv_has ls 1 [(0, .ref (ad 0))] := hl
  replace hown : s.vm.findClass RX8 = some m.cls := hown
  have hiX8 : ∀ w ∈ wsX80, w ∈ wsX8_anew := fun w h => List.mem_cons_of_mem _ (List.mem_append_left _ (List.mem_append_right _ h))
  have hS : va_S A s.heap s.heap [] := va_S.rf
  unfold fX8_anew at hf
  refine lv_aload_n hx hb dX8_anew_0 rfl (lv_at hl 0 rfl) ?_
  refine va_get (ci := 7) (v := .ref (ad 1)) (C := RX8) (T := TX8) (N := 9) hx hb hts hiX8 hown hK hP 0 rfl rfl 0 (by decide) (hts _ (List.mem_of_getElem? (i := 1) rfl)) (fun _ h9 => h9) rfl dX8_anew_1 ?_
  obtain ⟨⟨r_1, qcCnt_2, qcOpc_3, qcRts_4, qcLns_5, qcOpn_6⟩, hq, hf⟩ := ob hf
  try dsimp only at hf
  refine mcVi 1 1 (As := []) (rest := []) ⟨hx, hb, hml, hown, hts⟩ (ctX1_empty l D cI cB cZ ad A hAD cBad cFul cCnt cOpc cStp cTsz cRcn cPlc cFlt cVil cLsz cRts cLns cOpn cGps cTrl cWgt cRch cByt cWds cFst cSnd cSgn  r_1 qcCnt_2 qcOpc_3 qcRts_4 qcLns_5 qcOpn_6 hq) (cwV 0 hts gX8_anew_X1_empty rfl rfl rfl (by decide +kernel) ⟨Nat.le_of_ble_eq_true rfl, Nat.le_of_ble_eq_true rfl⟩) hK hP hS rfl rfl rfl hl.1 rfl (Nat.le_of_ble_eq_true rfl) dX8_anew_4 ⟨Nat.zero_le _, Nat.zero_le _⟩ (fun H locs hP hS => ?_)
  obtain ⟨e0, hz1⟩ := Prod.mk.inj (Option.some.inj hf)
  obtain ⟨e1, hz2⟩ := Prod.mk.inj hz1
  obtain ⟨e2, hz3⟩ := Prod.mk.inj hz2
  obtain ⟨e3, hz4⟩ := Prod.mk.inj hz3
  obtain ⟨e4, hz5⟩ := Prod.mk.inj hz4
  subst e0
  subst e1
  subst e2
  subst e3
  subst e4
  subst hz5
  exact rm_i hx hb hr hlk hP hS dX8_anew_7

def fX8_draw_J18 (cBad : Int32) (cCnt : Int32) (cOpc : Int32) (cRts : Nat → Int32) (cLns : Nat → Int32) (cOpn : Nat → Int32) (cGps : Nat → Int32) : Option (Int32 × Int32 × Int32 × Int32 × (Nat → Int32) × (Nat → Int32) × (Nat → Int32) × (Nat → Int32)) :=
  ((fX8_refuseBad cBad).bind fun (r_2, qcBad_3) => (some (r_2, qcBad_3, cCnt, cOpc, cRts, cLns, cOpn, cGps)))
def fX8_draw (cBad : Int32) (cCnt : Int32) (cOpc : Int32) (cRts : Nat → Int32) (cLns : Nat → Int32) (cOpn : Nat → Int32) (cGps : Nat → Int32) (p0 : Int32) (p1 : Int32) : Option (Int32 × Int32 × Int32 × Int32 × (Nat → Int32) × (Nat → Int32) × (Nat → Int32) × (Nat → Int32)) :=
  ((fX8_isUpTo p0 (999999 : Int32)).bind fun r_1 => (if r_1 = 0 then (fX8_draw_J18 cBad cCnt cOpc cRts cLns cOpn cGps) else ((fX8_isUpTo p1 (59 : Int32)).bind fun r_4 => (if r_4 = 0 then (fX8_draw_J18 cBad cCnt cOpc cRts cLns cOpn cGps) else ((fX1_sow cCnt cOpc cRts cLns cOpn cGps p0 p1).bind fun (r_5, qcCnt_6, qcOpc_7, qcRts_8, qcLns_9, qcOpn_10, qcGps_11) => (some (r_5, cBad, qcCnt_6, qcOpc_7, qcRts_8, qcLns_9, qcOpn_10, qcGps_11)))))))
set_option maxRecDepth 100000 in
set_option maxHeartbeats 4000000 in
theorem ctX8_draw (l : Launch) (D : va_G) (cI cB cZ : ClassId) (ad : Nat → Nat) (A : Nat → Prop) (hAD : AD A ad 20) (cBad cFul cCnt cOpc cStp cTsz cRcn cPlc cFlt cVil cLsz : Int32) (cRts cLns cOpn cGps cTrl cWgt cRch cByt cWds cFst cSnd cSgn : Nat → Int32) (p0 : Int32) (p1 : Int32) (rv : Int32) (zcBad : Int32) (zcCnt : Int32) (zcOpc : Int32) (zcRts : Nat → Int32) (zcLns : Nat → Int32) (zcOpn : Nat → Int32) (zcGps : Nat → Int32) (hf : fX8_draw cBad cCnt cOpc cRts cLns cOpn cGps p0 p1 = some (rv, zcBad, zcCnt, zcOpc, zcRts, zcLns, zcOpn, zcGps)) : Met l yX8_draw wsX8_draw (rmN 4 96) (PR D (tyL cI cB cZ) (wC cI cB cZ ad cBad cFul cCnt cOpc cStp cTsz cRcn cPlc cFlt cVil cLsz cRts cLns cOpn cGps cTrl cWgt cRch cByt cWds cFst cSnd cSgn) [.ref (ad 0), .int p0, .int p1]) (QI D (wC cI cB cZ ad zcBad cFul zcCnt zcOpc cStp cTsz cRcn cPlc cFlt cVil cLsz zcRts zcLns zcOpn zcGps cTrl cWgt cRch cByt cWds cFst cSnd cSgn) A rv) 0 0 A := by
  refine mk_met cX8_draw 3 (some .int) (by decide) rfl (Nat.le_of_ble_eq_true rfl) ?_
  intro p e s m args below meth c ls hx hb hr hlk hml hown hts hPK hl
  obtain ⟨hP, hK⟩ := hPK
  replace hl : lv_has ls 3 [(0, .ref (ad 0)), (1, .int p0), (2, .int p1)] := hl
  replace hown : s.vm.findClass RX8 = some m.cls := hown
  have hiX8 : ∀ w ∈ wsX80, w ∈ wsX8_draw := fun w h => List.mem_cons_of_mem _ (List.mem_append_left _ (List.mem_append_right _ h))
  have hS : va_S A s.heap s.heap [] := va_S.rf
  unfold fX8_draw at hf
  refine lv_iload_n hx hb dX8_draw_0 rfl (lv_at hl 1 rfl) ?_
  refine lv_ldc (v := (999999 : Int32)) hx hb hown (hts _ (List.mem_of_getElem? (i := 1) rfl)) dX8_draw_1 ?_
  obtain ⟨r_1, hq, hf⟩ := ob hf
  try dsimp only at hf
  refine rcS (As := [.int p0, .int (999999 : Int32)]) (rest := []) ⟨hx, hb, hml, hown, hts⟩ (ctX8_isUpTo l p0 (999999 : Int32) r_1 hq) (va_cwS 2 hts gX8_draw_X8_isUpTo rfl rfl rfl (by decide +kernel) ⟨Nat.le_of_ble_eq_true rfl, Nat.le_of_ble_eq_true rfl⟩) rfl hl.1 rfl (Nat.le_of_ble_eq_true rfl) dX8_draw_3 ⟨Nat.zero_le _, Nat.zero_le _⟩ ?_
  have hJ18 : ∀  (H : Heap) (locs : List Loc) (ls : Array Slot), fX8_draw_J18 cBad cCnt cOpc cRts cLns cOpn cGps = some (rv, zcBad, zcCnt, zcOpc, zcRts, zcLns, zcOpn, zcGps) → va_P D vwCl (wC cI cB cZ ad cBad cFul cCnt cOpc cStp cTsz cRcn cPlc cFlt cVil cLsz cRts cLns cOpn cGps cTrl cWgt cRch cByt cWds cFst cSnd cSgn) H → va_S A s.heap H locs → lv_has ls 3 [(0, .ref (ad 0)), (1, .int p0), (2, .int p1)] → W p l e (rmN 4 96) s m args below meth c H locs 0 0 (MQ below (QI D (wC cI cB cZ ad zcBad cFul zcCnt zcOpc cStp cTsz cRcn cPlc cFlt cVil cLsz zcRts zcLns zcOpn zcGps cTrl cWgt cRch cByt cWds cFst cSnd cSgn) A rv) args s 0 0 A) (F0 m 18 ls []) := by
    intro  H locs ls hf hP hS hl
    unfold fX8_draw_J18 at hf
    refine lv_aload_n hx hb dX8_draw_18 rfl (lv_at hl 0 rfl) ?_
    obtain ⟨⟨r_2, qcBad_3⟩, hq, hf⟩ := ob hf
    try dsimp only at hf
    refine mcVi 0 7 (As := []) (rest := []) ⟨hx, hb, hml, hown, hts⟩ (ctX8_refuseBad l D cI cB cZ ad A hAD cBad cFul cCnt cOpc cStp cTsz cRcn cPlc cFlt cVil cLsz cRts cLns cOpn cGps cTrl cWgt cRch cByt cWds cFst cSnd cSgn  r_2 qcBad_3 hq) (cwV 0 hts gX8_draw_X8_refuseBad rfl rfl rfl (by decide +kernel) ⟨Nat.le_of_ble_eq_true rfl, Nat.le_of_ble_eq_true rfl⟩) hK hP hS rfl rfl rfl hl.1 rfl (Nat.le_of_ble_eq_true rfl) dX8_draw_19 ⟨Nat.zero_le _, Nat.zero_le _⟩ (fun H locs hP hS => ?_)
    obtain ⟨e0, hz1⟩ := Prod.mk.inj (Option.some.inj hf)
    obtain ⟨e1, hz2⟩ := Prod.mk.inj hz1
    obtain ⟨e2, hz3⟩ := Prod.mk.inj hz2
    obtain ⟨e3, hz4⟩ := Prod.mk.inj hz3
    obtain ⟨e4, hz5⟩ := Prod.mk.inj hz4
    obtain ⟨e5, hz6⟩ := Prod.mk.inj hz5
    obtain ⟨e6, hz7⟩ := Prod.mk.inj hz6
    subst e0
    subst e1
    subst e2
    subst e3
    subst e4
    subst e5
    subst e6
    subst hz7
    exact rm_i hx hb hr hlk hP hS dX8_draw_22
  refine lv_if_eq (tgt := 18) hx hb dX8_draw_6 (by decide) (fun hc => ?_) (fun hc => ?_)
  · replace hf := (if_pos hc).symm.trans hf
    exact hJ18  _ _ _ hf hP hS (lv_sub hl [0, 1, 2] rfl)
  · replace hf := (if_neg hc).symm.trans hf
    refine lv_iload_n hx hb dX8_draw_9 rfl (lv_at hl 2 rfl) ?_
    refine lv_bipush (v := (59 : Int32)) hx hb dX8_draw_10 (by decide) ?_
    obtain ⟨r_4, hq, hf⟩ := ob hf
    try dsimp only at hf
    refine rcS (As := [.int p1, .int (59 : Int32)]) (rest := []) ⟨hx, hb, hml, hown, hts⟩ (ctX8_isUpTo l p1 (59 : Int32) r_4 hq) (va_cwS 2 hts gX8_draw_X8_isUpTo rfl rfl rfl (by decide +kernel) ⟨Nat.le_of_ble_eq_true rfl, Nat.le_of_ble_eq_true rfl⟩) rfl hl.1 rfl (Nat.le_of_ble_eq_true rfl) dX8_draw_12 ⟨Nat.zero_le _, Nat.zero_le _⟩ ?_
    refine lv_if_ne (tgt := 23) hx hb dX8_draw_15 (by decide) (fun hc => ?_) (fun hc => ?_)
    · replace hf := (if_neg hc).symm.trans hf
      refine lv_aload_n hx hb dX8_draw_23 rfl (lv_at hl 0 rfl) ?_
      refine va_get (ci := 7) (v := .ref (ad 1)) (C := RX8) (T := TX8) (N := 9) hx hb hts hiX8 hown hK hP 0 rfl rfl 0 (by decide) (hts _ (List.mem_of_getElem? (i := 2) rfl)) (fun _ h9 => h9) rfl dX8_draw_24 ?_
      refine lv_iload_n hx hb dX8_draw_27 rfl (lv_at hl 1 rfl) ?_
      refine lv_iload_n hx hb dX8_draw_28 rfl (lv_at hl 2 rfl) ?_
      obtain ⟨⟨r_5, qcCnt_6, qcOpc_7, qcRts_8, qcLns_9, qcOpn_10, qcGps_11⟩, hq, hf⟩ := ob hf
      try dsimp only at hf
      refine mcVi 1 1 (As := [.int p0, .int p1]) (rest := []) ⟨hx, hb, hml, hown, hts⟩ (ctX1_sow l D cI cB cZ ad A hAD cBad cFul cCnt cOpc cStp cTsz cRcn cPlc cFlt cVil cLsz cRts cLns cOpn cGps cTrl cWgt cRch cByt cWds cFst cSnd cSgn p0 p1 r_5 qcCnt_6 qcOpc_7 qcRts_8 qcLns_9 qcOpn_10 qcGps_11 hq) (cwV 2 hts gX8_draw_X1_sow rfl rfl rfl (by decide +kernel) ⟨Nat.le_of_ble_eq_true rfl, Nat.le_of_ble_eq_true rfl⟩) hK hP hS rfl rfl rfl hl.1 rfl (Nat.le_of_ble_eq_true rfl) dX8_draw_29 ⟨Nat.zero_le _, Nat.zero_le _⟩ (fun H locs hP hS => ?_)
      obtain ⟨e0, hz1⟩ := Prod.mk.inj (Option.some.inj hf)
      obtain ⟨e1, hz2⟩ := Prod.mk.inj hz1
      obtain ⟨e2, hz3⟩ := Prod.mk.inj hz2
      obtain ⟨e3, hz4⟩ := Prod.mk.inj hz3
      obtain ⟨e4, hz5⟩ := Prod.mk.inj hz4
      obtain ⟨e5, hz6⟩ := Prod.mk.inj hz5
      obtain ⟨e6, hz7⟩ := Prod.mk.inj hz6
      subst e0
      subst e1
      subst e2
      subst e3
      subst e4
      subst e5
      subst e6
      subst hz7
      exact rm_i hx hb hr hlk hP hS dX8_draw_32
    · replace hf := (if_pos hc).symm.trans hf
      exact hJ18  _ _ _ hf hP hS (lv_sub hl [0, 1, 2] rfl)

def fX8_of_J19 (cBad : Int32) : Option (Int32 × Int32) :=
  ((fX8_refuseBad cBad).bind fun (r_2, qcBad_3) => (some (r_2, qcBad_3)))
def fX8_of (cBad : Int32) (cCnt : Int32) (cRts : Nat → Int32) (cLns : Nat → Int32) (cOpn : Nat → Int32) (p0 : Int32) (p1 : Int32) : Option (Int32 × Int32) :=
  ((fX1_has cCnt p0).bind fun r_1 => (if r_1 = 0 then (fX8_of_J19 cBad) else ((fX8_isUpTo p1 (3 : Int32)).bind fun r_4 => (if r_4 = 0 then (fX8_of_J19 cBad) else ((fX1_aspect cCnt cRts cLns cOpn p0 p1).bind fun r_5 => (some (r_5, cBad)))))))
set_option maxRecDepth 100000 in
set_option maxHeartbeats 4000000 in
theorem ctX8_of (l : Launch) (D : va_G) (cI cB cZ : ClassId) (ad : Nat → Nat) (A : Nat → Prop) (hAD : AD A ad 20) (cBad cFul cCnt cOpc cStp cTsz cRcn cPlc cFlt cVil cLsz : Int32) (cRts cLns cOpn cGps cTrl cWgt cRch cByt cWds cFst cSnd cSgn : Nat → Int32) (p0 : Int32) (p1 : Int32) (rv : Int32) (zcBad : Int32) (hf : fX8_of cBad cCnt cRts cLns cOpn p0 p1 = some (rv, zcBad)) : Met l yX8_of wsX8_of (rmN 2 45) (PR D (tyL cI cB cZ) (wC cI cB cZ ad cBad cFul cCnt cOpc cStp cTsz cRcn cPlc cFlt cVil cLsz cRts cLns cOpn cGps cTrl cWgt cRch cByt cWds cFst cSnd cSgn) [.ref (ad 0), .int p0, .int p1]) (QI D (wC cI cB cZ ad zcBad cFul cCnt cOpc cStp cTsz cRcn cPlc cFlt cVil cLsz cRts cLns cOpn cGps cTrl cWgt cRch cByt cWds cFst cSnd cSgn) A rv) 0 0 A := by
  refine mk_met cX8_of 3 (some .int) (by decide) rfl (Nat.le_of_ble_eq_true rfl) ?_
  intro p e s m args below meth c ls hx hb hr hlk hml hown hts hPK hl
  obtain ⟨hP, hK⟩ := hPK
  replace hl : lv_has ls 3 [(0, .ref (ad 0)), (1, .int p0), (2, .int p1)] := hl
  replace hown : s.vm.findClass RX8 = some m.cls := hown
  have hiX8 : ∀ w ∈ wsX80, w ∈ wsX8_of := fun w h => List.mem_cons_of_mem _ (List.mem_append_left _ (List.mem_append_right _ h))
  have hS : va_S A s.heap s.heap [] := va_S.rf
  unfold fX8_of at hf
  refine lv_aload_n hx hb dX8_of_0 rfl (lv_at hl 0 rfl) ?_
  refine va_get (ci := 7) (v := .ref (ad 1)) (C := RX8) (T := TX8) (N := 9) hx hb hts hiX8 hown hK hP 0 rfl rfl 0 (by decide) (hts _ (List.mem_of_getElem? (i := 1) rfl)) (fun _ h9 => h9) rfl dX8_of_1 ?_
  refine lv_iload_n hx hb dX8_of_4 rfl (lv_at hl 1 rfl) ?_
  obtain ⟨r_1, hq, hf⟩ := ob hf
  try dsimp only at hf
  refine rcV 1 1 (As := [.int p0]) (rest := []) ⟨hx, hb, hml, hown, hts⟩ (ctX1_has l D cI cB cZ ad cBad cFul cCnt cOpc cStp cTsz cRcn cPlc cFlt cVil cLsz cRts cLns cOpn cGps cTrl cWgt cRch cByt cWds cFst cSnd cSgn p0 r_1 hq) (cwV 1 hts gX8_of_X1_has rfl rfl rfl (by decide +kernel) ⟨Nat.le_of_ble_eq_true rfl, Nat.le_of_ble_eq_true rfl⟩) hK hP rfl rfl rfl hl.1 rfl (Nat.le_of_ble_eq_true rfl) dX8_of_5 ⟨Nat.zero_le _, Nat.zero_le _⟩ ?_
  have hJ19 : ∀  (H : Heap) (locs : List Loc) (ls : Array Slot), fX8_of_J19 cBad = some (rv, zcBad) → va_P D vwCl (wC cI cB cZ ad cBad cFul cCnt cOpc cStp cTsz cRcn cPlc cFlt cVil cLsz cRts cLns cOpn cGps cTrl cWgt cRch cByt cWds cFst cSnd cSgn) H → va_S A s.heap H locs → lv_has ls 3 [(0, .ref (ad 0)), (1, .int p0), (2, .int p1)] → W p l e (rmN 2 45) s m args below meth c H locs 0 0 (MQ below (QI D (wC cI cB cZ ad zcBad cFul cCnt cOpc cStp cTsz cRcn cPlc cFlt cVil cLsz cRts cLns cOpn cGps cTrl cWgt cRch cByt cWds cFst cSnd cSgn) A rv) args s 0 0 A) (F0 m 19 ls []) := by
    intro  H locs ls hf hP hS hl
    unfold fX8_of_J19 at hf
    refine lv_aload_n hx hb dX8_of_19 rfl (lv_at hl 0 rfl) ?_
    obtain ⟨⟨r_2, qcBad_3⟩, hq, hf⟩ := ob hf
    try dsimp only at hf
    refine mcVi 0 7 (As := []) (rest := []) ⟨hx, hb, hml, hown, hts⟩ (ctX8_refuseBad l D cI cB cZ ad A hAD cBad cFul cCnt cOpc cStp cTsz cRcn cPlc cFlt cVil cLsz cRts cLns cOpn cGps cTrl cWgt cRch cByt cWds cFst cSnd cSgn  r_2 qcBad_3 hq) (cwV 0 hts gX8_of_X8_refuseBad rfl rfl rfl (by decide +kernel) ⟨Nat.le_of_ble_eq_true rfl, Nat.le_of_ble_eq_true rfl⟩) hK hP hS rfl rfl rfl hl.1 rfl (Nat.le_of_ble_eq_true rfl) dX8_of_20 ⟨Nat.zero_le _, Nat.zero_le _⟩ (fun H locs hP hS => ?_)
    obtain ⟨e0, hz1⟩ := Prod.mk.inj (Option.some.inj hf)
    subst e0
    subst hz1
    exact rm_i hx hb hr hlk hP hS dX8_of_23
  refine lv_if_eq (tgt := 19) hx hb dX8_of_8 (by decide) (fun hc => ?_) (fun hc => ?_)
  · replace hf := (if_pos hc).symm.trans hf
    exact hJ19  _ _ _ hf hP hS (lv_sub hl [0, 1, 2] rfl)
  · replace hf := (if_neg hc).symm.trans hf
    refine lv_iload_n hx hb dX8_of_11 rfl (lv_at hl 2 rfl) ?_
    refine lv_iconst (v := (3 : Int32)) hx hb dX8_of_12 (by decide) ?_
    obtain ⟨r_4, hq, hf⟩ := ob hf
    try dsimp only at hf
    refine rcS (As := [.int p1, .int (3 : Int32)]) (rest := []) ⟨hx, hb, hml, hown, hts⟩ (ctX8_isUpTo l p1 (3 : Int32) r_4 hq) (va_cwS 2 hts gX8_of_X8_isUpTo rfl rfl rfl (by decide +kernel) ⟨Nat.le_of_ble_eq_true rfl, Nat.le_of_ble_eq_true rfl⟩) rfl hl.1 rfl (Nat.le_of_ble_eq_true rfl) dX8_of_13 ⟨Nat.zero_le _, Nat.zero_le _⟩ ?_
    refine lv_if_ne (tgt := 24) hx hb dX8_of_16 (by decide) (fun hc => ?_) (fun hc => ?_)
    · replace hf := (if_neg hc).symm.trans hf
      refine lv_aload_n hx hb dX8_of_24 rfl (lv_at hl 0 rfl) ?_
      refine va_get (ci := 7) (v := .ref (ad 1)) (C := RX8) (T := TX8) (N := 9) hx hb hts hiX8 hown hK hP 0 rfl rfl 0 (by decide) (hts _ (List.mem_of_getElem? (i := 1) rfl)) (fun _ h9 => h9) rfl dX8_of_25 ?_
      refine lv_iload_n hx hb dX8_of_28 rfl (lv_at hl 1 rfl) ?_
      refine lv_iload_n hx hb dX8_of_29 rfl (lv_at hl 2 rfl) ?_
      obtain ⟨r_5, hq, hf⟩ := ob hf
      try dsimp only at hf
      refine rcV 1 1 (As := [.int p0, .int p1]) (rest := []) ⟨hx, hb, hml, hown, hts⟩ (ctX1_aspect l D cI cB cZ ad cBad cFul cCnt cOpc cStp cTsz cRcn cPlc cFlt cVil cLsz cRts cLns cOpn cGps cTrl cWgt cRch cByt cWds cFst cSnd cSgn p0 p1 r_5 hq) (cwV 2 hts gX8_of_X1_aspect rfl rfl rfl (by decide +kernel) ⟨Nat.le_of_ble_eq_true rfl, Nat.le_of_ble_eq_true rfl⟩) hK hP rfl rfl rfl hl.1 rfl (Nat.le_of_ble_eq_true rfl) dX8_of_30 ⟨Nat.zero_le _, Nat.zero_le _⟩ ?_
      obtain ⟨e0, hz1⟩ := Prod.mk.inj (Option.some.inj hf)
      subst e0
      subst hz1
      exact rm_i hx hb hr hlk hP hS dX8_of_33
    · replace hf := (if_pos hc).symm.trans hf
      exact hJ19  _ _ _ hf hP hS (lv_sub hl [0, 1, 2] rfl)

def fX8_far_J22 (cBad : Int32) : Option (Int32 × Int32) :=
  ((fX8_refuseBad cBad).bind fun (r_2, qcBad_3) => (some (r_2, qcBad_3)))
def fX8_far (cBad : Int32) (cCnt : Int32) (cGps : Nat → Int32) (p0 : Int32) (p1 : Int32) : Option (Int32 × Int32) :=
  ((fX1_has cCnt p0).bind fun r_1 => (if r_1 = 0 then (fX8_far_J22 cBad) else ((fX1_has cCnt p1).bind fun r_4 => (if r_4 = 0 then (fX8_far_J22 cBad) else ((fX1_gap cGps p0 p1).bind fun r_5 => (some (r_5, cBad)))))))
set_option maxRecDepth 100000 in
set_option maxHeartbeats 4000000 in
theorem ctX8_far (l : Launch) (D : va_G) (cI cB cZ : ClassId) (ad : Nat → Nat) (A : Nat → Prop) (hAD : AD A ad 20) (cBad cFul cCnt cOpc cStp cTsz cRcn cPlc cFlt cVil cLsz : Int32) (cRts cLns cOpn cGps cTrl cWgt cRch cByt cWds cFst cSnd cSgn : Nat → Int32) (p0 : Int32) (p1 : Int32) (rv : Int32) (zcBad : Int32) (hf : fX8_far cBad cCnt cGps p0 p1 = some (rv, zcBad)) : Met l yX8_far wsX8_far (rmN 1 23) (PR D (tyL cI cB cZ) (wC cI cB cZ ad cBad cFul cCnt cOpc cStp cTsz cRcn cPlc cFlt cVil cLsz cRts cLns cOpn cGps cTrl cWgt cRch cByt cWds cFst cSnd cSgn) [.ref (ad 0), .int p0, .int p1]) (QI D (wC cI cB cZ ad zcBad cFul cCnt cOpc cStp cTsz cRcn cPlc cFlt cVil cLsz cRts cLns cOpn cGps cTrl cWgt cRch cByt cWds cFst cSnd cSgn) A rv) 0 0 A := by
  refine mk_met cX8_far 3 (some .int) (by decide) rfl (Nat.le_of_ble_eq_true rfl) ?_
  intro p e s m args below meth c ls hx hb hr hlk hml hown hts hPK hl
  obtain ⟨hP, hK⟩ := hPK
  replace hl : lv_has ls 3 [(0, .ref (ad 0)), (1, .int p0), (2, .int p1)] := hl
  replace hown : s.vm.findClass RX8 = some m.cls := hown
  have hiX8 : ∀ w ∈ wsX80, w ∈ wsX8_far := fun w h => List.mem_cons_of_mem _ (List.mem_append_left _ (List.mem_append_right _ h))
  have hS : va_S A s.heap s.heap [] := va_S.rf
  unfold fX8_far at hf
  refine lv_aload_n hx hb dX8_far_0 rfl (lv_at hl 0 rfl) ?_
  refine va_get (ci := 7) (v := .ref (ad 1)) (C := RX8) (T := TX8) (N := 9) hx hb hts hiX8 hown hK hP 0 rfl rfl 0 (by decide) (hts _ (List.mem_of_getElem? (i := 1) rfl)) (fun _ h9 => h9) rfl dX8_far_1 ?_
  refine lv_iload_n hx hb dX8_far_4 rfl (lv_at hl 1 rfl) ?_
  obtain ⟨r_1, hq, hf⟩ := ob hf
  try dsimp only at hf
  refine rcV 1 1 (As := [.int p0]) (rest := []) ⟨hx, hb, hml, hown, hts⟩ (ctX1_has l D cI cB cZ ad cBad cFul cCnt cOpc cStp cTsz cRcn cPlc cFlt cVil cLsz cRts cLns cOpn cGps cTrl cWgt cRch cByt cWds cFst cSnd cSgn p0 r_1 hq) (cwV 1 hts gX8_far_X1_has rfl rfl rfl (by decide +kernel) ⟨Nat.le_of_ble_eq_true rfl, Nat.le_of_ble_eq_true rfl⟩) hK hP rfl rfl rfl hl.1 rfl (Nat.le_of_ble_eq_true rfl) dX8_far_5 ⟨Nat.zero_le _, Nat.zero_le _⟩ ?_
  have hJ22 : ∀  (H : Heap) (locs : List Loc) (ls : Array Slot), fX8_far_J22 cBad = some (rv, zcBad) → va_P D vwCl (wC cI cB cZ ad cBad cFul cCnt cOpc cStp cTsz cRcn cPlc cFlt cVil cLsz cRts cLns cOpn cGps cTrl cWgt cRch cByt cWds cFst cSnd cSgn) H → va_S A s.heap H locs → lv_has ls 3 [(0, .ref (ad 0)), (1, .int p0), (2, .int p1)] → W p l e (rmN 1 23) s m args below meth c H locs 0 0 (MQ below (QI D (wC cI cB cZ ad zcBad cFul cCnt cOpc cStp cTsz cRcn cPlc cFlt cVil cLsz cRts cLns cOpn cGps cTrl cWgt cRch cByt cWds cFst cSnd cSgn) A rv) args s 0 0 A) (F0 m 22 ls []) := by
    intro  H locs ls hf hP hS hl
    unfold fX8_far_J22 at hf
    refine lv_aload_n hx hb dX8_far_22 rfl (lv_at hl 0 rfl) ?_
    obtain ⟨⟨r_2, qcBad_3⟩, hq, hf⟩ := ob hf
    try dsimp only at hf
    refine mcVi 0 7 (As := []) (rest := []) ⟨hx, hb, hml, hown, hts⟩ (ctX8_refuseBad l D cI cB cZ ad A hAD cBad cFul cCnt cOpc cStp cTsz cRcn cPlc cFlt cVil cLsz cRts cLns cOpn cGps cTrl cWgt cRch cByt cWds cFst cSnd cSgn  r_2 qcBad_3 hq) (cwV 0 hts gX8_far_X8_refuseBad rfl rfl rfl (by decide +kernel) ⟨Nat.le_of_ble_eq_true rfl, Nat.le_of_ble_eq_true rfl⟩) hK hP hS rfl rfl rfl hl.1 rfl (Nat.le_of_ble_eq_true rfl) dX8_far_23 ⟨Nat.zero_le _, Nat.zero_le _⟩ (fun H locs hP hS => ?_)
    obtain ⟨e0, hz1⟩ := Prod.mk.inj (Option.some.inj hf)
    subst e0
    subst hz1
    exact rm_i hx hb hr hlk hP hS dX8_far_26
  refine lv_if_eq (tgt := 22) hx hb dX8_far_8 (by decide) (fun hc => ?_) (fun hc => ?_)
  · replace hf := (if_pos hc).symm.trans hf
    exact hJ22  _ _ _ hf hP hS (lv_sub hl [0, 1, 2] rfl)
  · replace hf := (if_neg hc).symm.trans hf
    refine lv_aload_n hx hb dX8_far_11 rfl (lv_at hl 0 rfl) ?_
    refine va_get (ci := 7) (v := .ref (ad 1)) (C := RX8) (T := TX8) (N := 9) hx hb hts hiX8 hown hK hP 0 rfl rfl 0 (by decide) (hts _ (List.mem_of_getElem? (i := 1) rfl)) (fun _ h9 => h9) rfl dX8_far_12 ?_
    refine lv_iload_n hx hb dX8_far_15 rfl (lv_at hl 2 rfl) ?_
    obtain ⟨r_4, hq, hf⟩ := ob hf
    try dsimp only at hf
    refine rcV 1 1 (As := [.int p1]) (rest := []) ⟨hx, hb, hml, hown, hts⟩ (ctX1_has l D cI cB cZ ad cBad cFul cCnt cOpc cStp cTsz cRcn cPlc cFlt cVil cLsz cRts cLns cOpn cGps cTrl cWgt cRch cByt cWds cFst cSnd cSgn p1 r_4 hq) (cwV 1 hts gX8_far_X1_has rfl rfl rfl (by decide +kernel) ⟨Nat.le_of_ble_eq_true rfl, Nat.le_of_ble_eq_true rfl⟩) hK hP rfl rfl rfl hl.1 rfl (Nat.le_of_ble_eq_true rfl) dX8_far_16 ⟨Nat.zero_le _, Nat.zero_le _⟩ ?_
    refine lv_if_ne (tgt := 27) hx hb dX8_far_19 (by decide) (fun hc => ?_) (fun hc => ?_)
    · replace hf := (if_neg hc).symm.trans hf
      refine lv_aload_n hx hb dX8_far_27 rfl (lv_at hl 0 rfl) ?_
      refine va_get (ci := 7) (v := .ref (ad 1)) (C := RX8) (T := TX8) (N := 9) hx hb hts hiX8 hown hK hP 0 rfl rfl 0 (by decide) (hts _ (List.mem_of_getElem? (i := 1) rfl)) (fun _ h9 => h9) rfl dX8_far_28 ?_
      refine lv_iload_n hx hb dX8_far_31 rfl (lv_at hl 1 rfl) ?_
      refine lv_iload_n hx hb dX8_far_32 rfl (lv_at hl 2 rfl) ?_
      obtain ⟨r_5, hq, hf⟩ := ob hf
      try dsimp only at hf
      refine rcV 1 1 (As := [.int p0, .int p1]) (rest := []) ⟨hx, hb, hml, hown, hts⟩ (ctX1_gap l D cI cB cZ ad cBad cFul cCnt cOpc cStp cTsz cRcn cPlc cFlt cVil cLsz cRts cLns cOpn cGps cTrl cWgt cRch cByt cWds cFst cSnd cSgn p0 p1 r_5 hq) (cwV 2 hts gX8_far_X1_gap rfl rfl rfl (by decide +kernel) ⟨Nat.le_of_ble_eq_true rfl, Nat.le_of_ble_eq_true rfl⟩) hK hP rfl rfl rfl hl.1 rfl (Nat.le_of_ble_eq_true rfl) dX8_far_33 ⟨Nat.zero_le _, Nat.zero_le _⟩ ?_
      obtain ⟨e0, hz1⟩ := Prod.mk.inj (Option.some.inj hf)
      subst e0
      subst hz1
      exact rm_i hx hb hr hlk hP hS dX8_far_36
    · replace hf := (if_pos hc).symm.trans hf
      exact hJ22  _ _ _ hf hP hS (lv_sub hl [0, 1, 2] rfl)

def fX8_refuseBadPlace (cBad : Int32)  : Option (Int32 × Int32) :=
  (some ((-10 : Int32), (cBad + (1 : Int32))))
set_option maxRecDepth 100000 in
set_option maxHeartbeats 4000000 in
theorem ctX8_refuseBadPlace (l : Launch) (D : va_G) (cI cB cZ : ClassId) (ad : Nat → Nat) (A : Nat → Prop) (hAD : AD A ad 20) (cBad cFul cCnt cOpc cStp cTsz cRcn cPlc cFlt cVil cLsz : Int32) (cRts cLns cOpn cGps cTrl cWgt cRch cByt cWds cFst cSnd cSgn : Nat → Int32)  (rv : Int32) (zcBad : Int32) (hf : fX8_refuseBadPlace cBad = some (rv, zcBad)) : Met l yX8_refuseBadPlace wsX8_refuseBadPlace (rmN 0 0) (PR D (tyL cI cB cZ) (wC cI cB cZ ad cBad cFul cCnt cOpc cStp cTsz cRcn cPlc cFlt cVil cLsz cRts cLns cOpn cGps cTrl cWgt cRch cByt cWds cFst cSnd cSgn) [.ref (ad 0)]) (QI D (wC cI cB cZ ad zcBad cFul cCnt cOpc cStp cTsz cRcn cPlc cFlt cVil cLsz cRts cLns cOpn cGps cTrl cWgt cRch cByt cWds cFst cSnd cSgn) A rv) 0 0 A := by
  refine mk_met cX8_refuseBadPlace 1 (some .int) (by decide) rfl (Nat.le_of_ble_eq_true rfl) ?_
  intro p e s m args below meth c ls hx hb hr hlk hml hown hts hPK hl
  obtain ⟨hP, hK⟩ := hPK
  replace hl : lv_has ls 1 [(0, .ref (ad 0))] := hl
  replace hown : s.vm.findClass RX8 = some m.cls := hown
  have hiX8 : ∀ w ∈ wsX80, w ∈ wsX8_refuseBadPlace := fun w h => List.mem_cons_of_mem _ (List.mem_append_right _ h)
  have hS : va_S A s.heap s.heap [] := va_S.rf
  unfold fX8_refuseBadPlace at hf
  refine lv_aload_n hx hb dX8_refuseBadPlace_0 rfl (lv_at hl 0 rfl) ?_
  refine lv_dup hx hb dX8_refuseBadPlace_1 rfl ?_
  refine va_get (ci := 7) (v := .int cBad) (C := RX8) (T := TX8) (N := 9) hx hb hts hiX8 hown hK hP 0 rfl rfl 7 (by decide) (hts _ (List.mem_of_getElem? (i := 1) rfl)) (fun _ h9 => h9) rfl dX8_refuseBadPlace_2 ?_
  refine lv_iconst (v := (1 : Int32)) hx hb dX8_refuseBadPlace_5 (by decide) ?_
  refine lv_iadd hx hb dX8_refuseBadPlace_6 ?_
  refine va_put (ci := 7) (v := .int (cBad + (1 : Int32))) (ty := .int) (C := RX8) (T := TX8) (N := 9) hx hb hts hiX8 tyX8 tyX8_ok nmX8 hown hK hP (wC_D hAD) hS 0 rfl rfl 7 (by decide) (hts _ (List.mem_of_getElem? (i := 1) rfl)) (fun _ h9 => h9) rfl (tyX8_ok 7 (by decide)) rfl rfl (Nat.le_of_ble_eq_true rfl) dX8_refuseBadPlace_7 (fun H locs hP _ hS => ?_)
  have hP : va_P D vwCl (wC cI cB cZ ad (cBad + (1 : Int32)) cFul cCnt cOpc cStp cTsz cRcn cPlc cFlt cVil cLsz cRts cLns cOpn cGps cTrl cWgt cRch cByt cWds cFst cSnd cSgn) H := hP
  refine lv_bipush (v := (-10 : Int32)) hx hb dX8_refuseBadPlace_10 (by decide) ?_
  obtain ⟨e0, hz1⟩ := Prod.mk.inj (Option.some.inj hf)
  subst e0
  subst hz1
  exact rm_i hx hb hr hlk hP hS dX8_refuseBadPlace_12

def fX8_way_J27 (cBad : Int32) (cStp : Int32) (cTrl : Nat → Int32) : Option (Int32 × Int32 × Int32 × (Nat → Int32)) :=
  ((fX8_refuseBadPlace cBad).bind fun (r_2, qcBad_3) => (some (r_2, qcBad_3, cStp, cTrl)))
def fX8_way (cBad : Int32) (cCnt : Int32) (cStp : Int32) (cRts : Nat → Int32) (cTrl : Nat → Int32) (p0 : Int32) (p1 : Int32) (p2 : Int32) : Option (Int32 × Int32 × Int32 × (Nat → Int32)) :=
  ((fX1_has cCnt p0).bind fun r_1 => (if r_1 = 0 then (fX8_way_J27 cBad cStp cTrl) else ((fX1_has cCnt p1).bind fun r_4 => (if r_4 = 0 then (fX8_way_J27 cBad cStp cTrl) else (if (-1 : Int32) ≤ p2 then ((fX6_walk cCnt cStp cRts cTrl p0 p1).bind fun (qcStp_5, qcTrl_6) => (if p2 = (-1 : Int32) then (some (qcStp_5, cBad, qcStp_5, qcTrl_6)) else (if qcStp_5 ≤ p2 then (some ((-5 : Int32), cBad, qcStp_5, qcTrl_6)) else (if gI p2 60 then (some ((qcTrl_6 (p2).toNatClampNeg), cBad, qcStp_5, qcTrl_6)) else none)))) else (fX8_way_J27 cBad cStp cTrl))))))
set_option maxRecDepth 100000 in
set_option maxHeartbeats 4000000 in
theorem ctX8_way (l : Launch) (D : va_G) (cI cB cZ : ClassId) (ad : Nat → Nat) (A : Nat → Prop) (hAD : AD A ad 20) (cBad cFul cCnt cOpc cStp cTsz cRcn cPlc cFlt cVil cLsz : Int32) (cRts cLns cOpn cGps cTrl cWgt cRch cByt cWds cFst cSnd cSgn : Nat → Int32) (p0 : Int32) (p1 : Int32) (p2 : Int32) (rv : Int32) (zcBad : Int32) (zcStp : Int32) (zcTrl : Nat → Int32) (hf : fX8_way cBad cCnt cStp cRts cTrl p0 p1 p2 = some (rv, zcBad, zcStp, zcTrl)) : Met l yX8_way wsX8_way (rmN 2 48) (PR D (tyL cI cB cZ) (wC cI cB cZ ad cBad cFul cCnt cOpc cStp cTsz cRcn cPlc cFlt cVil cLsz cRts cLns cOpn cGps cTrl cWgt cRch cByt cWds cFst cSnd cSgn) [.ref (ad 0), .int p0, .int p1, .int p2]) (QI D (wC cI cB cZ ad zcBad cFul cCnt cOpc zcStp cTsz cRcn cPlc cFlt cVil cLsz cRts cLns cOpn cGps zcTrl cWgt cRch cByt cWds cFst cSnd cSgn) A rv) 0 0 A := by
  refine mk_met cX8_way 4 (some .int) (by decide) rfl (Nat.le_of_ble_eq_true rfl) ?_
  intro p e s m args below meth c ls hx hb hr hlk hml hown hts hPK hl
  obtain ⟨hP, hK⟩ := hPK
  replace hl : lv_has ls 4 [(0, .ref (ad 0)), (1, .int p0), (2, .int p1), (3, .int p2)] := hl
  replace hown : s.vm.findClass RX8 = some m.cls := hown
  have hiX6 : ∀ w ∈ wsX60, w ∈ wsX8_way := fun w h => List.mem_cons_of_mem _ (List.mem_append_left _ (List.mem_append_right _ h))
  have hiX8 : ∀ w ∈ wsX80, w ∈ wsX8_way := fun w h => List.mem_cons_of_mem _ (List.mem_append_left _ (List.mem_append_left _ (List.mem_append_right _ h)))
  have hS : va_S A s.heap s.heap [] := va_S.rf
  unfold fX8_way at hf
  refine lv_aload_n hx hb dX8_way_0 rfl (lv_at hl 0 rfl) ?_
  refine va_get (ci := 7) (v := .ref (ad 1)) (C := RX8) (T := TX8) (N := 9) hx hb hts hiX8 hown hK hP 0 rfl rfl 0 (by decide) (hts _ (List.mem_of_getElem? (i := 1) rfl)) (fun _ h9 => h9) rfl dX8_way_1 ?_
  refine lv_iload_n hx hb dX8_way_4 rfl (lv_at hl 1 rfl) ?_
  obtain ⟨r_1, hq, hf⟩ := ob hf
  try dsimp only at hf
  refine rcV 1 1 (As := [.int p0]) (rest := []) ⟨hx, hb, hml, hown, hts⟩ (ctX1_has l D cI cB cZ ad cBad cFul cCnt cOpc cStp cTsz cRcn cPlc cFlt cVil cLsz cRts cLns cOpn cGps cTrl cWgt cRch cByt cWds cFst cSnd cSgn p0 r_1 hq) (cwV 1 hts gX8_way_X1_has rfl rfl rfl (by decide +kernel) ⟨Nat.le_of_ble_eq_true rfl, Nat.le_of_ble_eq_true rfl⟩) hK hP rfl rfl rfl hl.1 rfl (Nat.le_of_ble_eq_true rfl) dX8_way_5 ⟨Nat.zero_le _, Nat.zero_le _⟩ ?_
  have hJ27 : ∀  (H : Heap) (locs : List Loc) (ls : Array Slot), fX8_way_J27 cBad cStp cTrl = some (rv, zcBad, zcStp, zcTrl) → va_P D vwCl (wC cI cB cZ ad cBad cFul cCnt cOpc cStp cTsz cRcn cPlc cFlt cVil cLsz cRts cLns cOpn cGps cTrl cWgt cRch cByt cWds cFst cSnd cSgn) H → va_S A s.heap H locs → lv_has ls 4 [(0, .ref (ad 0)), (1, .int p0), (2, .int p1), (3, .int p2)] → W p l e (rmN 2 48) s m args below meth c H locs 0 0 (MQ below (QI D (wC cI cB cZ ad zcBad cFul cCnt cOpc zcStp cTsz cRcn cPlc cFlt cVil cLsz cRts cLns cOpn cGps zcTrl cWgt cRch cByt cWds cFst cSnd cSgn) A rv) args s 0 0 A) (F0 m 27 ls []) := by
    intro  H locs ls hf hP hS hl
    unfold fX8_way_J27 at hf
    refine lv_aload_n hx hb dX8_way_27 rfl (lv_at hl 0 rfl) ?_
    obtain ⟨⟨r_2, qcBad_3⟩, hq, hf⟩ := ob hf
    try dsimp only at hf
    refine mcVi 0 7 (As := []) (rest := []) ⟨hx, hb, hml, hown, hts⟩ (ctX8_refuseBadPlace l D cI cB cZ ad A hAD cBad cFul cCnt cOpc cStp cTsz cRcn cPlc cFlt cVil cLsz cRts cLns cOpn cGps cTrl cWgt cRch cByt cWds cFst cSnd cSgn  r_2 qcBad_3 hq) (cwV 0 hts gX8_way_X8_refuseBadPlace rfl rfl rfl (by decide +kernel) ⟨Nat.le_of_ble_eq_true rfl, Nat.le_of_ble_eq_true rfl⟩) hK hP hS rfl rfl rfl hl.1 rfl (Nat.le_of_ble_eq_true rfl) dX8_way_28 ⟨Nat.zero_le _, Nat.zero_le _⟩ (fun H locs hP hS => ?_)
    obtain ⟨e0, hz1⟩ := Prod.mk.inj (Option.some.inj hf)
    obtain ⟨e1, hz2⟩ := Prod.mk.inj hz1
    obtain ⟨e2, hz3⟩ := Prod.mk.inj hz2
    subst e0
    subst e1
    subst e2
    subst hz3
    exact rm_i hx hb hr hlk hP hS dX8_way_31
  refine lv_if_eq (tgt := 27) hx hb dX8_way_8 (by decide) (fun hc => ?_) (fun hc => ?_)
  · replace hf := (if_pos hc).symm.trans hf
    exact hJ27  _ _ _ hf hP hS (lv_sub hl [0, 1, 2, 3] rfl)
  · replace hf := (if_neg hc).symm.trans hf
    refine lv_aload_n hx hb dX8_way_11 rfl (lv_at hl 0 rfl) ?_
    refine va_get (ci := 7) (v := .ref (ad 1)) (C := RX8) (T := TX8) (N := 9) hx hb hts hiX8 hown hK hP 0 rfl rfl 0 (by decide) (hts _ (List.mem_of_getElem? (i := 1) rfl)) (fun _ h9 => h9) rfl dX8_way_12 ?_
    refine lv_iload_n hx hb dX8_way_15 rfl (lv_at hl 2 rfl) ?_
    obtain ⟨r_4, hq, hf⟩ := ob hf
    try dsimp only at hf
    refine rcV 1 1 (As := [.int p1]) (rest := []) ⟨hx, hb, hml, hown, hts⟩ (ctX1_has l D cI cB cZ ad cBad cFul cCnt cOpc cStp cTsz cRcn cPlc cFlt cVil cLsz cRts cLns cOpn cGps cTrl cWgt cRch cByt cWds cFst cSnd cSgn p1 r_4 hq) (cwV 1 hts gX8_way_X1_has rfl rfl rfl (by decide +kernel) ⟨Nat.le_of_ble_eq_true rfl, Nat.le_of_ble_eq_true rfl⟩) hK hP rfl rfl rfl hl.1 rfl (Nat.le_of_ble_eq_true rfl) dX8_way_16 ⟨Nat.zero_le _, Nat.zero_le _⟩ ?_
    refine lv_if_eq (tgt := 27) hx hb dX8_way_19 (by decide) (fun hc => ?_) (fun hc => ?_)
    · replace hf := (if_pos hc).symm.trans hf
      exact hJ27  _ _ _ hf hP hS (lv_sub hl [0, 1, 2, 3] rfl)
    · replace hf := (if_neg hc).symm.trans hf
      refine lv_iload_n hx hb dX8_way_22 rfl (lv_at hl 3 rfl) ?_
      refine lv_iconst (v := (-1 : Int32)) hx hb dX8_way_23 (by decide) ?_
      refine lv_icmp_ge (tgt := 32) hx hb dX8_way_24 (by decide) (fun hc => ?_) (fun hc => ?_)
      · replace hf := (if_pos hc).symm.trans hf
        refine lv_aload_n hx hb dX8_way_32 rfl (lv_at hl 0 rfl) ?_
        refine va_get (ci := 7) (v := .ref (ad 6)) (C := RX8) (T := TX8) (N := 9) hx hb hts hiX8 hown hK hP 0 rfl rfl 1 (by decide) (hts _ (List.mem_of_getElem? (i := 2) rfl)) (fun _ h9 => h9) rfl dX8_way_33 ?_
        refine lv_iload_n hx hb dX8_way_36 rfl (lv_at hl 1 rfl) ?_
        refine lv_iload_n hx hb dX8_way_37 rfl (lv_at hl 2 rfl) ?_
        obtain ⟨⟨qcStp_5, qcTrl_6⟩, hq, hf⟩ := ob hf
        try dsimp only at hf
        refine mcVv 6 6 (As := [.int p0, .int p1]) (rest := []) ⟨hx, hb, hml, hown, hts⟩ (ctX6_walk l D cI cB cZ ad A hAD cBad cFul cCnt cOpc cStp cTsz cRcn cPlc cFlt cVil cLsz cRts cLns cOpn cGps cTrl cWgt cRch cByt cWds cFst cSnd cSgn p0 p1 qcStp_5 qcTrl_6 hq) (cwV 2 hts gX8_way_X6_walk rfl rfl rfl (by decide +kernel) ⟨Nat.le_of_ble_eq_true rfl, Nat.le_of_ble_eq_true rfl⟩) hK hP hS rfl rfl rfl hl.1 rfl (Nat.le_of_ble_eq_true rfl) dX8_way_38 ⟨Nat.zero_le _, Nat.zero_le _⟩ (fun H locs hP hS => ?_)
        refine lv_iload_n hx hb dX8_way_41 rfl (lv_at hl 3 rfl) ?_
        refine lv_iconst (v := (-1 : Int32)) hx hb dX8_way_42 (by decide) ?_
        refine lv_icmp_ne (tgt := 54) hx hb dX8_way_43 (by decide) (fun hc => ?_) (fun hc => ?_)
        · replace hf := (if_neg hc).symm.trans hf
          refine lv_iload_n hx hb dX8_way_54 rfl (lv_at hl 3 rfl) ?_
          refine lv_aload_n hx hb dX8_way_55 rfl (lv_at hl 0 rfl) ?_
          refine va_get (ci := 7) (v := .ref (ad 6)) (C := RX8) (T := TX8) (N := 9) hx hb hts hiX8 hown hK hP 0 rfl rfl 1 (by decide) (hts _ (List.mem_of_getElem? (i := 2) rfl)) (fun _ h9 => h9) rfl dX8_way_56 ?_
          refine va_get (ci := 6) (v := .int qcStp_5) (C := RX6) (T := TX6) (N := 4) hx hb hts hiX6 hown hK hP 6 rfl rfl 2 (by decide) (hts _ (List.mem_of_getElem? (i := 3) rfl)) (fun _ h9 => h9) rfl dX8_way_59 ?_
          refine lv_icmp_ge (tgt := 77) hx hb dX8_way_62 (by decide) (fun hc => ?_) (fun hc => ?_)
          · replace hf := (if_pos hc).symm.trans hf
            refine lv_bipush (v := (-5 : Int32)) hx hb dX8_way_77 (by decide) ?_
            obtain ⟨e0, hz1⟩ := Prod.mk.inj (Option.some.inj hf)
            obtain ⟨e1, hz2⟩ := Prod.mk.inj hz1
            obtain ⟨e2, hz3⟩ := Prod.mk.inj hz2
            subst e0
            subst e1
            subst e2
            subst hz3
            exact rm_i hx hb hr hlk hP hS dX8_way_79
          · replace hf := (if_neg hc).symm.trans hf
            refine lv_aload_n hx hb dX8_way_65 rfl (lv_at hl 0 rfl) ?_
            refine va_get (ci := 7) (v := .ref (ad 6)) (C := RX8) (T := TX8) (N := 9) hx hb hts hiX8 hown hK hP 0 rfl rfl 1 (by decide) (hts _ (List.mem_of_getElem? (i := 2) rfl)) (fun _ h9 => h9) rfl dX8_way_66 ?_
            refine va_get (ci := 6) (v := .ref (ad 7)) (C := RX6) (T := TX6) (N := 4) hx hb hts hiX6 hown hK hP 6 rfl rfl 1 (by decide) (hts _ (List.mem_of_getElem? (i := 4) rfl)) (fun _ h9 => h9) rfl dX8_way_69 ?_
            refine lv_iload_n hx hb dX8_way_72 rfl (lv_at hl 3 rfl) ?_
            obtain ⟨hg, hf⟩ := og hf
            refine va_iald hx hb hK hP 7 0 rfl rfl (gI_in hg) dX8_way_73 ?_
            refine lv_goto (tgt := 79) hx hb dX8_way_74 (by decide) ?_
            obtain ⟨e0, hz1⟩ := Prod.mk.inj (Option.some.inj hf)
            obtain ⟨e1, hz2⟩ := Prod.mk.inj hz1
            obtain ⟨e2, hz3⟩ := Prod.mk.inj hz2
            subst e0
            subst e1
            subst e2
            subst hz3
            exact rm_i hx hb hr hlk hP hS dX8_way_79
        · replace hf := (if_pos hc).symm.trans hf
          refine lv_aload_n hx hb dX8_way_46 rfl (lv_at hl 0 rfl) ?_
          refine va_get (ci := 7) (v := .ref (ad 6)) (C := RX8) (T := TX8) (N := 9) hx hb hts hiX8 hown hK hP 0 rfl rfl 1 (by decide) (hts _ (List.mem_of_getElem? (i := 2) rfl)) (fun _ h9 => h9) rfl dX8_way_47 ?_
          refine va_get (ci := 6) (v := .int qcStp_5) (C := RX6) (T := TX6) (N := 4) hx hb hts hiX6 hown hK hP 6 rfl rfl 2 (by decide) (hts _ (List.mem_of_getElem? (i := 3) rfl)) (fun _ h9 => h9) rfl dX8_way_50 ?_
          obtain ⟨e0, hz1⟩ := Prod.mk.inj (Option.some.inj hf)
          obtain ⟨e1, hz2⟩ := Prod.mk.inj hz1
          obtain ⟨e2, hz3⟩ := Prod.mk.inj hz2
          subst e0
          subst e1
          subst e2
          subst hz3
          exact rm_i hx hb hr hlk hP hS dX8_way_53
      · replace hf := (if_neg hc).symm.trans hf
        exact hJ27  _ _ _ hf hP hS (lv_sub hl [0, 1, 2, 3] rfl)

def fX8_longest (cBad : Int32) (cCnt : Int32) (cGps : Nat → Int32) (p0 : Int32) : Option (Int32 × Int32) :=
  ((fX8_isUpTo p0 (2 : Int32)).bind fun r_1 => (if r_1 = 0 then ((fX8_refuseBad cBad).bind fun (r_3, qcBad_4) => (some (r_3, qcBad_4))) else ((fX6_span cCnt cGps p0).bind fun r_2 => (some (r_2, cBad)))))
set_option maxRecDepth 100000 in
set_option maxHeartbeats 4000000 in
theorem ctX8_longest (l : Launch) (D : va_G) (cI cB cZ : ClassId) (ad : Nat → Nat) (A : Nat → Prop) (hAD : AD A ad 20) (cBad cFul cCnt cOpc cStp cTsz cRcn cPlc cFlt cVil cLsz : Int32) (cRts cLns cOpn cGps cTrl cWgt cRch cByt cWds cFst cSnd cSgn : Nat → Int32) (p0 : Int32) (rv : Int32) (zcBad : Int32) (hf : fX8_longest cBad cCnt cGps p0 = some (rv, zcBad)) : Met l yX8_longest wsX8_longest (rmN 2 49) (PR D (tyL cI cB cZ) (wC cI cB cZ ad cBad cFul cCnt cOpc cStp cTsz cRcn cPlc cFlt cVil cLsz cRts cLns cOpn cGps cTrl cWgt cRch cByt cWds cFst cSnd cSgn) [.ref (ad 0), .int p0]) (QI D (wC cI cB cZ ad zcBad cFul cCnt cOpc cStp cTsz cRcn cPlc cFlt cVil cLsz cRts cLns cOpn cGps cTrl cWgt cRch cByt cWds cFst cSnd cSgn) A rv) 0 0 A := by
  refine mk_met cX8_longest 2 (some .int) (by decide) rfl (Nat.le_of_ble_eq_true rfl) ?_
  intro p e s m args below meth c ls hx hb hr hlk hml hown hts hPK hl
  obtain ⟨hP, hK⟩ := hPK
  replace hl : lv_has ls 2 [(0, .ref (ad 0)), (1, .int p0)] := hl
  replace hown : s.vm.findClass RX8 = some m.cls := hown
  have hiX8 : ∀ w ∈ wsX80, w ∈ wsX8_longest := fun w h => List.mem_cons_of_mem _ (List.mem_append_left _ (List.mem_append_left _ (List.mem_append_right _ h)))
  have hS : va_S A s.heap s.heap [] := va_S.rf
  unfold fX8_longest at hf
  refine lv_iload_n hx hb dX8_longest_0 rfl (lv_at hl 1 rfl) ?_
  refine lv_iconst (v := (2 : Int32)) hx hb dX8_longest_1 (by decide) ?_
  obtain ⟨r_1, hq, hf⟩ := ob hf
  try dsimp only at hf
  refine rcS (As := [.int p0, .int (2 : Int32)]) (rest := []) ⟨hx, hb, hml, hown, hts⟩ (ctX8_isUpTo l p0 (2 : Int32) r_1 hq) (va_cwS 2 hts gX8_longest_X8_isUpTo rfl rfl rfl (by decide +kernel) ⟨Nat.le_of_ble_eq_true rfl, Nat.le_of_ble_eq_true rfl⟩) rfl hl.1 rfl (Nat.le_of_ble_eq_true rfl) dX8_longest_2 ⟨Nat.zero_le _, Nat.zero_le _⟩ ?_
  refine lv_if_ne (tgt := 13) hx hb dX8_longest_5 (by decide) (fun hc => ?_) (fun hc => ?_)
  · replace hf := (if_neg hc).symm.trans hf
    refine lv_aload_n hx hb dX8_longest_13 rfl (lv_at hl 0 rfl) ?_
    refine va_get (ci := 7) (v := .ref (ad 6)) (C := RX8) (T := TX8) (N := 9) hx hb hts hiX8 hown hK hP 0 rfl rfl 1 (by decide) (hts _ (List.mem_of_getElem? (i := 1) rfl)) (fun _ h9 => h9) rfl dX8_longest_14 ?_
    refine lv_iload_n hx hb dX8_longest_17 rfl (lv_at hl 1 rfl) ?_
    obtain ⟨r_2, hq, hf⟩ := ob hf
    try dsimp only at hf
    refine rcV 6 6 (As := [.int p0]) (rest := []) ⟨hx, hb, hml, hown, hts⟩ (ctX6_span l D cI cB cZ ad cBad cFul cCnt cOpc cStp cTsz cRcn cPlc cFlt cVil cLsz cRts cLns cOpn cGps cTrl cWgt cRch cByt cWds cFst cSnd cSgn p0 r_2 hq) (cwV 1 hts gX8_longest_X6_span rfl rfl rfl (by decide +kernel) ⟨Nat.le_of_ble_eq_true rfl, Nat.le_of_ble_eq_true rfl⟩) hK hP rfl rfl rfl hl.1 rfl (Nat.le_of_ble_eq_true rfl) dX8_longest_18 ⟨Nat.zero_le _, Nat.zero_le _⟩ ?_
    obtain ⟨e0, hz1⟩ := Prod.mk.inj (Option.some.inj hf)
    subst e0
    subst hz1
    exact rm_i hx hb hr hlk hP hS dX8_longest_21
  · replace hf := (if_pos hc).symm.trans hf
    refine lv_aload_n hx hb dX8_longest_8 rfl (lv_at hl 0 rfl) ?_
    obtain ⟨⟨r_3, qcBad_4⟩, hq, hf⟩ := ob hf
    try dsimp only at hf
    refine mcVi 0 7 (As := []) (rest := []) ⟨hx, hb, hml, hown, hts⟩ (ctX8_refuseBad l D cI cB cZ ad A hAD cBad cFul cCnt cOpc cStp cTsz cRcn cPlc cFlt cVil cLsz cRts cLns cOpn cGps cTrl cWgt cRch cByt cWds cFst cSnd cSgn  r_3 qcBad_4 hq) (cwV 0 hts gX8_longest_X8_refuseBad rfl rfl rfl (by decide +kernel) ⟨Nat.le_of_ble_eq_true rfl, Nat.le_of_ble_eq_true rfl⟩) hK hP hS rfl rfl rfl hl.1 rfl (Nat.le_of_ble_eq_true rfl) dX8_longest_9 ⟨Nat.zero_le _, Nat.zero_le _⟩ (fun H locs hP hS => ?_)
    obtain ⟨e0, hz1⟩ := Prod.mk.inj (Option.some.inj hf)
    subst e0
    subst hz1
    exact rm_i hx hb hr hlk hP hS dX8_longest_12

def fX8_middle (cBad : Int32) (cCnt : Int32) (cRts : Nat → Int32) (cGps : Nat → Int32) (cWgt : Nat → Int32) (p0 : Int32) : Option (Int32 × Int32 × (Nat → Int32)) :=
  ((fX8_isUpTo p0 (2 : Int32)).bind fun r_1 => (if r_1 = 0 then ((fX8_refuseBad cBad).bind fun (r_4, qcBad_5) => (some (r_4, qcBad_5, cWgt))) else ((fX6_heart cCnt cRts cGps cWgt p0).bind fun (r_2, qcWgt_3) => (some (r_2, cBad, qcWgt_3)))))
set_option maxRecDepth 100000 in
set_option maxHeartbeats 4000000 in
theorem ctX8_middle (l : Launch) (D : va_G) (cI cB cZ : ClassId) (ad : Nat → Nat) (A : Nat → Prop) (hAD : AD A ad 20) (cBad cFul cCnt cOpc cStp cTsz cRcn cPlc cFlt cVil cLsz : Int32) (cRts cLns cOpn cGps cTrl cWgt cRch cByt cWds cFst cSnd cSgn : Nat → Int32) (p0 : Int32) (rv : Int32) (zcBad : Int32) (zcWgt : Nat → Int32) (hf : fX8_middle cBad cCnt cRts cGps cWgt p0 = some (rv, zcBad, zcWgt)) : Met l yX8_middle wsX8_middle (rmN 4 93) (PR D (tyL cI cB cZ) (wC cI cB cZ ad cBad cFul cCnt cOpc cStp cTsz cRcn cPlc cFlt cVil cLsz cRts cLns cOpn cGps cTrl cWgt cRch cByt cWds cFst cSnd cSgn) [.ref (ad 0), .int p0]) (QI D (wC cI cB cZ ad zcBad cFul cCnt cOpc cStp cTsz cRcn cPlc cFlt cVil cLsz cRts cLns cOpn cGps cTrl zcWgt cRch cByt cWds cFst cSnd cSgn) A rv) 0 0 A := by
  refine mk_met cX8_middle 2 (some .int) (by decide) rfl (Nat.le_of_ble_eq_true rfl) ?_
  intro p e s m args below meth c ls hx hb hr hlk hml hown hts hPK hl
  obtain ⟨hP, hK⟩ := hPK
  replace hl : lv_has ls 2 [(0, .ref (ad 0)), (1, .int p0)] := hl
  replace hown : s.vm.findClass RX8 = some m.cls := hown
  have hiX8 : ∀ w ∈ wsX80, w ∈ wsX8_middle := fun w h => List.mem_cons_of_mem _ (List.mem_append_left _ (List.mem_append_left _ (List.mem_append_right _ h)))
  have hS : va_S A s.heap s.heap [] := va_S.rf
  unfold fX8_middle at hf
  refine lv_iload_n hx hb dX8_middle_0 rfl (lv_at hl 1 rfl) ?_
  refine lv_iconst (v := (2 : Int32)) hx hb dX8_middle_1 (by decide) ?_
  obtain ⟨r_1, hq, hf⟩ := ob hf
  try dsimp only at hf
  refine rcS (As := [.int p0, .int (2 : Int32)]) (rest := []) ⟨hx, hb, hml, hown, hts⟩ (ctX8_isUpTo l p0 (2 : Int32) r_1 hq) (va_cwS 2 hts gX8_middle_X8_isUpTo rfl rfl rfl (by decide +kernel) ⟨Nat.le_of_ble_eq_true rfl, Nat.le_of_ble_eq_true rfl⟩) rfl hl.1 rfl (Nat.le_of_ble_eq_true rfl) dX8_middle_2 ⟨Nat.zero_le _, Nat.zero_le _⟩ ?_
  refine lv_if_ne (tgt := 13) hx hb dX8_middle_5 (by decide) (fun hc => ?_) (fun hc => ?_)
  · replace hf := (if_neg hc).symm.trans hf
    refine lv_aload_n hx hb dX8_middle_13 rfl (lv_at hl 0 rfl) ?_
    refine va_get (ci := 7) (v := .ref (ad 6)) (C := RX8) (T := TX8) (N := 9) hx hb hts hiX8 hown hK hP 0 rfl rfl 1 (by decide) (hts _ (List.mem_of_getElem? (i := 1) rfl)) (fun _ h9 => h9) rfl dX8_middle_14 ?_
    refine lv_iload_n hx hb dX8_middle_17 rfl (lv_at hl 1 rfl) ?_
    obtain ⟨⟨r_2, qcWgt_3⟩, hq, hf⟩ := ob hf
    try dsimp only at hf
    refine mcVi 6 6 (As := [.int p0]) (rest := []) ⟨hx, hb, hml, hown, hts⟩ (ctX6_heart l D cI cB cZ ad A hAD cBad cFul cCnt cOpc cStp cTsz cRcn cPlc cFlt cVil cLsz cRts cLns cOpn cGps cTrl cWgt cRch cByt cWds cFst cSnd cSgn p0 r_2 qcWgt_3 hq) (cwV 1 hts gX8_middle_X6_heart rfl rfl rfl (by decide +kernel) ⟨Nat.le_of_ble_eq_true rfl, Nat.le_of_ble_eq_true rfl⟩) hK hP hS rfl rfl rfl hl.1 rfl (Nat.le_of_ble_eq_true rfl) dX8_middle_18 ⟨Nat.zero_le _, Nat.zero_le _⟩ (fun H locs hP hS => ?_)
    obtain ⟨e0, hz1⟩ := Prod.mk.inj (Option.some.inj hf)
    obtain ⟨e1, hz2⟩ := Prod.mk.inj hz1
    subst e0
    subst e1
    subst hz2
    exact rm_i hx hb hr hlk hP hS dX8_middle_21
  · replace hf := (if_pos hc).symm.trans hf
    refine lv_aload_n hx hb dX8_middle_8 rfl (lv_at hl 0 rfl) ?_
    obtain ⟨⟨r_4, qcBad_5⟩, hq, hf⟩ := ob hf
    try dsimp only at hf
    refine mcVi 0 7 (As := []) (rest := []) ⟨hx, hb, hml, hown, hts⟩ (ctX8_refuseBad l D cI cB cZ ad A hAD cBad cFul cCnt cOpc cStp cTsz cRcn cPlc cFlt cVil cLsz cRts cLns cOpn cGps cTrl cWgt cRch cByt cWds cFst cSnd cSgn  r_4 qcBad_5 hq) (cwV 0 hts gX8_middle_X8_refuseBad rfl rfl rfl (by decide +kernel) ⟨Nat.le_of_ble_eq_true rfl, Nat.le_of_ble_eq_true rfl⟩) hK hP hS rfl rfl rfl hl.1 rfl (Nat.le_of_ble_eq_true rfl) dX8_middle_9 ⟨Nat.zero_le _, Nat.zero_le _⟩ (fun H locs hP hS => ?_)
    obtain ⟨e0, hz1⟩ := Prod.mk.inj (Option.some.inj hf)
    obtain ⟨e1, hz2⟩ := Prod.mk.inj hz1
    subst e0
    subst e1
    subst hz2
    exact rm_i hx hb hr hlk hP hS dX8_middle_12

def fX8_whichOrFar_J9 (p1 : Int32) : Option (Int32) :=
  (some p1)
def fX8_whichOrFar (cGps : Nat → Int32) (p0 : Int32) (p1 : Int32) (p2 : Int32) : Option (Int32) :=
  (if p1 = (-1 : Int32) then (fX8_whichOrFar_J9 p1) else (if p2 = 0 then (fX8_whichOrFar_J9 p1) else ((fX1_gap cGps p0 p1).bind fun r_1 => (some r_1))))
set_option maxRecDepth 100000 in
set_option maxHeartbeats 4000000 in
theorem ctX8_whichOrFar (l : Launch) (D : va_G) (cI cB cZ : ClassId) (ad : Nat → Nat) (cBad cFul cCnt cOpc cStp cTsz cRcn cPlc cFlt cVil cLsz : Int32) (cRts cLns cOpn cGps cTrl cWgt cRch cByt cWds cFst cSnd cSgn : Nat → Int32) (p0 : Int32) (p1 : Int32) (p2 : Int32) (rv : Int32) (hf : fX8_whichOrFar cGps p0 p1 p2 = some rv) : Met l yX8_whichOrFar wsX8_whichOrFar (rmN 1 23) (PR D (tyL cI cB cZ) (wC cI cB cZ ad cBad cFul cCnt cOpc cStp cTsz cRcn cPlc cFlt cVil cLsz cRts cLns cOpn cGps cTrl cWgt cRch cByt cWds cFst cSnd cSgn) [.ref (ad 0), .int p0, .int p1, .int p2]) (SI rv) 0 0 (fun _ => False) := by
  refine mk_met cX8_whichOrFar 4 (some .int) (by decide) rfl (Nat.le_of_ble_eq_true rfl) ?_
  intro p e s m args below meth c ls hx hb hr hlk hml hown hts hPK hl
  obtain ⟨hP, hK⟩ := hPK
  replace hl : lv_has ls 4 [(0, .ref (ad 0)), (1, .int p0), (2, .int p1), (3, .int p2)] := hl
  replace hown : s.vm.findClass RX8 = some m.cls := hown
  have hiX8 : ∀ w ∈ wsX80, w ∈ wsX8_whichOrFar := fun w h => List.mem_cons_of_mem _ (List.mem_append_left _ (List.mem_append_right _ h))
  unfold fX8_whichOrFar at hf
  refine lv_iload_n hx hb dX8_whichOrFar_0 rfl (lv_at hl 2 rfl) ?_
  refine lv_iconst (v := (-1 : Int32)) hx hb dX8_whichOrFar_1 (by decide) ?_
  have hJ9 : ∀  (ls : Array Slot), fX8_whichOrFar_J9 p1 = some rv → lv_has ls 4 [(0, .ref (ad 0)), (1, .int p0), (2, .int p1), (3, .int p2)] → W p l e (rmN 1 23) s m args below meth c s.heap [] 0 0 (MQ below (SI rv) args s 0 0 (fun _ => False)) (F0 m 9 ls []) := by
    intro  ls hf hl
    unfold fX8_whichOrFar_J9 at hf
    refine lv_iload_n hx hb dX8_whichOrFar_9 rfl (lv_at hl 2 rfl) ?_
    refine lv_goto (tgt := 22) hx hb dX8_whichOrFar_10 (by decide) ?_
    exact re_i hx hb hr hlk dX8_whichOrFar_22 hf
  refine lv_icmp_eq (tgt := 9) hx hb dX8_whichOrFar_2 (by decide) (fun hc => ?_) (fun hc => ?_)
  · replace hf := (if_pos hc).symm.trans hf
    exact hJ9  _ hf (lv_sub hl [0, 1, 2, 3] rfl)
  · replace hf := (if_neg hc).symm.trans hf
    refine lv_iload_n hx hb dX8_whichOrFar_5 rfl (lv_at hl 3 rfl) ?_
    refine lv_if_ne (tgt := 13) hx hb dX8_whichOrFar_6 (by decide) (fun hc => ?_) (fun hc => ?_)
    · replace hf := (if_neg hc).symm.trans hf
      refine lv_aload_n hx hb dX8_whichOrFar_13 rfl (lv_at hl 0 rfl) ?_
      refine va_get (ci := 7) (v := .ref (ad 1)) (C := RX8) (T := TX8) (N := 9) hx hb hts hiX8 hown hK hP 0 rfl rfl 0 (by decide) (hts _ (List.mem_of_getElem? (i := 1) rfl)) (fun _ h9 => h9) rfl dX8_whichOrFar_14 ?_
      refine lv_iload_n hx hb dX8_whichOrFar_17 rfl (lv_at hl 1 rfl) ?_
      refine lv_iload_n hx hb dX8_whichOrFar_18 rfl (lv_at hl 2 rfl) ?_
      obtain ⟨r_1, hq, hf⟩ := ob hf
      try dsimp only at hf
      refine rcV 1 1 (As := [.int p0, .int p1]) (rest := []) ⟨hx, hb, hml, hown, hts⟩ (ctX1_gap l D cI cB cZ ad cBad cFul cCnt cOpc cStp cTsz cRcn cPlc cFlt cVil cLsz cRts cLns cOpn cGps cTrl cWgt cRch cByt cWds cFst cSnd cSgn p0 p1 r_1 hq) (cwV 2 hts gX8_whichOrFar_X1_gap rfl rfl rfl (by decide +kernel) ⟨Nat.le_of_ble_eq_true rfl, Nat.le_of_ble_eq_true rfl⟩) hK hP rfl rfl rfl hl.1 rfl (Nat.le_of_ble_eq_true rfl) dX8_whichOrFar_19 ⟨Nat.zero_le _, Nat.zero_le _⟩ ?_
      exact re_i hx hb hr hlk dX8_whichOrFar_22 hf
    · replace hf := (if_pos hc).symm.trans hf
      exact hJ9  _ hf (lv_sub hl [0, 1, 2, 3] rfl)

def fX8_nearest_J19 (cBad : Int32) : Option (Int32 × Int32) :=
  ((fX8_refuseBad cBad).bind fun (r_2, qcBad_3) => (some (r_2, qcBad_3)))
def fX8_nearest (cBad : Int32) (cCnt : Int32) (cOpn : Nat → Int32) (cGps : Nat → Int32) (p0 : Int32) (p1 : Int32) : Option (Int32 × Int32) :=
  ((fX1_has cCnt p0).bind fun r_1 => (if r_1 = 0 then (fX8_nearest_J19 cBad) else ((fX8_isUpTo p1 (1 : Int32)).bind fun r_4 => (if r_4 = 0 then (fX8_nearest_J19 cBad) else ((fX0_closest cCnt cOpn cGps p0).bind fun r_5 => ((fX8_whichOrFar cGps p0 r_5 p1).bind fun r_6 => (some (r_6, cBad))))))))
set_option maxRecDepth 100000 in
set_option maxHeartbeats 4000000 in
theorem ctX8_nearest (l : Launch) (D : va_G) (cI cB cZ : ClassId) (ad : Nat → Nat) (A : Nat → Prop) (hAD : AD A ad 20) (cBad cFul cCnt cOpc cStp cTsz cRcn cPlc cFlt cVil cLsz : Int32) (cRts cLns cOpn cGps cTrl cWgt cRch cByt cWds cFst cSnd cSgn : Nat → Int32) (p0 : Int32) (p1 : Int32) (rv : Int32) (zcBad : Int32) (hf : fX8_nearest cBad cCnt cOpn cGps p0 p1 = some (rv, zcBad)) : Met l yX8_nearest wsX8_nearest (rmN 2 47) (PR D (tyL cI cB cZ) (wC cI cB cZ ad cBad cFul cCnt cOpc cStp cTsz cRcn cPlc cFlt cVil cLsz cRts cLns cOpn cGps cTrl cWgt cRch cByt cWds cFst cSnd cSgn) [.ref (ad 0), .int p0, .int p1]) (QI D (wC cI cB cZ ad zcBad cFul cCnt cOpc cStp cTsz cRcn cPlc cFlt cVil cLsz cRts cLns cOpn cGps cTrl cWgt cRch cByt cWds cFst cSnd cSgn) A rv) 0 0 A := by
  refine mk_met cX8_nearest 3 (some .int) (by decide) rfl (Nat.le_of_ble_eq_true rfl) ?_
  intro p e s m args below meth c ls hx hb hr hlk hml hown hts hPK hl
  obtain ⟨hP, hK⟩ := hPK
  replace hl : lv_has ls 3 [(0, .ref (ad 0)), (1, .int p0), (2, .int p1)] := hl
  replace hown : s.vm.findClass RX8 = some m.cls := hown
  have hiX8 : ∀ w ∈ wsX80, w ∈ wsX8_nearest := fun w h => List.mem_cons_of_mem _ (List.mem_append_left _ (List.mem_append_left _ (List.mem_append_right _ h)))
  have hS : va_S A s.heap s.heap [] := va_S.rf
  unfold fX8_nearest at hf
  refine lv_aload_n hx hb dX8_nearest_0 rfl (lv_at hl 0 rfl) ?_
  refine va_get (ci := 7) (v := .ref (ad 1)) (C := RX8) (T := TX8) (N := 9) hx hb hts hiX8 hown hK hP 0 rfl rfl 0 (by decide) (hts _ (List.mem_of_getElem? (i := 1) rfl)) (fun _ h9 => h9) rfl dX8_nearest_1 ?_
  refine lv_iload_n hx hb dX8_nearest_4 rfl (lv_at hl 1 rfl) ?_
  obtain ⟨r_1, hq, hf⟩ := ob hf
  try dsimp only at hf
  refine rcV 1 1 (As := [.int p0]) (rest := []) ⟨hx, hb, hml, hown, hts⟩ (ctX1_has l D cI cB cZ ad cBad cFul cCnt cOpc cStp cTsz cRcn cPlc cFlt cVil cLsz cRts cLns cOpn cGps cTrl cWgt cRch cByt cWds cFst cSnd cSgn p0 r_1 hq) (cwV 1 hts gX8_nearest_X1_has rfl rfl rfl (by decide +kernel) ⟨Nat.le_of_ble_eq_true rfl, Nat.le_of_ble_eq_true rfl⟩) hK hP rfl rfl rfl hl.1 rfl (Nat.le_of_ble_eq_true rfl) dX8_nearest_5 ⟨Nat.zero_le _, Nat.zero_le _⟩ ?_
  have hJ19 : ∀  (H : Heap) (locs : List Loc) (ls : Array Slot), fX8_nearest_J19 cBad = some (rv, zcBad) → va_P D vwCl (wC cI cB cZ ad cBad cFul cCnt cOpc cStp cTsz cRcn cPlc cFlt cVil cLsz cRts cLns cOpn cGps cTrl cWgt cRch cByt cWds cFst cSnd cSgn) H → va_S A s.heap H locs → lv_has ls 3 [(0, .ref (ad 0)), (1, .int p0), (2, .int p1)] → W p l e (rmN 2 47) s m args below meth c H locs 0 0 (MQ below (QI D (wC cI cB cZ ad zcBad cFul cCnt cOpc cStp cTsz cRcn cPlc cFlt cVil cLsz cRts cLns cOpn cGps cTrl cWgt cRch cByt cWds cFst cSnd cSgn) A rv) args s 0 0 A) (F0 m 19 ls []) := by
    intro  H locs ls hf hP hS hl
    unfold fX8_nearest_J19 at hf
    refine lv_aload_n hx hb dX8_nearest_19 rfl (lv_at hl 0 rfl) ?_
    obtain ⟨⟨r_2, qcBad_3⟩, hq, hf⟩ := ob hf
    try dsimp only at hf
    refine mcVi 0 7 (As := []) (rest := []) ⟨hx, hb, hml, hown, hts⟩ (ctX8_refuseBad l D cI cB cZ ad A hAD cBad cFul cCnt cOpc cStp cTsz cRcn cPlc cFlt cVil cLsz cRts cLns cOpn cGps cTrl cWgt cRch cByt cWds cFst cSnd cSgn  r_2 qcBad_3 hq) (cwV 0 hts gX8_nearest_X8_refuseBad rfl rfl rfl (by decide +kernel) ⟨Nat.le_of_ble_eq_true rfl, Nat.le_of_ble_eq_true rfl⟩) hK hP hS rfl rfl rfl hl.1 rfl (Nat.le_of_ble_eq_true rfl) dX8_nearest_20 ⟨Nat.zero_le _, Nat.zero_le _⟩ (fun H locs hP hS => ?_)
    obtain ⟨e0, hz1⟩ := Prod.mk.inj (Option.some.inj hf)
    subst e0
    subst hz1
    exact rm_i hx hb hr hlk hP hS dX8_nearest_23
  refine lv_if_eq (tgt := 19) hx hb dX8_nearest_8 (by decide) (fun hc => ?_) (fun hc => ?_)
  · replace hf := (if_pos hc).symm.trans hf
    exact hJ19  _ _ _ hf hP hS (lv_sub hl [0, 1, 2] rfl)
  · replace hf := (if_neg hc).symm.trans hf
    refine lv_iload_n hx hb dX8_nearest_11 rfl (lv_at hl 2 rfl) ?_
    refine lv_iconst (v := (1 : Int32)) hx hb dX8_nearest_12 (by decide) ?_
    obtain ⟨r_4, hq, hf⟩ := ob hf
    try dsimp only at hf
    refine rcS (As := [.int p1, .int (1 : Int32)]) (rest := []) ⟨hx, hb, hml, hown, hts⟩ (ctX8_isUpTo l p1 (1 : Int32) r_4 hq) (va_cwS 2 hts gX8_nearest_X8_isUpTo rfl rfl rfl (by decide +kernel) ⟨Nat.le_of_ble_eq_true rfl, Nat.le_of_ble_eq_true rfl⟩) rfl hl.1 rfl (Nat.le_of_ble_eq_true rfl) dX8_nearest_13 ⟨Nat.zero_le _, Nat.zero_le _⟩ ?_
    refine lv_if_ne (tgt := 24) hx hb dX8_nearest_16 (by decide) (fun hc => ?_) (fun hc => ?_)
    · replace hf := (if_neg hc).symm.trans hf
      refine lv_aload_n hx hb dX8_nearest_24 rfl (lv_at hl 0 rfl) ?_
      refine lv_iload_n hx hb dX8_nearest_25 rfl (lv_at hl 1 rfl) ?_
      refine lv_aload_n hx hb dX8_nearest_26 rfl (lv_at hl 0 rfl) ?_
      refine va_get (ci := 7) (v := .ref (ad 9)) (C := RX8) (T := TX8) (N := 9) hx hb hts hiX8 hown hK hP 0 rfl rfl 2 (by decide) (hts _ (List.mem_of_getElem? (i := 2) rfl)) (fun _ h9 => h9) rfl dX8_nearest_27 ?_
      refine lv_iload_n hx hb dX8_nearest_30 rfl (lv_at hl 1 rfl) ?_
      obtain ⟨r_5, hq, hf⟩ := ob hf
      try dsimp only at hf
      refine rcV 9 0 (As := [.int p0]) (rest := [.int p0, .ref (ad 0)]) ⟨hx, hb, hml, hown, hts⟩ (ctX0_closest l D cI cB cZ ad cBad cFul cCnt cOpc cStp cTsz cRcn cPlc cFlt cVil cLsz cRts cLns cOpn cGps cTrl cWgt cRch cByt cWds cFst cSnd cSgn p0 r_5 hq) (cwV 1 hts gX8_nearest_X0_closest rfl rfl rfl (by decide +kernel) ⟨Nat.le_of_ble_eq_true rfl, Nat.le_of_ble_eq_true rfl⟩) hK hP rfl rfl rfl hl.1 rfl (Nat.le_of_ble_eq_true rfl) dX8_nearest_31 ⟨Nat.zero_le _, Nat.zero_le _⟩ ?_
      refine lv_iload_n hx hb dX8_nearest_34 rfl (lv_at hl 2 rfl) ?_
      obtain ⟨r_6, hq, hf⟩ := ob hf
      try dsimp only at hf
      refine rcV 0 7 (As := [.int p0, .int r_5, .int p1]) (rest := []) ⟨hx, hb, hml, hown, hts⟩ (ctX8_whichOrFar l D cI cB cZ ad cBad cFul cCnt cOpc cStp cTsz cRcn cPlc cFlt cVil cLsz cRts cLns cOpn cGps cTrl cWgt cRch cByt cWds cFst cSnd cSgn p0 r_5 p1 r_6 hq) (cwV 3 hts gX8_nearest_X8_whichOrFar rfl rfl rfl (by decide +kernel) ⟨Nat.le_of_ble_eq_true rfl, Nat.le_of_ble_eq_true rfl⟩) hK hP rfl rfl rfl hl.1 rfl (Nat.le_of_ble_eq_true rfl) dX8_nearest_35 ⟨Nat.zero_le _, Nat.zero_le _⟩ ?_
      obtain ⟨e0, hz1⟩ := Prod.mk.inj (Option.some.inj hf)
      subst e0
      subst hz1
      exact rm_i hx hb hr hlk hP hS dX8_nearest_38
    · replace hf := (if_pos hc).symm.trans hf
      exact hJ19  _ _ _ hf hP hS (lv_sub hl [0, 1, 2] rfl)

def fX8_turn_J23 (cBad : Int32) : Option (Int32 × Int32) :=
  ((fX8_refuseBad cBad).bind fun (r_2, qcBad_3) => (some (r_2, qcBad_3)))
def fX8_turn (cBad : Int32) (cCnt : Int32) (cOpn : Nat → Int32) (cGps : Nat → Int32) (p0 : Int32) (p1 : Int32) (p2 : Int32) : Option (Int32 × Int32) :=
  ((fX1_has cCnt p0).bind fun r_1 => (if r_1 = 0 then (fX8_turn_J23 cBad) else (if p1 < 0 then (fX8_turn_J23 cBad) else ((fX8_isUpTo p2 (1 : Int32)).bind fun r_4 => (if r_4 = 0 then (fX8_turn_J23 cBad) else ((fX0_ranked cCnt cOpn cGps p0 p1).bind fun r_5 => ((fX8_whichOrFar cGps p0 r_5 p2).bind fun r_6 => (some (r_6, cBad)))))))))
set_option maxRecDepth 100000 in
set_option maxHeartbeats 4000000 in
theorem ctX8_turn (l : Launch) (D : va_G) (cI cB cZ : ClassId) (ad : Nat → Nat) (A : Nat → Prop) (hAD : AD A ad 20) (cBad cFul cCnt cOpc cStp cTsz cRcn cPlc cFlt cVil cLsz : Int32) (cRts cLns cOpn cGps cTrl cWgt cRch cByt cWds cFst cSnd cSgn : Nat → Int32) (p0 : Int32) (p1 : Int32) (p2 : Int32) (rv : Int32) (zcBad : Int32) (hf : fX8_turn cBad cCnt cOpn cGps p0 p1 p2 = some (rv, zcBad)) : Met l yX8_turn wsX8_turn (rmN 3 72) (PR D (tyL cI cB cZ) (wC cI cB cZ ad cBad cFul cCnt cOpc cStp cTsz cRcn cPlc cFlt cVil cLsz cRts cLns cOpn cGps cTrl cWgt cRch cByt cWds cFst cSnd cSgn) [.ref (ad 0), .int p0, .int p1, .int p2]) (QI D (wC cI cB cZ ad zcBad cFul cCnt cOpc cStp cTsz cRcn cPlc cFlt cVil cLsz cRts cLns cOpn cGps cTrl cWgt cRch cByt cWds cFst cSnd cSgn) A rv) 0 0 A := by
  refine mk_met cX8_turn 4 (some .int) (by decide) rfl (Nat.le_of_ble_eq_true rfl) ?_
  intro p e s m args below meth c ls hx hb hr hlk hml hown hts hPK hl
  obtain ⟨hP, hK⟩ := hPK
  replace hl : lv_has ls 4 [(0, .ref (ad 0)), (1, .int p0), (2, .int p1), (3, .int p2)] := hl
  replace hown : s.vm.findClass RX8 = some m.cls := hown
  have hiX8 : ∀ w ∈ wsX80, w ∈ wsX8_turn := fun w h => List.mem_cons_of_mem _ (List.mem_append_left _ (List.mem_append_left _ (List.mem_append_right _ h)))
  have hS : va_S A s.heap s.heap [] := va_S.rf
  unfold fX8_turn at hf
  refine lv_aload_n hx hb dX8_turn_0 rfl (lv_at hl 0 rfl) ?_
  refine va_get (ci := 7) (v := .ref (ad 1)) (C := RX8) (T := TX8) (N := 9) hx hb hts hiX8 hown hK hP 0 rfl rfl 0 (by decide) (hts _ (List.mem_of_getElem? (i := 1) rfl)) (fun _ h9 => h9) rfl dX8_turn_1 ?_
  refine lv_iload_n hx hb dX8_turn_4 rfl (lv_at hl 1 rfl) ?_
  obtain ⟨r_1, hq, hf⟩ := ob hf
  try dsimp only at hf
  refine rcV 1 1 (As := [.int p0]) (rest := []) ⟨hx, hb, hml, hown, hts⟩ (ctX1_has l D cI cB cZ ad cBad cFul cCnt cOpc cStp cTsz cRcn cPlc cFlt cVil cLsz cRts cLns cOpn cGps cTrl cWgt cRch cByt cWds cFst cSnd cSgn p0 r_1 hq) (cwV 1 hts gX8_turn_X1_has rfl rfl rfl (by decide +kernel) ⟨Nat.le_of_ble_eq_true rfl, Nat.le_of_ble_eq_true rfl⟩) hK hP rfl rfl rfl hl.1 rfl (Nat.le_of_ble_eq_true rfl) dX8_turn_5 ⟨Nat.zero_le _, Nat.zero_le _⟩ ?_
  have hJ23 : ∀  (H : Heap) (locs : List Loc) (ls : Array Slot), fX8_turn_J23 cBad = some (rv, zcBad) → va_P D vwCl (wC cI cB cZ ad cBad cFul cCnt cOpc cStp cTsz cRcn cPlc cFlt cVil cLsz cRts cLns cOpn cGps cTrl cWgt cRch cByt cWds cFst cSnd cSgn) H → va_S A s.heap H locs → lv_has ls 4 [(0, .ref (ad 0)), (1, .int p0), (2, .int p1), (3, .int p2)] → W p l e (rmN 3 72) s m args below meth c H locs 0 0 (MQ below (QI D (wC cI cB cZ ad zcBad cFul cCnt cOpc cStp cTsz cRcn cPlc cFlt cVil cLsz cRts cLns cOpn cGps cTrl cWgt cRch cByt cWds cFst cSnd cSgn) A rv) args s 0 0 A) (F0 m 23 ls []) := by
    intro  H locs ls hf hP hS hl
    unfold fX8_turn_J23 at hf
    refine lv_aload_n hx hb dX8_turn_23 rfl (lv_at hl 0 rfl) ?_
    obtain ⟨⟨r_2, qcBad_3⟩, hq, hf⟩ := ob hf
    try dsimp only at hf
    refine mcVi 0 7 (As := []) (rest := []) ⟨hx, hb, hml, hown, hts⟩ (ctX8_refuseBad l D cI cB cZ ad A hAD cBad cFul cCnt cOpc cStp cTsz cRcn cPlc cFlt cVil cLsz cRts cLns cOpn cGps cTrl cWgt cRch cByt cWds cFst cSnd cSgn  r_2 qcBad_3 hq) (cwV 0 hts gX8_turn_X8_refuseBad rfl rfl rfl (by decide +kernel) ⟨Nat.le_of_ble_eq_true rfl, Nat.le_of_ble_eq_true rfl⟩) hK hP hS rfl rfl rfl hl.1 rfl (Nat.le_of_ble_eq_true rfl) dX8_turn_24 ⟨Nat.zero_le _, Nat.zero_le _⟩ (fun H locs hP hS => ?_)
    obtain ⟨e0, hz1⟩ := Prod.mk.inj (Option.some.inj hf)
    subst e0
    subst hz1
    exact rm_i hx hb hr hlk hP hS dX8_turn_27
  refine lv_if_eq (tgt := 23) hx hb dX8_turn_8 (by decide) (fun hc => ?_) (fun hc => ?_)
  · replace hf := (if_pos hc).symm.trans hf
    exact hJ23  _ _ _ hf hP hS (lv_sub hl [0, 1, 2, 3] rfl)
  · replace hf := (if_neg hc).symm.trans hf
    refine lv_iload_n hx hb dX8_turn_11 rfl (lv_at hl 2 rfl) ?_
    refine lv_if_lt (tgt := 23) hx hb dX8_turn_12 (by decide) (fun hc => ?_) (fun hc => ?_)
    · replace hf := (if_pos hc).symm.trans hf
      exact hJ23  _ _ _ hf hP hS (lv_sub hl [0, 1, 2, 3] rfl)
    · replace hf := (if_neg hc).symm.trans hf
      refine lv_iload_n hx hb dX8_turn_15 rfl (lv_at hl 3 rfl) ?_
      refine lv_iconst (v := (1 : Int32)) hx hb dX8_turn_16 (by decide) ?_
      obtain ⟨r_4, hq, hf⟩ := ob hf
      try dsimp only at hf
      refine rcS (As := [.int p2, .int (1 : Int32)]) (rest := []) ⟨hx, hb, hml, hown, hts⟩ (ctX8_isUpTo l p2 (1 : Int32) r_4 hq) (va_cwS 2 hts gX8_turn_X8_isUpTo rfl rfl rfl (by decide +kernel) ⟨Nat.le_of_ble_eq_true rfl, Nat.le_of_ble_eq_true rfl⟩) rfl hl.1 rfl (Nat.le_of_ble_eq_true rfl) dX8_turn_17 ⟨Nat.zero_le _, Nat.zero_le _⟩ ?_
      refine lv_if_ne (tgt := 28) hx hb dX8_turn_20 (by decide) (fun hc => ?_) (fun hc => ?_)
      · replace hf := (if_neg hc).symm.trans hf
        refine lv_aload_n hx hb dX8_turn_28 rfl (lv_at hl 0 rfl) ?_
        refine lv_iload_n hx hb dX8_turn_29 rfl (lv_at hl 1 rfl) ?_
        refine lv_aload_n hx hb dX8_turn_30 rfl (lv_at hl 0 rfl) ?_
        refine va_get (ci := 7) (v := .ref (ad 9)) (C := RX8) (T := TX8) (N := 9) hx hb hts hiX8 hown hK hP 0 rfl rfl 2 (by decide) (hts _ (List.mem_of_getElem? (i := 2) rfl)) (fun _ h9 => h9) rfl dX8_turn_31 ?_
        refine lv_iload_n hx hb dX8_turn_34 rfl (lv_at hl 1 rfl) ?_
        refine lv_iload_n hx hb dX8_turn_35 rfl (lv_at hl 2 rfl) ?_
        obtain ⟨r_5, hq, hf⟩ := ob hf
        try dsimp only at hf
        refine rcV 9 0 (As := [.int p0, .int p1]) (rest := [.int p0, .ref (ad 0)]) ⟨hx, hb, hml, hown, hts⟩ (ctX0_ranked l D cI cB cZ ad cBad cFul cCnt cOpc cStp cTsz cRcn cPlc cFlt cVil cLsz cRts cLns cOpn cGps cTrl cWgt cRch cByt cWds cFst cSnd cSgn p0 p1 r_5 hq) (cwV 2 hts gX8_turn_X0_ranked rfl rfl rfl (by decide +kernel) ⟨Nat.le_of_ble_eq_true rfl, Nat.le_of_ble_eq_true rfl⟩) hK hP rfl rfl rfl hl.1 rfl (Nat.le_of_ble_eq_true rfl) dX8_turn_36 ⟨Nat.zero_le _, Nat.zero_le _⟩ ?_
        refine lv_iload_n hx hb dX8_turn_39 rfl (lv_at hl 3 rfl) ?_
        obtain ⟨r_6, hq, hf⟩ := ob hf
        try dsimp only at hf
        refine rcV 0 7 (As := [.int p0, .int r_5, .int p2]) (rest := []) ⟨hx, hb, hml, hown, hts⟩ (ctX8_whichOrFar l D cI cB cZ ad cBad cFul cCnt cOpc cStp cTsz cRcn cPlc cFlt cVil cLsz cRts cLns cOpn cGps cTrl cWgt cRch cByt cWds cFst cSnd cSgn p0 r_5 p2 r_6 hq) (cwV 3 hts gX8_turn_X8_whichOrFar rfl rfl rfl (by decide +kernel) ⟨Nat.le_of_ble_eq_true rfl, Nat.le_of_ble_eq_true rfl⟩) hK hP rfl rfl rfl hl.1 rfl (Nat.le_of_ble_eq_true rfl) dX8_turn_40 ⟨Nat.zero_le _, Nat.zero_le _⟩ ?_
        obtain ⟨e0, hz1⟩ := Prod.mk.inj (Option.some.inj hf)
        subst e0
        subst hz1
        exact rm_i hx hb hr hlk hP hS dX8_turn_43
      · replace hf := (if_pos hc).symm.trans hf
        exact hJ23  _ _ _ hf hP hS (lv_sub hl [0, 1, 2, 3] rfl)

def fX8_within_J21 (cBad : Int32) : Option (Int32 × Int32) :=
  ((fX8_refuseBad cBad).bind fun (r_2, qcBad_3) => (some (r_2, qcBad_3)))
def fX8_within (cBad : Int32) (cCnt : Int32) (cOpn : Nat → Int32) (cGps : Nat → Int32) (p0 : Int32) (p1 : Int32) : Option (Int32 × Int32) :=
  ((fX1_has cCnt p0).bind fun r_1 => (if r_1 = 0 then (fX8_within_J21 cBad) else ((fX8_isUpTo p1 (6000 : Int32)).bind fun r_4 => (if r_4 = 0 then (fX8_within_J21 cBad) else ((fX0_countWithin cCnt cOpn cGps p0 p1).bind fun r_5 => (some (r_5, cBad)))))))
set_option maxRecDepth 100000 in
set_option maxHeartbeats 4000000 in
theorem ctX8_within (l : Launch) (D : va_G) (cI cB cZ : ClassId) (ad : Nat → Nat) (A : Nat → Prop) (hAD : AD A ad 20) (cBad cFul cCnt cOpc cStp cTsz cRcn cPlc cFlt cVil cLsz : Int32) (cRts cLns cOpn cGps cTrl cWgt cRch cByt cWds cFst cSnd cSgn : Nat → Int32) (p0 : Int32) (p1 : Int32) (rv : Int32) (zcBad : Int32) (hf : fX8_within cBad cCnt cOpn cGps p0 p1 = some (rv, zcBad)) : Met l yX8_within wsX8_within (rmN 2 47) (PR D (tyL cI cB cZ) (wC cI cB cZ ad cBad cFul cCnt cOpc cStp cTsz cRcn cPlc cFlt cVil cLsz cRts cLns cOpn cGps cTrl cWgt cRch cByt cWds cFst cSnd cSgn) [.ref (ad 0), .int p0, .int p1]) (QI D (wC cI cB cZ ad zcBad cFul cCnt cOpc cStp cTsz cRcn cPlc cFlt cVil cLsz cRts cLns cOpn cGps cTrl cWgt cRch cByt cWds cFst cSnd cSgn) A rv) 0 0 A := by
  refine mk_met cX8_within 3 (some .int) (by decide) rfl (Nat.le_of_ble_eq_true rfl) ?_
  intro p e s m args below meth c ls hx hb hr hlk hml hown hts hPK hl
  obtain ⟨hP, hK⟩ := hPK
  replace hl : lv_has ls 3 [(0, .ref (ad 0)), (1, .int p0), (2, .int p1)] := hl
  replace hown : s.vm.findClass RX8 = some m.cls := hown
  have hiX8 : ∀ w ∈ wsX80, w ∈ wsX8_within := fun w h => List.mem_cons_of_mem _ (List.mem_append_left _ (List.mem_append_left _ (List.mem_append_right _ h)))
  have hS : va_S A s.heap s.heap [] := va_S.rf
  unfold fX8_within at hf
  refine lv_aload_n hx hb dX8_within_0 rfl (lv_at hl 0 rfl) ?_
  refine va_get (ci := 7) (v := .ref (ad 1)) (C := RX8) (T := TX8) (N := 9) hx hb hts hiX8 hown hK hP 0 rfl rfl 0 (by decide) (hts _ (List.mem_of_getElem? (i := 1) rfl)) (fun _ h9 => h9) rfl dX8_within_1 ?_
  refine lv_iload_n hx hb dX8_within_4 rfl (lv_at hl 1 rfl) ?_
  obtain ⟨r_1, hq, hf⟩ := ob hf
  try dsimp only at hf
  refine rcV 1 1 (As := [.int p0]) (rest := []) ⟨hx, hb, hml, hown, hts⟩ (ctX1_has l D cI cB cZ ad cBad cFul cCnt cOpc cStp cTsz cRcn cPlc cFlt cVil cLsz cRts cLns cOpn cGps cTrl cWgt cRch cByt cWds cFst cSnd cSgn p0 r_1 hq) (cwV 1 hts gX8_within_X1_has rfl rfl rfl (by decide +kernel) ⟨Nat.le_of_ble_eq_true rfl, Nat.le_of_ble_eq_true rfl⟩) hK hP rfl rfl rfl hl.1 rfl (Nat.le_of_ble_eq_true rfl) dX8_within_5 ⟨Nat.zero_le _, Nat.zero_le _⟩ ?_
  have hJ21 : ∀  (H : Heap) (locs : List Loc) (ls : Array Slot), fX8_within_J21 cBad = some (rv, zcBad) → va_P D vwCl (wC cI cB cZ ad cBad cFul cCnt cOpc cStp cTsz cRcn cPlc cFlt cVil cLsz cRts cLns cOpn cGps cTrl cWgt cRch cByt cWds cFst cSnd cSgn) H → va_S A s.heap H locs → lv_has ls 3 [(0, .ref (ad 0)), (1, .int p0), (2, .int p1)] → W p l e (rmN 2 47) s m args below meth c H locs 0 0 (MQ below (QI D (wC cI cB cZ ad zcBad cFul cCnt cOpc cStp cTsz cRcn cPlc cFlt cVil cLsz cRts cLns cOpn cGps cTrl cWgt cRch cByt cWds cFst cSnd cSgn) A rv) args s 0 0 A) (F0 m 21 ls []) := by
    intro  H locs ls hf hP hS hl
    unfold fX8_within_J21 at hf
    refine lv_aload_n hx hb dX8_within_21 rfl (lv_at hl 0 rfl) ?_
    obtain ⟨⟨r_2, qcBad_3⟩, hq, hf⟩ := ob hf
    try dsimp only at hf
    refine mcVi 0 7 (As := []) (rest := []) ⟨hx, hb, hml, hown, hts⟩ (ctX8_refuseBad l D cI cB cZ ad A hAD cBad cFul cCnt cOpc cStp cTsz cRcn cPlc cFlt cVil cLsz cRts cLns cOpn cGps cTrl cWgt cRch cByt cWds cFst cSnd cSgn  r_2 qcBad_3 hq) (cwV 0 hts gX8_within_X8_refuseBad rfl rfl rfl (by decide +kernel) ⟨Nat.le_of_ble_eq_true rfl, Nat.le_of_ble_eq_true rfl⟩) hK hP hS rfl rfl rfl hl.1 rfl (Nat.le_of_ble_eq_true rfl) dX8_within_22 ⟨Nat.zero_le _, Nat.zero_le _⟩ (fun H locs hP hS => ?_)
    obtain ⟨e0, hz1⟩ := Prod.mk.inj (Option.some.inj hf)
    subst e0
    subst hz1
    exact rm_i hx hb hr hlk hP hS dX8_within_25
  refine lv_if_eq (tgt := 21) hx hb dX8_within_8 (by decide) (fun hc => ?_) (fun hc => ?_)
  · replace hf := (if_pos hc).symm.trans hf
    exact hJ21  _ _ _ hf hP hS (lv_sub hl [0, 1, 2] rfl)
  · replace hf := (if_neg hc).symm.trans hf
    refine lv_iload_n hx hb dX8_within_11 rfl (lv_at hl 2 rfl) ?_
    refine lv_sipush (v := (6000 : Int32)) hx hb dX8_within_12 (by decide) ?_
    obtain ⟨r_4, hq, hf⟩ := ob hf
    try dsimp only at hf
    refine rcS (As := [.int p1, .int (6000 : Int32)]) (rest := []) ⟨hx, hb, hml, hown, hts⟩ (ctX8_isUpTo l p1 (6000 : Int32) r_4 hq) (va_cwS 2 hts gX8_within_X8_isUpTo rfl rfl rfl (by decide +kernel) ⟨Nat.le_of_ble_eq_true rfl, Nat.le_of_ble_eq_true rfl⟩) rfl hl.1 rfl (Nat.le_of_ble_eq_true rfl) dX8_within_15 ⟨Nat.zero_le _, Nat.zero_le _⟩ ?_
    refine lv_if_ne (tgt := 26) hx hb dX8_within_18 (by decide) (fun hc => ?_) (fun hc => ?_)
    · replace hf := (if_neg hc).symm.trans hf
      refine lv_aload_n hx hb dX8_within_26 rfl (lv_at hl 0 rfl) ?_
      refine va_get (ci := 7) (v := .ref (ad 9)) (C := RX8) (T := TX8) (N := 9) hx hb hts hiX8 hown hK hP 0 rfl rfl 2 (by decide) (hts _ (List.mem_of_getElem? (i := 2) rfl)) (fun _ h9 => h9) rfl dX8_within_27 ?_
      refine lv_iload_n hx hb dX8_within_30 rfl (lv_at hl 1 rfl) ?_
      refine lv_iload_n hx hb dX8_within_31 rfl (lv_at hl 2 rfl) ?_
      obtain ⟨r_5, hq, hf⟩ := ob hf
      try dsimp only at hf
      refine rcV 9 0 (As := [.int p0, .int p1]) (rest := []) ⟨hx, hb, hml, hown, hts⟩ (ctX0_countWithin l D cI cB cZ ad cBad cFul cCnt cOpc cStp cTsz cRcn cPlc cFlt cVil cLsz cRts cLns cOpn cGps cTrl cWgt cRch cByt cWds cFst cSnd cSgn p0 p1 r_5 hq) (cwV 2 hts gX8_within_X0_countWithin rfl rfl rfl (by decide +kernel) ⟨Nat.le_of_ble_eq_true rfl, Nat.le_of_ble_eq_true rfl⟩) hK hP rfl rfl rfl hl.1 rfl (Nat.le_of_ble_eq_true rfl) dX8_within_32 ⟨Nat.zero_le _, Nat.zero_le _⟩ ?_
      obtain ⟨e0, hz1⟩ := Prod.mk.inj (Option.some.inj hf)
      subst e0
      subst hz1
      exact rm_i hx hb hr hlk hP hS dX8_within_35
    · replace hf := (if_pos hc).symm.trans hf
      exact hJ21  _ _ _ hf hP hS (lv_sub hl [0, 1, 2] rfl)

def fX8_sum (cBad : Int32) (cCnt : Int32) (cOpn : Nat → Int32) (cGps : Nat → Int32) (p0 : Int32) : Option (Int32 × Int32) :=
  ((fX1_has cCnt p0).bind fun r_1 => (if r_1 = 0 then ((fX8_refuseBad cBad).bind fun (r_3, qcBad_4) => (some (r_3, qcBad_4))) else ((fX0_total cCnt cOpn cGps p0).bind fun r_2 => (some (r_2, cBad)))))
set_option maxRecDepth 100000 in
set_option maxHeartbeats 4000000 in
theorem ctX8_sum (l : Launch) (D : va_G) (cI cB cZ : ClassId) (ad : Nat → Nat) (A : Nat → Prop) (hAD : AD A ad 20) (cBad cFul cCnt cOpc cStp cTsz cRcn cPlc cFlt cVil cLsz : Int32) (cRts cLns cOpn cGps cTrl cWgt cRch cByt cWds cFst cSnd cSgn : Nat → Int32) (p0 : Int32) (rv : Int32) (zcBad : Int32) (hf : fX8_sum cBad cCnt cOpn cGps p0 = some (rv, zcBad)) : Met l yX8_sum wsX8_sum (rmN 2 46) (PR D (tyL cI cB cZ) (wC cI cB cZ ad cBad cFul cCnt cOpc cStp cTsz cRcn cPlc cFlt cVil cLsz cRts cLns cOpn cGps cTrl cWgt cRch cByt cWds cFst cSnd cSgn) [.ref (ad 0), .int p0]) (QI D (wC cI cB cZ ad zcBad cFul cCnt cOpc cStp cTsz cRcn cPlc cFlt cVil cLsz cRts cLns cOpn cGps cTrl cWgt cRch cByt cWds cFst cSnd cSgn) A rv) 0 0 A := by
  refine mk_met cX8_sum 2 (some .int) (by decide) rfl (Nat.le_of_ble_eq_true rfl) ?_
  intro p e s m args below meth c ls hx hb hr hlk hml hown hts hPK hl
  obtain ⟨hP, hK⟩ := hPK
  replace hl : lv_has ls 2 [(0, .ref (ad 0)), (1, .int p0)] := hl
  replace hown : s.vm.findClass RX8 = some m.cls := hown
  have hiX8 : ∀ w ∈ wsX80, w ∈ wsX8_sum := fun w h => List.mem_cons_of_mem _ (List.mem_append_left _ (List.mem_append_left _ (List.mem_append_right _ h)))
  have hS : va_S A s.heap s.heap [] := va_S.rf
  unfold fX8_sum at hf
  refine lv_aload_n hx hb dX8_sum_0 rfl (lv_at hl 0 rfl) ?_
  refine va_get (ci := 7) (v := .ref (ad 1)) (C := RX8) (T := TX8) (N := 9) hx hb hts hiX8 hown hK hP 0 rfl rfl 0 (by decide) (hts _ (List.mem_of_getElem? (i := 1) rfl)) (fun _ h9 => h9) rfl dX8_sum_1 ?_
  refine lv_iload_n hx hb dX8_sum_4 rfl (lv_at hl 1 rfl) ?_
  obtain ⟨r_1, hq, hf⟩ := ob hf
  try dsimp only at hf
  refine rcV 1 1 (As := [.int p0]) (rest := []) ⟨hx, hb, hml, hown, hts⟩ (ctX1_has l D cI cB cZ ad cBad cFul cCnt cOpc cStp cTsz cRcn cPlc cFlt cVil cLsz cRts cLns cOpn cGps cTrl cWgt cRch cByt cWds cFst cSnd cSgn p0 r_1 hq) (cwV 1 hts gX8_sum_X1_has rfl rfl rfl (by decide +kernel) ⟨Nat.le_of_ble_eq_true rfl, Nat.le_of_ble_eq_true rfl⟩) hK hP rfl rfl rfl hl.1 rfl (Nat.le_of_ble_eq_true rfl) dX8_sum_5 ⟨Nat.zero_le _, Nat.zero_le _⟩ ?_
  refine lv_if_ne (tgt := 16) hx hb dX8_sum_8 (by decide) (fun hc => ?_) (fun hc => ?_)
  · replace hf := (if_neg hc).symm.trans hf
    refine lv_aload_n hx hb dX8_sum_16 rfl (lv_at hl 0 rfl) ?_
    refine va_get (ci := 7) (v := .ref (ad 9)) (C := RX8) (T := TX8) (N := 9) hx hb hts hiX8 hown hK hP 0 rfl rfl 2 (by decide) (hts _ (List.mem_of_getElem? (i := 2) rfl)) (fun _ h9 => h9) rfl dX8_sum_17 ?_
    refine lv_iload_n hx hb dX8_sum_20 rfl (lv_at hl 1 rfl) ?_
    obtain ⟨r_2, hq, hf⟩ := ob hf
    try dsimp only at hf
    refine rcV 9 0 (As := [.int p0]) (rest := []) ⟨hx, hb, hml, hown, hts⟩ (ctX0_total l D cI cB cZ ad cBad cFul cCnt cOpc cStp cTsz cRcn cPlc cFlt cVil cLsz cRts cLns cOpn cGps cTrl cWgt cRch cByt cWds cFst cSnd cSgn p0 r_2 hq) (cwV 1 hts gX8_sum_X0_total rfl rfl rfl (by decide +kernel) ⟨Nat.le_of_ble_eq_true rfl, Nat.le_of_ble_eq_true rfl⟩) hK hP rfl rfl rfl hl.1 rfl (Nat.le_of_ble_eq_true rfl) dX8_sum_21 ⟨Nat.zero_le _, Nat.zero_le _⟩ ?_
    obtain ⟨e0, hz1⟩ := Prod.mk.inj (Option.some.inj hf)
    subst e0
    subst hz1
    exact rm_i hx hb hr hlk hP hS dX8_sum_24
  · replace hf := (if_pos hc).symm.trans hf
    refine lv_aload_n hx hb dX8_sum_11 rfl (lv_at hl 0 rfl) ?_
    obtain ⟨⟨r_3, qcBad_4⟩, hq, hf⟩ := ob hf
    try dsimp only at hf
    refine mcVi 0 7 (As := []) (rest := []) ⟨hx, hb, hml, hown, hts⟩ (ctX8_refuseBad l D cI cB cZ ad A hAD cBad cFul cCnt cOpc cStp cTsz cRcn cPlc cFlt cVil cLsz cRts cLns cOpn cGps cTrl cWgt cRch cByt cWds cFst cSnd cSgn  r_3 qcBad_4 hq) (cwV 0 hts gX8_sum_X8_refuseBad rfl rfl rfl (by decide +kernel) ⟨Nat.le_of_ble_eq_true rfl, Nat.le_of_ble_eq_true rfl⟩) hK hP hS rfl rfl rfl hl.1 rfl (Nat.le_of_ble_eq_true rfl) dX8_sum_12 ⟨Nat.zero_le _, Nat.zero_le _⟩ (fun H locs hP hS => ?_)
    obtain ⟨e0, hz1⟩ := Prod.mk.inj (Option.some.inj hf)
    subst e0
    subst hz1
    exact rm_i hx hb hr hlk hP hS dX8_sum_15

def fX8_left (cBad : Int32) (cCnt : Int32) (cOpc : Int32) (cOpn : Nat → Int32) (cGps : Nat → Int32) (cRch : Nat → Int32) (p0 : Int32) : Option (Int32 × Int32 × (Nat → Int32)) :=
  ((fX8_isUpTo p0 (1 : Int32)).bind fun r_1 => (if r_1 = 0 then ((fX8_refuseBad cBad).bind fun (r_4, qcBad_5) => (some (r_4, qcBad_5, cRch))) else ((fX0_remotest cCnt cOpc cOpn cGps cRch p0).bind fun (r_2, qcRch_3) => (some (r_2, cBad, qcRch_3)))))
set_option maxRecDepth 100000 in
set_option maxHeartbeats 4000000 in
theorem ctX8_left (l : Launch) (D : va_G) (cI cB cZ : ClassId) (ad : Nat → Nat) (A : Nat → Prop) (hAD : AD A ad 20) (cBad cFul cCnt cOpc cStp cTsz cRcn cPlc cFlt cVil cLsz : Int32) (cRts cLns cOpn cGps cTrl cWgt cRch cByt cWds cFst cSnd cSgn : Nat → Int32) (p0 : Int32) (rv : Int32) (zcBad : Int32) (zcRch : Nat → Int32) (hf : fX8_left cBad cCnt cOpc cOpn cGps cRch p0 = some (rv, zcBad, zcRch)) : Met l yX8_left wsX8_left (rmN 4 93) (PR D (tyL cI cB cZ) (wC cI cB cZ ad cBad cFul cCnt cOpc cStp cTsz cRcn cPlc cFlt cVil cLsz cRts cLns cOpn cGps cTrl cWgt cRch cByt cWds cFst cSnd cSgn) [.ref (ad 0), .int p0]) (QI D (wC cI cB cZ ad zcBad cFul cCnt cOpc cStp cTsz cRcn cPlc cFlt cVil cLsz cRts cLns cOpn cGps cTrl cWgt zcRch cByt cWds cFst cSnd cSgn) A rv) 0 0 A := by
  refine mk_met cX8_left 2 (some .int) (by decide) rfl (Nat.le_of_ble_eq_true rfl) ?_
  intro p e s m args below meth c ls hx hb hr hlk hml hown hts hPK hl
  obtain ⟨hP, hK⟩ := hPK
  replace hl : lv_has ls 2 [(0, .ref (ad 0)), (1, .int p0)] := hl
  replace hown : s.vm.findClass RX8 = some m.cls := hown
  have hiX8 : ∀ w ∈ wsX80, w ∈ wsX8_left := fun w h => List.mem_cons_of_mem _ (List.mem_append_left _ (List.mem_append_left _ (List.mem_append_right _ h)))
  have hS : va_S A s.heap s.heap [] := va_S.rf
  unfold fX8_left at hf
  refine lv_iload_n hx hb dX8_left_0 rfl (lv_at hl 1 rfl) ?_
  refine lv_iconst (v := (1 : Int32)) hx hb dX8_left_1 (by decide) ?_
  obtain ⟨r_1, hq, hf⟩ := ob hf
  try dsimp only at hf
  refine rcS (As := [.int p0, .int (1 : Int32)]) (rest := []) ⟨hx, hb, hml, hown, hts⟩ (ctX8_isUpTo l p0 (1 : Int32) r_1 hq) (va_cwS 2 hts gX8_left_X8_isUpTo rfl rfl rfl (by decide +kernel) ⟨Nat.le_of_ble_eq_true rfl, Nat.le_of_ble_eq_true rfl⟩) rfl hl.1 rfl (Nat.le_of_ble_eq_true rfl) dX8_left_2 ⟨Nat.zero_le _, Nat.zero_le _⟩ ?_
  refine lv_if_ne (tgt := 13) hx hb dX8_left_5 (by decide) (fun hc => ?_) (fun hc => ?_)
  · replace hf := (if_neg hc).symm.trans hf
    refine lv_aload_n hx hb dX8_left_13 rfl (lv_at hl 0 rfl) ?_
    refine va_get (ci := 7) (v := .ref (ad 9)) (C := RX8) (T := TX8) (N := 9) hx hb hts hiX8 hown hK hP 0 rfl rfl 2 (by decide) (hts _ (List.mem_of_getElem? (i := 1) rfl)) (fun _ h9 => h9) rfl dX8_left_14 ?_
    refine lv_iload_n hx hb dX8_left_17 rfl (lv_at hl 1 rfl) ?_
    obtain ⟨⟨r_2, qcRch_3⟩, hq, hf⟩ := ob hf
    try dsimp only at hf
    refine mcVi 9 0 (As := [.int p0]) (rest := []) ⟨hx, hb, hml, hown, hts⟩ (ctX0_remotest l D cI cB cZ ad A hAD cBad cFul cCnt cOpc cStp cTsz cRcn cPlc cFlt cVil cLsz cRts cLns cOpn cGps cTrl cWgt cRch cByt cWds cFst cSnd cSgn p0 r_2 qcRch_3 hq) (cwV 1 hts gX8_left_X0_remotest rfl rfl rfl (by decide +kernel) ⟨Nat.le_of_ble_eq_true rfl, Nat.le_of_ble_eq_true rfl⟩) hK hP hS rfl rfl rfl hl.1 rfl (Nat.le_of_ble_eq_true rfl) dX8_left_18 ⟨Nat.zero_le _, Nat.zero_le _⟩ (fun H locs hP hS => ?_)
    obtain ⟨e0, hz1⟩ := Prod.mk.inj (Option.some.inj hf)
    obtain ⟨e1, hz2⟩ := Prod.mk.inj hz1
    subst e0
    subst e1
    subst hz2
    exact rm_i hx hb hr hlk hP hS dX8_left_21
  · replace hf := (if_pos hc).symm.trans hf
    refine lv_aload_n hx hb dX8_left_8 rfl (lv_at hl 0 rfl) ?_
    obtain ⟨⟨r_4, qcBad_5⟩, hq, hf⟩ := ob hf
    try dsimp only at hf
    refine mcVi 0 7 (As := []) (rest := []) ⟨hx, hb, hml, hown, hts⟩ (ctX8_refuseBad l D cI cB cZ ad A hAD cBad cFul cCnt cOpc cStp cTsz cRcn cPlc cFlt cVil cLsz cRts cLns cOpn cGps cTrl cWgt cRch cByt cWds cFst cSnd cSgn  r_4 qcBad_5 hq) (cwV 0 hts gX8_left_X8_refuseBad rfl rfl rfl (by decide +kernel) ⟨Nat.le_of_ble_eq_true rfl, Nat.le_of_ble_eq_true rfl⟩) hK hP hS rfl rfl rfl hl.1 rfl (Nat.le_of_ble_eq_true rfl) dX8_left_9 ⟨Nat.zero_le _, Nat.zero_le _⟩ (fun H locs hP hS => ?_)
    obtain ⟨e0, hz1⟩ := Prod.mk.inj (Option.some.inj hf)
    obtain ⟨e1, hz2⟩ := Prod.mk.inj hz1
    subst e0
    subst e1
    subst hz2
    exact rm_i hx hb hr hlk hP hS dX8_left_12

def fX8_more (cBad : Int32) (cCnt : Int32) (cOpn : Nat → Int32) (cGps : Nat → Int32) (cRch : Nat → Int32) (p0 : Int32) : Option (Int32 × Int32 × (Nat → Int32)) :=
  ((fX8_isUpTo p0 (1 : Int32)).bind fun r_1 => (if r_1 = 0 then ((fX8_refuseBad cBad).bind fun (r_4, qcBad_5) => (some (r_4, qcBad_5, cRch))) else ((fX0_bestNew cCnt cOpn cGps cRch p0).bind fun (r_2, qcRch_3) => (some (r_2, cBad, qcRch_3)))))
set_option maxRecDepth 100000 in
set_option maxHeartbeats 4000000 in
theorem ctX8_more (l : Launch) (D : va_G) (cI cB cZ : ClassId) (ad : Nat → Nat) (A : Nat → Prop) (hAD : AD A ad 20) (cBad cFul cCnt cOpc cStp cTsz cRcn cPlc cFlt cVil cLsz : Int32) (cRts cLns cOpn cGps cTrl cWgt cRch cByt cWds cFst cSnd cSgn : Nat → Int32) (p0 : Int32) (rv : Int32) (zcBad : Int32) (zcRch : Nat → Int32) (hf : fX8_more cBad cCnt cOpn cGps cRch p0 = some (rv, zcBad, zcRch)) : Met l yX8_more wsX8_more (rmN 4 94) (PR D (tyL cI cB cZ) (wC cI cB cZ ad cBad cFul cCnt cOpc cStp cTsz cRcn cPlc cFlt cVil cLsz cRts cLns cOpn cGps cTrl cWgt cRch cByt cWds cFst cSnd cSgn) [.ref (ad 0), .int p0]) (QI D (wC cI cB cZ ad zcBad cFul cCnt cOpc cStp cTsz cRcn cPlc cFlt cVil cLsz cRts cLns cOpn cGps cTrl cWgt zcRch cByt cWds cFst cSnd cSgn) A rv) 0 0 A := by
  refine mk_met cX8_more 2 (some .int) (by decide) rfl (Nat.le_of_ble_eq_true rfl) ?_
  intro p e s m args below meth c ls hx hb hr hlk hml hown hts hPK hl
  obtain ⟨hP, hK⟩ := hPK
  replace hl : lv_has ls 2 [(0, .ref (ad 0)), (1, .int p0)] := hl
  replace hown : s.vm.findClass RX8 = some m.cls := hown
  have hiX8 : ∀ w ∈ wsX80, w ∈ wsX8_more := fun w h => List.mem_cons_of_mem _ (List.mem_append_left _ (List.mem_append_left _ (List.mem_append_right _ h)))
  have hS : va_S A s.heap s.heap [] := va_S.rf
  unfold fX8_more at hf
  refine lv_iload_n hx hb dX8_more_0 rfl (lv_at hl 1 rfl) ?_
  refine lv_iconst (v := (1 : Int32)) hx hb dX8_more_1 (by decide) ?_
  obtain ⟨r_1, hq, hf⟩ := ob hf
  try dsimp only at hf
  refine rcS (As := [.int p0, .int (1 : Int32)]) (rest := []) ⟨hx, hb, hml, hown, hts⟩ (ctX8_isUpTo l p0 (1 : Int32) r_1 hq) (va_cwS 2 hts gX8_more_X8_isUpTo rfl rfl rfl (by decide +kernel) ⟨Nat.le_of_ble_eq_true rfl, Nat.le_of_ble_eq_true rfl⟩) rfl hl.1 rfl (Nat.le_of_ble_eq_true rfl) dX8_more_2 ⟨Nat.zero_le _, Nat.zero_le _⟩ ?_
  refine lv_if_ne (tgt := 13) hx hb dX8_more_5 (by decide) (fun hc => ?_) (fun hc => ?_)
  · replace hf := (if_neg hc).symm.trans hf
    refine lv_aload_n hx hb dX8_more_13 rfl (lv_at hl 0 rfl) ?_
    refine va_get (ci := 7) (v := .ref (ad 9)) (C := RX8) (T := TX8) (N := 9) hx hb hts hiX8 hown hK hP 0 rfl rfl 2 (by decide) (hts _ (List.mem_of_getElem? (i := 1) rfl)) (fun _ h9 => h9) rfl dX8_more_14 ?_
    refine lv_iload_n hx hb dX8_more_17 rfl (lv_at hl 1 rfl) ?_
    obtain ⟨⟨r_2, qcRch_3⟩, hq, hf⟩ := ob hf
    try dsimp only at hf
    refine mcVi 9 0 (As := [.int p0]) (rest := []) ⟨hx, hb, hml, hown, hts⟩ (ctX0_bestNew l D cI cB cZ ad A hAD cBad cFul cCnt cOpc cStp cTsz cRcn cPlc cFlt cVil cLsz cRts cLns cOpn cGps cTrl cWgt cRch cByt cWds cFst cSnd cSgn p0 r_2 qcRch_3 hq) (cwV 1 hts gX8_more_X0_bestNew rfl rfl rfl (by decide +kernel) ⟨Nat.le_of_ble_eq_true rfl, Nat.le_of_ble_eq_true rfl⟩) hK hP hS rfl rfl rfl hl.1 rfl (Nat.le_of_ble_eq_true rfl) dX8_more_18 ⟨Nat.zero_le _, Nat.zero_le _⟩ (fun H locs hP hS => ?_)
    obtain ⟨e0, hz1⟩ := Prod.mk.inj (Option.some.inj hf)
    obtain ⟨e1, hz2⟩ := Prod.mk.inj hz1
    subst e0
    subst e1
    subst hz2
    exact rm_i hx hb hr hlk hP hS dX8_more_21
  · replace hf := (if_pos hc).symm.trans hf
    refine lv_aload_n hx hb dX8_more_8 rfl (lv_at hl 0 rfl) ?_
    obtain ⟨⟨r_4, qcBad_5⟩, hq, hf⟩ := ob hf
    try dsimp only at hf
    refine mcVi 0 7 (As := []) (rest := []) ⟨hx, hb, hml, hown, hts⟩ (ctX8_refuseBad l D cI cB cZ ad A hAD cBad cFul cCnt cOpc cStp cTsz cRcn cPlc cFlt cVil cLsz cRts cLns cOpn cGps cTrl cWgt cRch cByt cWds cFst cSnd cSgn  r_4 qcBad_5 hq) (cwV 0 hts gX8_more_X8_refuseBad rfl rfl rfl (by decide +kernel) ⟨Nat.le_of_ble_eq_true rfl, Nat.le_of_ble_eq_true rfl⟩) hK hP hS rfl rfl rfl hl.1 rfl (Nat.le_of_ble_eq_true rfl) dX8_more_9 ⟨Nat.zero_le _, Nat.zero_le _⟩ (fun H locs hP hS => ?_)
    obtain ⟨e0, hz1⟩ := Prod.mk.inj (Option.some.inj hf)
    obtain ⟨e1, hz2⟩ := Prod.mk.inj hz1
    subst e0
    subst e1
    subst hz2
    exact rm_i hx hb hr hlk hP hS dX8_more_12

def fX8_serves (cBad : Int32) (cCnt : Int32) (cOpn : Nat → Int32) (cGps : Nat → Int32) (p0 : Int32) : Option (Int32 × Int32) :=
  ((fX1_has cCnt p0).bind fun r_1 => (if r_1 = 0 then ((fX8_refuseBad cBad).bind fun (r_3, qcBad_4) => (some (r_3, qcBad_4))) else ((fX0_countServed cCnt cOpn cGps p0).bind fun r_2 => (some (r_2, cBad)))))
set_option maxRecDepth 100000 in
set_option maxHeartbeats 4000000 in
theorem ctX8_serves (l : Launch) (D : va_G) (cI cB cZ : ClassId) (ad : Nat → Nat) (A : Nat → Prop) (hAD : AD A ad 20) (cBad cFul cCnt cOpc cStp cTsz cRcn cPlc cFlt cVil cLsz : Int32) (cRts cLns cOpn cGps cTrl cWgt cRch cByt cWds cFst cSnd cSgn : Nat → Int32) (p0 : Int32) (rv : Int32) (zcBad : Int32) (hf : fX8_serves cBad cCnt cOpn cGps p0 = some (rv, zcBad)) : Met l yX8_serves wsX8_serves (rmN 3 72) (PR D (tyL cI cB cZ) (wC cI cB cZ ad cBad cFul cCnt cOpc cStp cTsz cRcn cPlc cFlt cVil cLsz cRts cLns cOpn cGps cTrl cWgt cRch cByt cWds cFst cSnd cSgn) [.ref (ad 0), .int p0]) (QI D (wC cI cB cZ ad zcBad cFul cCnt cOpc cStp cTsz cRcn cPlc cFlt cVil cLsz cRts cLns cOpn cGps cTrl cWgt cRch cByt cWds cFst cSnd cSgn) A rv) 0 0 A := by
  refine mk_met cX8_serves 2 (some .int) (by decide) rfl (Nat.le_of_ble_eq_true rfl) ?_
  intro p e s m args below meth c ls hx hb hr hlk hml hown hts hPK hl
  obtain ⟨hP, hK⟩ := hPK
  replace hl : lv_has ls 2 [(0, .ref (ad 0)), (1, .int p0)] := hl
  replace hown : s.vm.findClass RX8 = some m.cls := hown
  have hiX8 : ∀ w ∈ wsX80, w ∈ wsX8_serves := fun w h => List.mem_cons_of_mem _ (List.mem_append_left _ (List.mem_append_left _ (List.mem_append_right _ h)))
  have hS : va_S A s.heap s.heap [] := va_S.rf
  unfold fX8_serves at hf
  refine lv_aload_n hx hb dX8_serves_0 rfl (lv_at hl 0 rfl) ?_
  refine va_get (ci := 7) (v := .ref (ad 1)) (C := RX8) (T := TX8) (N := 9) hx hb hts hiX8 hown hK hP 0 rfl rfl 0 (by decide) (hts _ (List.mem_of_getElem? (i := 1) rfl)) (fun _ h9 => h9) rfl dX8_serves_1 ?_
  refine lv_iload_n hx hb dX8_serves_4 rfl (lv_at hl 1 rfl) ?_
  obtain ⟨r_1, hq, hf⟩ := ob hf
  try dsimp only at hf
  refine rcV 1 1 (As := [.int p0]) (rest := []) ⟨hx, hb, hml, hown, hts⟩ (ctX1_has l D cI cB cZ ad cBad cFul cCnt cOpc cStp cTsz cRcn cPlc cFlt cVil cLsz cRts cLns cOpn cGps cTrl cWgt cRch cByt cWds cFst cSnd cSgn p0 r_1 hq) (cwV 1 hts gX8_serves_X1_has rfl rfl rfl (by decide +kernel) ⟨Nat.le_of_ble_eq_true rfl, Nat.le_of_ble_eq_true rfl⟩) hK hP rfl rfl rfl hl.1 rfl (Nat.le_of_ble_eq_true rfl) dX8_serves_5 ⟨Nat.zero_le _, Nat.zero_le _⟩ ?_
  refine lv_if_ne (tgt := 16) hx hb dX8_serves_8 (by decide) (fun hc => ?_) (fun hc => ?_)
  · replace hf := (if_neg hc).symm.trans hf
    refine lv_aload_n hx hb dX8_serves_16 rfl (lv_at hl 0 rfl) ?_
    refine va_get (ci := 7) (v := .ref (ad 9)) (C := RX8) (T := TX8) (N := 9) hx hb hts hiX8 hown hK hP 0 rfl rfl 2 (by decide) (hts _ (List.mem_of_getElem? (i := 2) rfl)) (fun _ h9 => h9) rfl dX8_serves_17 ?_
    refine lv_iload_n hx hb dX8_serves_20 rfl (lv_at hl 1 rfl) ?_
    obtain ⟨r_2, hq, hf⟩ := ob hf
    try dsimp only at hf
    refine rcV 9 0 (As := [.int p0]) (rest := []) ⟨hx, hb, hml, hown, hts⟩ (ctX0_countServed l D cI cB cZ ad cBad cFul cCnt cOpc cStp cTsz cRcn cPlc cFlt cVil cLsz cRts cLns cOpn cGps cTrl cWgt cRch cByt cWds cFst cSnd cSgn p0 r_2 hq) (cwV 1 hts gX8_serves_X0_countServed rfl rfl rfl (by decide +kernel) ⟨Nat.le_of_ble_eq_true rfl, Nat.le_of_ble_eq_true rfl⟩) hK hP rfl rfl rfl hl.1 rfl (Nat.le_of_ble_eq_true rfl) dX8_serves_21 ⟨Nat.zero_le _, Nat.zero_le _⟩ ?_
    obtain ⟨e0, hz1⟩ := Prod.mk.inj (Option.some.inj hf)
    subst e0
    subst hz1
    exact rm_i hx hb hr hlk hP hS dX8_serves_24
  · replace hf := (if_pos hc).symm.trans hf
    refine lv_aload_n hx hb dX8_serves_11 rfl (lv_at hl 0 rfl) ?_
    obtain ⟨⟨r_3, qcBad_4⟩, hq, hf⟩ := ob hf
    try dsimp only at hf
    refine mcVi 0 7 (As := []) (rest := []) ⟨hx, hb, hml, hown, hts⟩ (ctX8_refuseBad l D cI cB cZ ad A hAD cBad cFul cCnt cOpc cStp cTsz cRcn cPlc cFlt cVil cLsz cRts cLns cOpn cGps cTrl cWgt cRch cByt cWds cFst cSnd cSgn  r_3 qcBad_4 hq) (cwV 0 hts gX8_serves_X8_refuseBad rfl rfl rfl (by decide +kernel) ⟨Nat.le_of_ble_eq_true rfl, Nat.le_of_ble_eq_true rfl⟩) hK hP hS rfl rfl rfl hl.1 rfl (Nat.le_of_ble_eq_true rfl) dX8_serves_12 ⟨Nat.zero_le _, Nat.zero_le _⟩ (fun H locs hP hS => ?_)
    obtain ⟨e0, hz1⟩ := Prod.mk.inj (Option.some.inj hf)
    subst e0
    subst hz1
    exact rm_i hx hb hr hlk hP hS dX8_serves_15

def fX8_pair (cBad : Int32) (cCnt : Int32) (cOpn : Nat → Int32) (cGps : Nat → Int32) (p0 : Int32) : Option (Int32 × Int32) :=
  ((fX8_isUpTo p0 (2 : Int32)).bind fun r_1 => (if r_1 = 0 then ((fX8_refuseBad cBad).bind fun (r_3, qcBad_4) => (some (r_3, qcBad_4))) else ((fX0_closestTwo cCnt cOpn cGps p0).bind fun r_2 => (some (r_2, cBad)))))
set_option maxRecDepth 100000 in
set_option maxHeartbeats 4000000 in
theorem ctX8_pair (l : Launch) (D : va_G) (cI cB cZ : ClassId) (ad : Nat → Nat) (A : Nat → Prop) (hAD : AD A ad 20) (cBad cFul cCnt cOpc cStp cTsz cRcn cPlc cFlt cVil cLsz : Int32) (cRts cLns cOpn cGps cTrl cWgt cRch cByt cWds cFst cSnd cSgn : Nat → Int32) (p0 : Int32) (rv : Int32) (zcBad : Int32) (hf : fX8_pair cBad cCnt cOpn cGps p0 = some (rv, zcBad)) : Met l yX8_pair wsX8_pair (rmN 2 49) (PR D (tyL cI cB cZ) (wC cI cB cZ ad cBad cFul cCnt cOpc cStp cTsz cRcn cPlc cFlt cVil cLsz cRts cLns cOpn cGps cTrl cWgt cRch cByt cWds cFst cSnd cSgn) [.ref (ad 0), .int p0]) (QI D (wC cI cB cZ ad zcBad cFul cCnt cOpc cStp cTsz cRcn cPlc cFlt cVil cLsz cRts cLns cOpn cGps cTrl cWgt cRch cByt cWds cFst cSnd cSgn) A rv) 0 0 A := by
  refine mk_met cX8_pair 2 (some .int) (by decide) rfl (Nat.le_of_ble_eq_true rfl) ?_
  intro p e s m args below meth c ls hx hb hr hlk hml hown hts hPK hl
  obtain ⟨hP, hK⟩ := hPK
  replace hl : lv_has ls 2 [(0, .ref (ad 0)), (1, .int p0)] := hl
  replace hown : s.vm.findClass RX8 = some m.cls := hown
  have hiX8 : ∀ w ∈ wsX80, w ∈ wsX8_pair := fun w h => List.mem_cons_of_mem _ (List.mem_append_left _ (List.mem_append_left _ (List.mem_append_right _ h)))
  have hS : va_S A s.heap s.heap [] := va_S.rf
  unfold fX8_pair at hf
  refine lv_iload_n hx hb dX8_pair_0 rfl (lv_at hl 1 rfl) ?_
  refine lv_iconst (v := (2 : Int32)) hx hb dX8_pair_1 (by decide) ?_
  obtain ⟨r_1, hq, hf⟩ := ob hf
  try dsimp only at hf
  refine rcS (As := [.int p0, .int (2 : Int32)]) (rest := []) ⟨hx, hb, hml, hown, hts⟩ (ctX8_isUpTo l p0 (2 : Int32) r_1 hq) (va_cwS 2 hts gX8_pair_X8_isUpTo rfl rfl rfl (by decide +kernel) ⟨Nat.le_of_ble_eq_true rfl, Nat.le_of_ble_eq_true rfl⟩) rfl hl.1 rfl (Nat.le_of_ble_eq_true rfl) dX8_pair_2 ⟨Nat.zero_le _, Nat.zero_le _⟩ ?_
  refine lv_if_ne (tgt := 13) hx hb dX8_pair_5 (by decide) (fun hc => ?_) (fun hc => ?_)
  · replace hf := (if_neg hc).symm.trans hf
    refine lv_aload_n hx hb dX8_pair_13 rfl (lv_at hl 0 rfl) ?_
    refine va_get (ci := 7) (v := .ref (ad 9)) (C := RX8) (T := TX8) (N := 9) hx hb hts hiX8 hown hK hP 0 rfl rfl 2 (by decide) (hts _ (List.mem_of_getElem? (i := 1) rfl)) (fun _ h9 => h9) rfl dX8_pair_14 ?_
    refine lv_iload_n hx hb dX8_pair_17 rfl (lv_at hl 1 rfl) ?_
    obtain ⟨r_2, hq, hf⟩ := ob hf
    try dsimp only at hf
    refine rcV 9 0 (As := [.int p0]) (rest := []) ⟨hx, hb, hml, hown, hts⟩ (ctX0_closestTwo l D cI cB cZ ad cBad cFul cCnt cOpc cStp cTsz cRcn cPlc cFlt cVil cLsz cRts cLns cOpn cGps cTrl cWgt cRch cByt cWds cFst cSnd cSgn p0 r_2 hq) (cwV 1 hts gX8_pair_X0_closestTwo rfl rfl rfl (by decide +kernel) ⟨Nat.le_of_ble_eq_true rfl, Nat.le_of_ble_eq_true rfl⟩) hK hP rfl rfl rfl hl.1 rfl (Nat.le_of_ble_eq_true rfl) dX8_pair_18 ⟨Nat.zero_le _, Nat.zero_le _⟩ ?_
    obtain ⟨e0, hz1⟩ := Prod.mk.inj (Option.some.inj hf)
    subst e0
    subst hz1
    exact rm_i hx hb hr hlk hP hS dX8_pair_21
  · replace hf := (if_pos hc).symm.trans hf
    refine lv_aload_n hx hb dX8_pair_8 rfl (lv_at hl 0 rfl) ?_
    obtain ⟨⟨r_3, qcBad_4⟩, hq, hf⟩ := ob hf
    try dsimp only at hf
    refine mcVi 0 7 (As := []) (rest := []) ⟨hx, hb, hml, hown, hts⟩ (ctX8_refuseBad l D cI cB cZ ad A hAD cBad cFul cCnt cOpc cStp cTsz cRcn cPlc cFlt cVil cLsz cRts cLns cOpn cGps cTrl cWgt cRch cByt cWds cFst cSnd cSgn  r_3 qcBad_4 hq) (cwV 0 hts gX8_pair_X8_refuseBad rfl rfl rfl (by decide +kernel) ⟨Nat.le_of_ble_eq_true rfl, Nat.le_of_ble_eq_true rfl⟩) hK hP hS rfl rfl rfl hl.1 rfl (Nat.le_of_ble_eq_true rfl) dX8_pair_9 ⟨Nat.zero_le _, Nat.zero_le _⟩ (fun H locs hP hS => ?_)
    obtain ⟨e0, hz1⟩ := Prod.mk.inj (Option.some.inj hf)
    subst e0
    subst hz1
    exact rm_i hx hb hr hlk hP hS dX8_pair_12

def fX8_type (cBad : Int32) (cFul : Int32) (cTsz : Int32) (cByt : Nat → Int32) (p0 : Int32) : Option (Int32 × Int32 × Int32 × Int32 × (Nat → Int32)) :=
  ((fX8_isUpTo p0 (127 : Int32)).bind fun r_1 => (if r_1 = 0 then ((fX8_refuseBad cBad).bind fun (r_7, qcBad_8) => (some (r_7, qcBad_8, cFul, cTsz, cByt))) else (if cTsz < (120 : Int32) then ((fX5_put cTsz cByt p0).bind fun (r_2, qcTsz_3, qcByt_4) => (some (r_2, cBad, cFul, qcTsz_3, qcByt_4))) else ((fX8_refuseFull cFul).bind fun (r_5, qcFul_6) => (some (r_5, cBad, qcFul_6, cTsz, cByt))))))
set_option maxRecDepth 100000 in
set_option maxHeartbeats 4000000 in
theorem ctX8_type (l : Launch) (D : va_G) (cI cB cZ : ClassId) (ad : Nat → Nat) (A : Nat → Prop) (hAD : AD A ad 20) (cBad cFul cCnt cOpc cStp cTsz cRcn cPlc cFlt cVil cLsz : Int32) (cRts cLns cOpn cGps cTrl cWgt cRch cByt cWds cFst cSnd cSgn : Nat → Int32) (p0 : Int32) (rv : Int32) (zcBad : Int32) (zcFul : Int32) (zcTsz : Int32) (zcByt : Nat → Int32) (hf : fX8_type cBad cFul cTsz cByt p0 = some (rv, zcBad, zcFul, zcTsz, zcByt)) : Met l yX8_type wsX8_type (rmN 1 21) (PR D (tyL cI cB cZ) (wC cI cB cZ ad cBad cFul cCnt cOpc cStp cTsz cRcn cPlc cFlt cVil cLsz cRts cLns cOpn cGps cTrl cWgt cRch cByt cWds cFst cSnd cSgn) [.ref (ad 0), .int p0]) (QI D (wC cI cB cZ ad zcBad zcFul cCnt cOpc cStp zcTsz cRcn cPlc cFlt cVil cLsz cRts cLns cOpn cGps cTrl cWgt cRch zcByt cWds cFst cSnd cSgn) A rv) 0 0 A := by
  refine mk_met cX8_type 2 (some .int) (by decide) rfl (Nat.le_of_ble_eq_true rfl) ?_
  intro p e s m args below meth c ls hx hb hr hlk hml hown hts hPK hl
  obtain ⟨hP, hK⟩ := hPK
  replace hl : lv_has ls 2 [(0, .ref (ad 0)), (1, .int p0)] := hl
  replace hown : s.vm.findClass RX8 = some m.cls := hown
  have hiX5 : ∀ w ∈ wsX50, w ∈ wsX8_type := fun w h => List.mem_cons_of_mem _ (List.mem_append_right _ h)
  have hiX8 : ∀ w ∈ wsX80, w ∈ wsX8_type := fun w h => List.mem_cons_of_mem _ (List.mem_append_left _ (List.mem_append_right _ h))
  have hS : va_S A s.heap s.heap [] := va_S.rf
  unfold fX8_type at hf
  refine lv_iload_n hx hb dX8_type_0 rfl (lv_at hl 1 rfl) ?_
  refine lv_bipush (v := (127 : Int32)) hx hb dX8_type_1 (by decide) ?_
  obtain ⟨r_1, hq, hf⟩ := ob hf
  try dsimp only at hf
  refine rcS (As := [.int p0, .int (127 : Int32)]) (rest := []) ⟨hx, hb, hml, hown, hts⟩ (ctX8_isUpTo l p0 (127 : Int32) r_1 hq) (va_cwS 2 hts gX8_type_X8_isUpTo rfl rfl rfl (by decide +kernel) ⟨Nat.le_of_ble_eq_true rfl, Nat.le_of_ble_eq_true rfl⟩) rfl hl.1 rfl (Nat.le_of_ble_eq_true rfl) dX8_type_3 ⟨Nat.zero_le _, Nat.zero_le _⟩ ?_
  refine lv_if_ne (tgt := 14) hx hb dX8_type_6 (by decide) (fun hc => ?_) (fun hc => ?_)
  · replace hf := (if_neg hc).symm.trans hf
    refine lv_aload_n hx hb dX8_type_14 rfl (lv_at hl 0 rfl) ?_
    refine va_get (ci := 7) (v := .ref (ad 11)) (C := RX8) (T := TX8) (N := 9) hx hb hts hiX8 hown hK hP 0 rfl rfl 3 (by decide) (hts _ (List.mem_of_getElem? (i := 1) rfl)) (fun _ h9 => h9) rfl dX8_type_15 ?_
    refine va_get (ci := 5) (v := .int cTsz) (C := RX5) (T := TX5) (N := 2) hx hb hts hiX5 hown hK hP 11 rfl rfl 1 (by decide) (hts _ (List.mem_of_getElem? (i := 2) rfl)) (fun _ h9 => h9) rfl dX8_type_18 ?_
    refine lv_bipush (v := (120 : Int32)) hx hb dX8_type_21 (by decide) ?_
    refine lv_icmp_lt (tgt := 31) hx hb dX8_type_23 (by decide) (fun hc => ?_) (fun hc => ?_)
    · replace hf := (if_pos hc).symm.trans hf
      refine lv_aload_n hx hb dX8_type_31 rfl (lv_at hl 0 rfl) ?_
      refine va_get (ci := 7) (v := .ref (ad 11)) (C := RX8) (T := TX8) (N := 9) hx hb hts hiX8 hown hK hP 0 rfl rfl 3 (by decide) (hts _ (List.mem_of_getElem? (i := 1) rfl)) (fun _ h9 => h9) rfl dX8_type_32 ?_
      refine lv_iload_n hx hb dX8_type_35 rfl (lv_at hl 1 rfl) ?_
      obtain ⟨⟨r_2, qcTsz_3, qcByt_4⟩, hq, hf⟩ := ob hf
      try dsimp only at hf
      refine mcVi 11 5 (As := [.int p0]) (rest := []) ⟨hx, hb, hml, hown, hts⟩ (ctX5_put l D cI cB cZ ad A hAD cBad cFul cCnt cOpc cStp cTsz cRcn cPlc cFlt cVil cLsz cRts cLns cOpn cGps cTrl cWgt cRch cByt cWds cFst cSnd cSgn p0 r_2 qcTsz_3 qcByt_4 hq) (cwV 1 hts gX8_type_X5_put rfl rfl rfl (by decide +kernel) ⟨Nat.le_of_ble_eq_true rfl, Nat.le_of_ble_eq_true rfl⟩) hK hP hS rfl rfl rfl hl.1 rfl (Nat.le_of_ble_eq_true rfl) dX8_type_36 ⟨Nat.zero_le _, Nat.zero_le _⟩ (fun H locs hP hS => ?_)
      obtain ⟨e0, hz1⟩ := Prod.mk.inj (Option.some.inj hf)
      obtain ⟨e1, hz2⟩ := Prod.mk.inj hz1
      obtain ⟨e2, hz3⟩ := Prod.mk.inj hz2
      obtain ⟨e3, hz4⟩ := Prod.mk.inj hz3
      subst e0
      subst e1
      subst e2
      subst e3
      subst hz4
      exact rm_i hx hb hr hlk hP hS dX8_type_39
    · replace hf := (if_neg hc).symm.trans hf
      refine lv_aload_n hx hb dX8_type_26 rfl (lv_at hl 0 rfl) ?_
      obtain ⟨⟨r_5, qcFul_6⟩, hq, hf⟩ := ob hf
      try dsimp only at hf
      refine mcVi 0 7 (As := []) (rest := []) ⟨hx, hb, hml, hown, hts⟩ (ctX8_refuseFull l D cI cB cZ ad A hAD cBad cFul cCnt cOpc cStp cTsz cRcn cPlc cFlt cVil cLsz cRts cLns cOpn cGps cTrl cWgt cRch cByt cWds cFst cSnd cSgn  r_5 qcFul_6 hq) (cwV 0 hts gX8_type_X8_refuseFull rfl rfl rfl (by decide +kernel) ⟨Nat.le_of_ble_eq_true rfl, Nat.le_of_ble_eq_true rfl⟩) hK hP hS rfl rfl rfl hl.1 rfl (Nat.le_of_ble_eq_true rfl) dX8_type_27 ⟨Nat.zero_le _, Nat.zero_le _⟩ (fun H locs hP hS => ?_)
      obtain ⟨e0, hz1⟩ := Prod.mk.inj (Option.some.inj hf)
      obtain ⟨e1, hz2⟩ := Prod.mk.inj hz1
      obtain ⟨e2, hz3⟩ := Prod.mk.inj hz2
      obtain ⟨e3, hz4⟩ := Prod.mk.inj hz3
      subst e0
      subst e1
      subst e2
      subst e3
      subst hz4
      exact rm_i hx hb hr hlk hP hS dX8_type_30
  · replace hf := (if_pos hc).symm.trans hf
    refine lv_aload_n hx hb dX8_type_9 rfl (lv_at hl 0 rfl) ?_
    obtain ⟨⟨r_7, qcBad_8⟩, hq, hf⟩ := ob hf
    try dsimp only at hf
    refine mcVi 0 7 (As := []) (rest := []) ⟨hx, hb, hml, hown, hts⟩ (ctX8_refuseBad l D cI cB cZ ad A hAD cBad cFul cCnt cOpc cStp cTsz cRcn cPlc cFlt cVil cLsz cRts cLns cOpn cGps cTrl cWgt cRch cByt cWds cFst cSnd cSgn  r_7 qcBad_8 hq) (cwV 0 hts gX8_type_X8_refuseBad rfl rfl rfl (by decide +kernel) ⟨Nat.le_of_ble_eq_true rfl, Nat.le_of_ble_eq_true rfl⟩) hK hP hS rfl rfl rfl hl.1 rfl (Nat.le_of_ble_eq_true rfl) dX8_type_10 ⟨Nat.zero_le _, Nat.zero_le _⟩ (fun H locs hP hS => ?_)
    obtain ⟨e0, hz1⟩ := Prod.mk.inj (Option.some.inj hf)
    obtain ⟨e1, hz2⟩ := Prod.mk.inj hz1
    obtain ⟨e2, hz3⟩ := Prod.mk.inj hz2
    obtain ⟨e3, hz4⟩ := Prod.mk.inj hz3
    subst e0
    subst e1
    subst e2
    subst e3
    subst hz4
    exact rm_i hx hb hr hlk hP hS dX8_type_13

def fX8_clear (cTsz : Int32)  : Option (Int32 × Int32) :=
  ((fX5_empty cTsz).bind fun (r_1, qcTsz_2) => (some (r_1, qcTsz_2)))
set_option maxRecDepth 100000 in
set_option maxHeartbeats 4000000 in
theorem ctX8_clear (l : Launch) (D : va_G) (cI cB cZ : ClassId) (ad : Nat → Nat) (A : Nat → Prop) (hAD : AD A ad 20) (cBad cFul cCnt cOpc cStp cTsz cRcn cPlc cFlt cVil cLsz : Int32) (cRts cLns cOpn cGps cTrl cWgt cRch cByt cWds cFst cSnd cSgn : Nat → Int32)  (rv : Int32) (zcTsz : Int32) (hf : fX8_clear cTsz = some (rv, zcTsz)) : Met l yX8_clear wsX8_clear (rmN 1 21) (PR D (tyL cI cB cZ) (wC cI cB cZ ad cBad cFul cCnt cOpc cStp cTsz cRcn cPlc cFlt cVil cLsz cRts cLns cOpn cGps cTrl cWgt cRch cByt cWds cFst cSnd cSgn) [.ref (ad 0)]) (QI D (wC cI cB cZ ad cBad cFul cCnt cOpc cStp zcTsz cRcn cPlc cFlt cVil cLsz cRts cLns cOpn cGps cTrl cWgt cRch cByt cWds cFst cSnd cSgn) A rv) 0 0 A := by
  refine mk_met cX8_clear 1 (some .int) (by decide) rfl (Nat.le_of_ble_eq_true rfl) ?_
  intro p e s m args below meth c ls hx hb hr hlk hml hown hts hPK hl
  obtain ⟨hP, hK⟩ := hPK
  replace hl : lv_has ls 1 [(0, .ref (ad 0))] := hl
  replace hown : s.vm.findClass RX8 = some m.cls := hown
  have hiX8 : ∀ w ∈ wsX80, w ∈ wsX8_clear := fun w h => List.mem_cons_of_mem _ (List.mem_append_left _ (List.mem_append_right _ h))
  have hS : va_S A s.heap s.heap [] := va_S.rf
  unfold fX8_clear at hf
  refine lv_aload_n hx hb dX8_clear_0 rfl (lv_at hl 0 rfl) ?_
  refine va_get (ci := 7) (v := .ref (ad 11)) (C := RX8) (T := TX8) (N := 9) hx hb hts hiX8 hown hK hP 0 rfl rfl 3 (by decide) (hts _ (List.mem_of_getElem? (i := 1) rfl)) (fun _ h9 => h9) rfl dX8_clear_1 ?_
  obtain ⟨⟨r_1, qcTsz_2⟩, hq, hf⟩ := ob hf
  try dsimp only at hf
  refine mcVi 11 5 (As := []) (rest := []) ⟨hx, hb, hml, hown, hts⟩ (ctX5_empty l D cI cB cZ ad A hAD cBad cFul cCnt cOpc cStp cTsz cRcn cPlc cFlt cVil cLsz cRts cLns cOpn cGps cTrl cWgt cRch cByt cWds cFst cSnd cSgn  r_1 qcTsz_2 hq) (cwV 0 hts gX8_clear_X5_empty rfl rfl rfl (by decide +kernel) ⟨Nat.le_of_ble_eq_true rfl, Nat.le_of_ble_eq_true rfl⟩) hK hP hS rfl rfl rfl hl.1 rfl (Nat.le_of_ble_eq_true rfl) dX8_clear_4 ⟨Nat.zero_le _, Nat.zero_le _⟩ (fun H locs hP hS => ?_)
  obtain ⟨e0, hz1⟩ := Prod.mk.inj (Option.some.inj hf)
  subst e0
  subst hz1
  exact rm_i hx hb hr hlk hP hS dX8_clear_7

def fX8_answer (cBad : Int32) (cLsz : Int32) (cSgn : Nat → Int32) (p0 : Int32) : Option (Int32 × Int32) :=
  (if (-1 : Int32) ≤ p0 then (if p0 = (-1 : Int32) then (some (cLsz, cBad)) else (if cLsz ≤ p0 then (some ((-5 : Int32), cBad)) else (if gI p0 400 then (some ((cSgn (p0).toNatClampNeg), cBad)) else none))) else ((fX8_refuseBadPlace cBad).bind fun (r_1, qcBad_2) => (some (r_1, qcBad_2))))
set_option maxRecDepth 100000 in
set_option maxHeartbeats 4000000 in
theorem ctX8_answer (l : Launch) (D : va_G) (cI cB cZ : ClassId) (ad : Nat → Nat) (A : Nat → Prop) (hAD : AD A ad 20) (cBad cFul cCnt cOpc cStp cTsz cRcn cPlc cFlt cVil cLsz : Int32) (cRts cLns cOpn cGps cTrl cWgt cRch cByt cWds cFst cSnd cSgn : Nat → Int32) (p0 : Int32) (rv : Int32) (zcBad : Int32) (hf : fX8_answer cBad cLsz cSgn p0 = some (rv, zcBad)) : Met l yX8_answer wsX8_answer (rmN 1 20) (PR D (tyL cI cB cZ) (wC cI cB cZ ad cBad cFul cCnt cOpc cStp cTsz cRcn cPlc cFlt cVil cLsz cRts cLns cOpn cGps cTrl cWgt cRch cByt cWds cFst cSnd cSgn) [.ref (ad 0), .int p0]) (QI D (wC cI cB cZ ad zcBad cFul cCnt cOpc cStp cTsz cRcn cPlc cFlt cVil cLsz cRts cLns cOpn cGps cTrl cWgt cRch cByt cWds cFst cSnd cSgn) A rv) 0 0 A := by
  refine mk_met cX8_answer 2 (some .int) (by decide) rfl (Nat.le_of_ble_eq_true rfl) ?_
  intro p e s m args below meth c ls hx hb hr hlk hml hown hts hPK hl
  obtain ⟨hP, hK⟩ := hPK
  replace hl : lv_has ls 2 [(0, .ref (ad 0)), (1, .int p0)] := hl
  replace hown : s.vm.findClass RX8 = some m.cls := hown
  have hiX2 : ∀ w ∈ wsX20, w ∈ wsX8_answer := fun w h => List.mem_cons_of_mem _ (List.mem_append_right _ h)
  have hiX8 : ∀ w ∈ wsX80, w ∈ wsX8_answer := fun w h => List.mem_cons_of_mem _ (List.mem_append_left _ (List.mem_append_right _ h))
  have hS : va_S A s.heap s.heap [] := va_S.rf
  unfold fX8_answer at hf
  refine lv_iload_n hx hb dX8_answer_0 rfl (lv_at hl 1 rfl) ?_
  refine lv_iconst (v := (-1 : Int32)) hx hb dX8_answer_1 (by decide) ?_
  refine lv_icmp_ge (tgt := 10) hx hb dX8_answer_2 (by decide) (fun hc => ?_) (fun hc => ?_)
  · replace hf := (if_pos hc).symm.trans hf
    refine lv_iload_n hx hb dX8_answer_10 rfl (lv_at hl 1 rfl) ?_
    refine lv_iconst (v := (-1 : Int32)) hx hb dX8_answer_11 (by decide) ?_
    refine lv_icmp_ne (tgt := 23) hx hb dX8_answer_12 (by decide) (fun hc => ?_) (fun hc => ?_)
    · replace hf := (if_neg hc).symm.trans hf
      refine lv_iload_n hx hb dX8_answer_23 rfl (lv_at hl 1 rfl) ?_
      refine lv_aload_n hx hb dX8_answer_24 rfl (lv_at hl 0 rfl) ?_
      refine va_get (ci := 7) (v := .ref (ad 17)) (C := RX8) (T := TX8) (N := 9) hx hb hts hiX8 hown hK hP 0 rfl rfl 5 (by decide) (hts _ (List.mem_of_getElem? (i := 1) rfl)) (fun _ h9 => h9) rfl dX8_answer_25 ?_
      refine va_get (ci := 2) (v := .int cLsz) (C := RX2) (T := TX2) (N := 2) hx hb hts hiX2 hown hK hP 17 rfl rfl 1 (by decide) (hts _ (List.mem_of_getElem? (i := 2) rfl)) (fun _ h9 => h9) rfl dX8_answer_28 ?_
      refine lv_icmp_ge (tgt := 46) hx hb dX8_answer_31 (by decide) (fun hc => ?_) (fun hc => ?_)
      · replace hf := (if_pos hc).symm.trans hf
        refine lv_bipush (v := (-5 : Int32)) hx hb dX8_answer_46 (by decide) ?_
        obtain ⟨e0, hz1⟩ := Prod.mk.inj (Option.some.inj hf)
        subst e0
        subst hz1
        exact rm_i hx hb hr hlk hP hS dX8_answer_48
      · replace hf := (if_neg hc).symm.trans hf
        refine lv_aload_n hx hb dX8_answer_34 rfl (lv_at hl 0 rfl) ?_
        refine va_get (ci := 7) (v := .ref (ad 17)) (C := RX8) (T := TX8) (N := 9) hx hb hts hiX8 hown hK hP 0 rfl rfl 5 (by decide) (hts _ (List.mem_of_getElem? (i := 1) rfl)) (fun _ h9 => h9) rfl dX8_answer_35 ?_
        refine va_get (ci := 2) (v := .ref (ad 18)) (C := RX2) (T := TX2) (N := 2) hx hb hts hiX2 hown hK hP 17 rfl rfl 0 (by decide) (hts _ (List.mem_of_getElem? (i := 3) rfl)) (fun _ h9 => h9) rfl dX8_answer_38 ?_
        refine lv_iload_n hx hb dX8_answer_41 rfl (lv_at hl 1 rfl) ?_
        obtain ⟨hg, hf⟩ := og hf
        refine va_bald hx hb hK hP 18 1 rfl rfl (gI_in hg) dX8_answer_42 ?_
        refine lv_goto (tgt := 48) hx hb dX8_answer_43 (by decide) ?_
        obtain ⟨e0, hz1⟩ := Prod.mk.inj (Option.some.inj hf)
        subst e0
        subst hz1
        exact rm_i hx hb hr hlk hP hS dX8_answer_48
    · replace hf := (if_pos hc).symm.trans hf
      refine lv_aload_n hx hb dX8_answer_15 rfl (lv_at hl 0 rfl) ?_
      refine va_get (ci := 7) (v := .ref (ad 17)) (C := RX8) (T := TX8) (N := 9) hx hb hts hiX8 hown hK hP 0 rfl rfl 5 (by decide) (hts _ (List.mem_of_getElem? (i := 1) rfl)) (fun _ h9 => h9) rfl dX8_answer_16 ?_
      refine va_get (ci := 2) (v := .int cLsz) (C := RX2) (T := TX2) (N := 2) hx hb hts hiX2 hown hK hP 17 rfl rfl 1 (by decide) (hts _ (List.mem_of_getElem? (i := 2) rfl)) (fun _ h9 => h9) rfl dX8_answer_19 ?_
      obtain ⟨e0, hz1⟩ := Prod.mk.inj (Option.some.inj hf)
      subst e0
      subst hz1
      exact rm_i hx hb hr hlk hP hS dX8_answer_22
  · replace hf := (if_neg hc).symm.trans hf
    refine lv_aload_n hx hb dX8_answer_5 rfl (lv_at hl 0 rfl) ?_
    obtain ⟨⟨r_1, qcBad_2⟩, hq, hf⟩ := ob hf
    try dsimp only at hf
    refine mcVi 0 7 (As := []) (rest := []) ⟨hx, hb, hml, hown, hts⟩ (ctX8_refuseBadPlace l D cI cB cZ ad A hAD cBad cFul cCnt cOpc cStp cTsz cRcn cPlc cFlt cVil cLsz cRts cLns cOpn cGps cTrl cWgt cRch cByt cWds cFst cSnd cSgn  r_1 qcBad_2 hq) (cwV 0 hts gX8_answer_X8_refuseBadPlace rfl rfl rfl (by decide +kernel) ⟨Nat.le_of_ble_eq_true rfl, Nat.le_of_ble_eq_true rfl⟩) hK hP hS rfl rfl rfl hl.1 rfl (Nat.le_of_ble_eq_true rfl) dX8_answer_6 ⟨Nat.zero_le _, Nat.zero_le _⟩ (fun H locs hP hS => ?_)
    obtain ⟨e0, hz1⟩ := Prod.mk.inj (Option.some.inj hf)
    subst e0
    subst hz1
    exact rm_i hx hb hr hlk hP hS dX8_answer_9

def fX8_tally (cBad : Int32) (cFul : Int32) (cCnt : Int32) (cOpc : Int32) (cTsz : Int32) (cLsz : Int32) (p0 : Int32) : Option (Int32) :=
  (if p0 = (0 : Int32) then (some cBad) else (if p0 = (1 : Int32) then (some (0 : Int32)) else (if p0 = (2 : Int32) then (some cFul) else (if p0 = (3 : Int32) then (some cTsz) else (if p0 = (4 : Int32) then (some cCnt) else (if p0 = (5 : Int32) then (some cOpc) else (if p0 = (6 : Int32) then (some cLsz) else (some (0 : Int32)))))))))
set_option maxRecDepth 100000 in
set_option maxHeartbeats 4000000 in
theorem ctX8_tally (l : Launch) (D : va_G) (cI cB cZ : ClassId) (ad : Nat → Nat) (cBad cFul cCnt cOpc cStp cTsz cRcn cPlc cFlt cVil cLsz : Int32) (cRts cLns cOpn cGps cTrl cWgt cRch cByt cWds cFst cSnd cSgn : Nat → Int32) (p0 : Int32) (rv : Int32) (hf : fX8_tally cBad cFul cCnt cOpc cTsz cLsz p0 = some rv) : Met l yX8_tally wsX8_tally (rmN 0 0) (PR D (tyL cI cB cZ) (wC cI cB cZ ad cBad cFul cCnt cOpc cStp cTsz cRcn cPlc cFlt cVil cLsz cRts cLns cOpn cGps cTrl cWgt cRch cByt cWds cFst cSnd cSgn) [.ref (ad 0), .int p0]) (SI rv) 0 0 (fun _ => False) := by
  refine mk_met cX8_tally 2 (some .int) (by decide) rfl (Nat.le_of_ble_eq_true rfl) ?_
  intro p e s m args below meth c ls hx hb hr hlk hml hown hts hPK hl
  obtain ⟨hP, hK⟩ := hPK
  replace hl : lv_has ls 2 [(0, .ref (ad 0)), (1, .int p0)] := hl
  replace hown : s.vm.findClass RX8 = some m.cls := hown
  have hiX1 : ∀ w ∈ wsX10, w ∈ wsX8_tally := fun w h => List.mem_cons_of_mem _ (List.mem_append_left _ (List.mem_append_right _ h))
  have hiX2 : ∀ w ∈ wsX20, w ∈ wsX8_tally := fun w h => List.mem_cons_of_mem _ (List.mem_append_right _ h)
  have hiX5 : ∀ w ∈ wsX50, w ∈ wsX8_tally := fun w h => List.mem_cons_of_mem _ (List.mem_append_left _ (List.mem_append_left _ (List.mem_append_right _ h)))
  have hiX8 : ∀ w ∈ wsX80, w ∈ wsX8_tally := fun w h => List.mem_cons_of_mem _ (List.mem_append_left _ (List.mem_append_left _ (List.mem_append_left _ (List.mem_append_right _ h))))
  unfold fX8_tally at hf
  refine lv_iload_n hx hb dX8_tally_0 rfl (lv_at hl 1 rfl) ?_
  by_cases hc0 : p0 = (0 : Int32)
  · replace hf := (if_pos hc0).symm.trans hf
    refine lv_tableIn (tgt := 44) hx hb dX8_tally_1 (by rw [hc0]; decide) (by rw [hc0]; decide) (by rw [hc0]; rfl) (by decide) ?_
    refine lv_aload_n hx hb dX8_tally_44 rfl (lv_at hl 0 rfl) ?_
    refine va_get (ci := 7) (v := .int cBad) (C := RX8) (T := TX8) (N := 9) hx hb hts hiX8 hown hK hP 0 rfl rfl 7 (by decide) (hts _ (List.mem_of_getElem? (i := 1) rfl)) (fun _ h9 => h9) rfl dX8_tally_45 ?_
    exact re_i hx hb hr hlk dX8_tally_48 hf
  replace hf := (if_neg hc0).symm.trans hf
  by_cases hc1 : p0 = (1 : Int32)
  · replace hf := (if_pos hc1).symm.trans hf
    refine lv_tableIn (tgt := 86) hx hb dX8_tally_1 (by rw [hc1]; decide) (by rw [hc1]; decide) (by rw [hc1]; rfl) (by decide) ?_
    refine lv_iconst (v := (0 : Int32)) hx hb dX8_tally_86 (by decide) ?_
    exact re_i hx hb hr hlk dX8_tally_87 hf
  replace hf := (if_neg hc1).symm.trans hf
  by_cases hc2 : p0 = (2 : Int32)
  · replace hf := (if_pos hc2).symm.trans hf
    refine lv_tableIn (tgt := 49) hx hb dX8_tally_1 (by rw [hc2]; decide) (by rw [hc2]; decide) (by rw [hc2]; rfl) (by decide) ?_
    refine lv_aload_n hx hb dX8_tally_49 rfl (lv_at hl 0 rfl) ?_
    refine va_get (ci := 7) (v := .int cFul) (C := RX8) (T := TX8) (N := 9) hx hb hts hiX8 hown hK hP 0 rfl rfl 8 (by decide) (hts _ (List.mem_of_getElem? (i := 2) rfl)) (fun _ h9 => h9) rfl dX8_tally_50 ?_
    exact re_i hx hb hr hlk dX8_tally_53 hf
  replace hf := (if_neg hc2).symm.trans hf
  by_cases hc3 : p0 = (3 : Int32)
  · replace hf := (if_pos hc3).symm.trans hf
    refine lv_tableIn (tgt := 54) hx hb dX8_tally_1 (by rw [hc3]; decide) (by rw [hc3]; decide) (by rw [hc3]; rfl) (by decide) ?_
    refine lv_aload_n hx hb dX8_tally_54 rfl (lv_at hl 0 rfl) ?_
    refine va_get (ci := 7) (v := .ref (ad 11)) (C := RX8) (T := TX8) (N := 9) hx hb hts hiX8 hown hK hP 0 rfl rfl 3 (by decide) (hts _ (List.mem_of_getElem? (i := 3) rfl)) (fun _ h9 => h9) rfl dX8_tally_55 ?_
    refine va_get (ci := 5) (v := .int cTsz) (C := RX5) (T := TX5) (N := 2) hx hb hts hiX5 hown hK hP 11 rfl rfl 1 (by decide) (hts _ (List.mem_of_getElem? (i := 4) rfl)) (fun _ h9 => h9) rfl dX8_tally_58 ?_
    exact re_i hx hb hr hlk dX8_tally_61 hf
  replace hf := (if_neg hc3).symm.trans hf
  by_cases hc4 : p0 = (4 : Int32)
  · replace hf := (if_pos hc4).symm.trans hf
    refine lv_tableIn (tgt := 62) hx hb dX8_tally_1 (by rw [hc4]; decide) (by rw [hc4]; decide) (by rw [hc4]; rfl) (by decide) ?_
    refine lv_aload_n hx hb dX8_tally_62 rfl (lv_at hl 0 rfl) ?_
    refine va_get (ci := 7) (v := .ref (ad 1)) (C := RX8) (T := TX8) (N := 9) hx hb hts hiX8 hown hK hP 0 rfl rfl 0 (by decide) (hts _ (List.mem_of_getElem? (i := 5) rfl)) (fun _ h9 => h9) rfl dX8_tally_63 ?_
    refine va_get (ci := 1) (v := .int cCnt) (C := RX1) (T := TX1) (N := 6) hx hb hts hiX1 hown hK hP 1 rfl rfl 4 (by decide) (hts _ (List.mem_of_getElem? (i := 6) rfl)) (fun _ h9 => h9) rfl dX8_tally_66 ?_
    exact re_i hx hb hr hlk dX8_tally_69 hf
  replace hf := (if_neg hc4).symm.trans hf
  by_cases hc5 : p0 = (5 : Int32)
  · replace hf := (if_pos hc5).symm.trans hf
    refine lv_tableIn (tgt := 70) hx hb dX8_tally_1 (by rw [hc5]; decide) (by rw [hc5]; decide) (by rw [hc5]; rfl) (by decide) ?_
    refine lv_aload_n hx hb dX8_tally_70 rfl (lv_at hl 0 rfl) ?_
    refine va_get (ci := 7) (v := .ref (ad 1)) (C := RX8) (T := TX8) (N := 9) hx hb hts hiX8 hown hK hP 0 rfl rfl 0 (by decide) (hts _ (List.mem_of_getElem? (i := 5) rfl)) (fun _ h9 => h9) rfl dX8_tally_71 ?_
    refine va_get (ci := 1) (v := .int cOpc) (C := RX1) (T := TX1) (N := 6) hx hb hts hiX1 hown hK hP 1 rfl rfl 5 (by decide) (hts _ (List.mem_of_getElem? (i := 7) rfl)) (fun _ h9 => h9) rfl dX8_tally_74 ?_
    exact re_i hx hb hr hlk dX8_tally_77 hf
  replace hf := (if_neg hc5).symm.trans hf
  by_cases hc6 : p0 = (6 : Int32)
  · replace hf := (if_pos hc6).symm.trans hf
    refine lv_tableIn (tgt := 78) hx hb dX8_tally_1 (by rw [hc6]; decide) (by rw [hc6]; decide) (by rw [hc6]; rfl) (by decide) ?_
    refine lv_aload_n hx hb dX8_tally_78 rfl (lv_at hl 0 rfl) ?_
    refine va_get (ci := 7) (v := .ref (ad 17)) (C := RX8) (T := TX8) (N := 9) hx hb hts hiX8 hown hK hP 0 rfl rfl 5 (by decide) (hts _ (List.mem_of_getElem? (i := 8) rfl)) (fun _ h9 => h9) rfl dX8_tally_79 ?_
    refine va_get (ci := 2) (v := .int cLsz) (C := RX2) (T := TX2) (N := 2) hx hb hts hiX2 hown hK hP 17 rfl rfl 1 (by decide) (hts _ (List.mem_of_getElem? (i := 9) rfl)) (fun _ h9 => h9) rfl dX8_tally_82 ?_
    exact re_i hx hb hr hlk dX8_tally_85 hf
  replace hf := (if_neg hc6).symm.trans hf
  refine lv_tableOut (tgt := 86) hx hb dX8_tally_1 (by have e0 := ne_ti (z := 0) hc0 (by decide); have e1 := ne_ti (z := 1) hc1 (by decide); have e2 := ne_ti (z := 2) hc2 (by decide); have e3 := ne_ti (z := 3) hc3 (by decide); have e4 := ne_ti (z := 4) hc4 (by decide); have e5 := ne_ti (z := 5) hc5 (by decide); have e6 := ne_ti (z := 6) hc6 (by decide); omega) (by decide) ?_
  refine lv_iconst (v := (0 : Int32)) hx hb dX8_tally_86 (by decide) ?_
  exact re_i hx hb hr hlk dX8_tally_87 hf

def fX8_told (cBad : Int32) (cFul : Int32) (cCnt : Int32) (cOpc : Int32) (cTsz : Int32) (cLsz : Int32) (p0 : Int32) : Option (Int32 × Int32) :=
  ((fX8_isUpTo p0 (6 : Int32)).bind fun r_1 => (if r_1 = 0 then ((fX8_refuseBad cBad).bind fun (r_3, qcBad_4) => (some (r_3, qcBad_4))) else ((fX8_tally cBad cFul cCnt cOpc cTsz cLsz p0).bind fun r_2 => (some (r_2, cBad)))))
set_option maxRecDepth 100000 in
set_option maxHeartbeats 4000000 in
theorem ctX8_told (l : Launch) (D : va_G) (cI cB cZ : ClassId) (ad : Nat → Nat) (A : Nat → Prop) (hAD : AD A ad 20) (cBad cFul cCnt cOpc cStp cTsz cRcn cPlc cFlt cVil cLsz : Int32) (cRts cLns cOpn cGps cTrl cWgt cRch cByt cWds cFst cSnd cSgn : Nat → Int32) (p0 : Int32) (rv : Int32) (zcBad : Int32) (hf : fX8_told cBad cFul cCnt cOpc cTsz cLsz p0 = some (rv, zcBad)) : Met l yX8_told wsX8_told (rmN 1 21) (PR D (tyL cI cB cZ) (wC cI cB cZ ad cBad cFul cCnt cOpc cStp cTsz cRcn cPlc cFlt cVil cLsz cRts cLns cOpn cGps cTrl cWgt cRch cByt cWds cFst cSnd cSgn) [.ref (ad 0), .int p0]) (QI D (wC cI cB cZ ad zcBad cFul cCnt cOpc cStp cTsz cRcn cPlc cFlt cVil cLsz cRts cLns cOpn cGps cTrl cWgt cRch cByt cWds cFst cSnd cSgn) A rv) 0 0 A := by
  refine mk_met cX8_told 2 (some .int) (by decide) rfl (Nat.le_of_ble_eq_true rfl) ?_
  intro p e s m args below meth c ls hx hb hr hlk hml hown hts hPK hl
  obtain ⟨hP, hK⟩ := hPK
  replace hl : lv_has ls 2 [(0, .ref (ad 0)), (1, .int p0)] := hl
  replace hown : s.vm.findClass RX8 = some m.cls := hown
  have hS : va_S A s.heap s.heap [] := va_S.rf
  unfold fX8_told at hf
  refine lv_iload_n hx hb dX8_told_0 rfl (lv_at hl 1 rfl) ?_
  refine lv_bipush (v := (6 : Int32)) hx hb dX8_told_1 (by decide) ?_
  obtain ⟨r_1, hq, hf⟩ := ob hf
  try dsimp only at hf
  refine rcS (As := [.int p0, .int (6 : Int32)]) (rest := []) ⟨hx, hb, hml, hown, hts⟩ (ctX8_isUpTo l p0 (6 : Int32) r_1 hq) (va_cwS 2 hts gX8_told_X8_isUpTo rfl rfl rfl (by decide +kernel) ⟨Nat.le_of_ble_eq_true rfl, Nat.le_of_ble_eq_true rfl⟩) rfl hl.1 rfl (Nat.le_of_ble_eq_true rfl) dX8_told_3 ⟨Nat.zero_le _, Nat.zero_le _⟩ ?_
  refine lv_if_ne (tgt := 14) hx hb dX8_told_6 (by decide) (fun hc => ?_) (fun hc => ?_)
  · replace hf := (if_neg hc).symm.trans hf
    refine lv_aload_n hx hb dX8_told_14 rfl (lv_at hl 0 rfl) ?_
    refine lv_iload_n hx hb dX8_told_15 rfl (lv_at hl 1 rfl) ?_
    obtain ⟨r_2, hq, hf⟩ := ob hf
    try dsimp only at hf
    refine rcV 0 7 (As := [.int p0]) (rest := []) ⟨hx, hb, hml, hown, hts⟩ (ctX8_tally l D cI cB cZ ad cBad cFul cCnt cOpc cStp cTsz cRcn cPlc cFlt cVil cLsz cRts cLns cOpn cGps cTrl cWgt cRch cByt cWds cFst cSnd cSgn p0 r_2 hq) (cwV 1 hts gX8_told_X8_tally rfl rfl rfl (by decide +kernel) ⟨Nat.le_of_ble_eq_true rfl, Nat.le_of_ble_eq_true rfl⟩) hK hP rfl rfl rfl hl.1 rfl (Nat.le_of_ble_eq_true rfl) dX8_told_16 ⟨Nat.zero_le _, Nat.zero_le _⟩ ?_
    obtain ⟨e0, hz1⟩ := Prod.mk.inj (Option.some.inj hf)
    subst e0
    subst hz1
    exact rm_i hx hb hr hlk hP hS dX8_told_19
  · replace hf := (if_pos hc).symm.trans hf
    refine lv_aload_n hx hb dX8_told_9 rfl (lv_at hl 0 rfl) ?_
    obtain ⟨⟨r_3, qcBad_4⟩, hq, hf⟩ := ob hf
    try dsimp only at hf
    refine mcVi 0 7 (As := []) (rest := []) ⟨hx, hb, hml, hown, hts⟩ (ctX8_refuseBad l D cI cB cZ ad A hAD cBad cFul cCnt cOpc cStp cTsz cRcn cPlc cFlt cVil cLsz cRts cLns cOpn cGps cTrl cWgt cRch cByt cWds cFst cSnd cSgn  r_3 qcBad_4 hq) (cwV 0 hts gX8_told_X8_refuseBad rfl rfl rfl (by decide +kernel) ⟨Nat.le_of_ble_eq_true rfl, Nat.le_of_ble_eq_true rfl⟩) hK hP hS rfl rfl rfl hl.1 rfl (Nat.le_of_ble_eq_true rfl) dX8_told_10 ⟨Nat.zero_le _, Nat.zero_le _⟩ (fun H locs hP hS => ?_)
    obtain ⟨e0, hz1⟩ := Prod.mk.inj (Option.some.inj hf)
    subst e0
    subst hz1
    exact rm_i hx hb hr hlk hP hS dX8_told_13

def fX8_digest_L6 (cBad : Int32) (cFul : Int32) (cCnt : Int32) (cOpc : Int32) (cTsz : Int32) (cLsz : Int32) (kk : (Int64 × Int32) → Option (Int64 × Int32)) (ww : Int64 × Int32) : Option (Int64 × Int32) :=
  match ww with
  | (v1_1, v3_2) => (if (6 : Int32) < v3_2 then (some (v1_1, v3_2)) else ((fX8_tally cBad cFul cCnt cOpc cTsz cLsz v3_2).bind fun r_3 => (kk ((((31 : Int64) * v1_1) + (r_3).toInt64), (v3_2 + (1 : Int32))))))
def fX8_digest_L47 (cCnt : Int32) (cRts : Nat → Int32) (cLns : Nat → Int32) (cOpn : Nat → Int32) (v3_5 : Int32) (kk : (Int64 × Int32) → Option (Int64 × Int32)) (ww : Int64 × Int32) : Option (Int64 × Int32) :=
  match ww with
  | (v1_6, v4_7) => (if (2 : Int32) < v4_7 then (some (v1_6, v4_7)) else ((fX1_aspect cCnt cRts cLns cOpn v3_5 v4_7).bind fun r_8 => (kk ((((31 : Int64) * v1_6) + (r_8).toInt64), (v4_7 + (1 : Int32))))))
def fX8_digest_L33 (cCnt : Int32) (cRts : Nat → Int32) (cLns : Nat → Int32) (cOpn : Nat → Int32) (kk : (Int64 × Int32) → Option (Int64 × Int32)) (ww : Int64 × Int32) : Option (Int64 × Int32) :=
  match ww with
  | (v1_4, v3_5) => (if cCnt ≤ v3_5 then (some (v1_4, v3_5)) else ((lp (fX8_digest_L47 cCnt cRts cLns cOpn v3_5) FU (v1_4, (0 : Int32))).bind fun (ov1_6, ov4_7) => (kk (ov1_6, (v3_5 + (1 : Int32))))))
def fX8_digest_L85 (cLsz : Int32) (cSgn : Nat → Int32) (kk : (Int64 × Int32) → Option (Int64 × Int32)) (ww : Int64 × Int32) : Option (Int64 × Int32) :=
  match ww with
  | (v1_9, v3_10) => (if cLsz ≤ v3_10 then (some (v1_9, v3_10)) else (if gI v3_10 400 then (kk ((((31 : Int64) * v1_9) + (cSgn (v3_10).toNatClampNeg).toInt64), (v3_10 + (1 : Int32)))) else none))
def fX8_digest (cBad : Int32) (cFul : Int32) (cCnt : Int32) (cOpc : Int32) (cTsz : Int32) (cLsz : Int32) (cRts : Nat → Int32) (cLns : Nat → Int32) (cOpn : Nat → Int32) (cSgn : Nat → Int32)  : Option (Int64) :=
  ((lp (fX8_digest_L6 cBad cFul cCnt cOpc cTsz cLsz) FU ((1997 : Int64), (0 : Int32))).bind fun (ov1_1, ov3_2) => ((lp (fX8_digest_L33 cCnt cRts cLns cOpn) FU (ov1_1, (0 : Int32))).bind fun (ov1_4, ov3_5) => ((lp (fX8_digest_L85 cLsz cSgn) FU (ov1_4, (0 : Int32))).bind fun (ov1_9, ov3_10) => (some ov1_9))))
set_option maxRecDepth 100000 in
set_option maxHeartbeats 4000000 in
theorem ctX8_digest (l : Launch) (D : va_G) (cI cB cZ : ClassId) (ad : Nat → Nat) (cBad cFul cCnt cOpc cStp cTsz cRcn cPlc cFlt cVil cLsz : Int32) (cRts cLns cOpn cGps cTrl cWgt cRch cByt cWds cFst cSnd cSgn : Nat → Int32)  (rv : Int64) (hf : fX8_digest cBad cFul cCnt cOpc cTsz cLsz cRts cLns cOpn cSgn = some rv) : Met l yX8_digest wsX8_digest (rmN 2 45) (PR D (tyL cI cB cZ) (wC cI cB cZ ad cBad cFul cCnt cOpc cStp cTsz cRcn cPlc cFlt cVil cLsz cRts cLns cOpn cGps cTrl cWgt cRch cByt cWds cFst cSnd cSgn) [.ref (ad 0)]) (SL rv) 0 0 (fun _ => False) := by
  refine mk_met cX8_digest 5 (some .long) (by decide) rfl (Nat.le_of_ble_eq_true rfl) ?_
  intro p e s m args below meth c ls hx hb hr hlk hml hown hts hPK hl
  obtain ⟨hP, hK⟩ := hPK
  replace hl : lv_has ls 5 [(0, .ref (ad 0))] := hl
  replace hown : s.vm.findClass RX8 = some m.cls := hown
  have hiX1 : ∀ w ∈ wsX10, w ∈ wsX8_digest := fun w h => List.mem_cons_of_mem _ (List.mem_append_left _ (List.mem_append_left _ (List.mem_append_right _ h)))
  have hiX2 : ∀ w ∈ wsX20, w ∈ wsX8_digest := fun w h => List.mem_cons_of_mem _ (List.mem_append_left _ (List.mem_append_right _ h))
  have hiX8 : ∀ w ∈ wsX80, w ∈ wsX8_digest := fun w h => List.mem_cons_of_mem _ (List.mem_append_left _ (List.mem_append_left _ (List.mem_append_left _ (List.mem_append_right _ h))))
  unfold fX8_digest at hf
  refine lv_ldc2 (v := (1997 : Int64)) hx hb hown (hts _ (List.mem_of_getElem? (i := 1) rfl)) dX8_digest_0 ?_
  refine lv_lstore_n (lv' := [(1, .long (1997 : Int64)), (0, .ref (ad 0))]) hx hb dX8_digest_3 rfl hl (by decide) rfl (fun ls hl => ?_)
  refine lv_iconst (v := (0 : Int32)) hx hb dX8_digest_4 (by decide) ?_
  refine lv_istore_n (lv' := [(3, .int (0 : Int32)), (1, .long (1997 : Int64)), (0, .ref (ad 0))]) hx hb dX8_digest_5 rfl hl (by decide) rfl (fun ls hl => ?_)
  have hL6 : ∀ (n : Nat) (v1_1 : Int64) (v3_2 : Int32) (ov1_1 : Int64) (ov3_2 : Int32) (ls : Array Slot), lp (fX8_digest_L6 cBad cFul cCnt cOpc cTsz cLsz) n (v1_1, v3_2) = some (ov1_1, ov3_2) → lv_has ls 5 [(0, .ref (ad 0)), (1, .long v1_1), (3, .int v3_2)] → (∀ (ls : Array Slot), lv_has ls 5 [(0, .ref (ad 0)), (1, .long ov1_1), (3, .int ov3_2)] → W p l e (rmN 2 45) s m args below meth c s.heap [] 0 0 (MQ below (SL rv) args s 0 0 (fun _ => False)) (F0 m 31 ls [])) → W p l e (rmN 2 45) s m args below meth c s.heap [] 0 0 (MQ below (SL rv) args s 0 0 (fun _ => False)) (F0 m 6 ls []) := by
    intro n
    induction n with
    | zero => intro v1_1 v3_2 ov1_1 ov3_2 ls hf; exact (lp_0 hf).elim
    | succ n ih =>
      intro v1_1 v3_2 ov1_1 ov3_2 ls hf hl hE
      replace hf := lp_s hf
      dsimp only [fX8_digest_L6] at hf
      refine lv_iload_n hx hb dX8_digest_6 rfl (lv_at hl 2 rfl) ?_
      refine lv_bipush (v := (6 : Int32)) hx hb dX8_digest_7 (by decide) ?_
      refine lv_icmp_gt (tgt := 31) hx hb dX8_digest_9 (by decide) (fun hc => ?_) (fun hc => ?_)
      · replace hf := (if_pos hc).symm.trans hf
        cases hf
        exact hE _ (lv_sub hl [0, 1, 2] rfl)
      · replace hf := (if_neg hc).symm.trans hf
        refine lv_ldc2 (v := (31 : Int64)) hx hb hown (hts _ (List.mem_of_getElem? (i := 2) rfl)) dX8_digest_12 ?_
        refine lv_lload_n hx hb dX8_digest_15 rfl (lv_at hl 1 rfl) ?_
        refine lv_lmul hx hb dX8_digest_16 ?_
        refine lv_aload_n hx hb dX8_digest_17 rfl (lv_at hl 0 rfl) ?_
        refine lv_iload_n hx hb dX8_digest_18 rfl (lv_at hl 2 rfl) ?_
        obtain ⟨r_3, hq, hf⟩ := ob hf
        try dsimp only at hf
        refine rcV 0 7 (As := [.int v3_2]) (rest := [.long ((31 : Int64) * v1_1)]) ⟨hx, hb, hml, hown, hts⟩ (ctX8_tally l D cI cB cZ ad cBad cFul cCnt cOpc cStp cTsz cRcn cPlc cFlt cVil cLsz cRts cLns cOpn cGps cTrl cWgt cRch cByt cWds cFst cSnd cSgn v3_2 r_3 hq) (cwV 1 hts gX8_digest_X8_tally rfl rfl rfl (by decide +kernel) ⟨Nat.le_of_ble_eq_true rfl, Nat.le_of_ble_eq_true rfl⟩) hK hP rfl rfl rfl hl.1 rfl (Nat.le_of_ble_eq_true rfl) dX8_digest_19 ⟨Nat.zero_le _, Nat.zero_le _⟩ ?_
        refine lv_i2l (v := (r_3).toInt64) hx hb dX8_digest_22 rfl ?_
        refine lv_ladd hx hb dX8_digest_23 ?_
        refine lv_lstore_n (lv' := [(1, .long (((31 : Int64) * v1_1) + (r_3).toInt64)), (0, .ref (ad 0)), (3, .int v3_2)]) hx hb dX8_digest_24 rfl hl (by decide) rfl (fun ls hl => ?_)
        refine lv_iinc (v := (v3_2 + (1 : Int32))) (lv' := [(3, .int (v3_2 + (1 : Int32))), (1, .long (((31 : Int64) * v1_1) + (r_3).toInt64)), (0, .ref (ad 0))]) hx hb dX8_digest_25 hl (k := 2) rfl rfl (by decide) rfl (fun ls hl => ?_)
        refine lv_goto (tgt := 6) hx hb dX8_digest_28 (by decide) ?_
        exact ih _ _ _ _ _ hf (lv_sub hl [2, 1, 0] rfl) hE
  obtain ⟨⟨ov1_1, ov3_2⟩, hq, hf⟩ := ob hf
  try dsimp only at hf
  refine hL6 FU _ _ ov1_1 ov3_2 ls hq (lv_sub hl [2, 1, 0] rfl) (fun ls hl => ?_)
  refine lv_iconst (v := (0 : Int32)) hx hb dX8_digest_31 (by decide) ?_
  refine lv_istore_n (lv' := [(3, .int (0 : Int32)), (0, .ref (ad 0)), (1, .long ov1_1)]) hx hb dX8_digest_32 rfl hl (by decide) rfl (fun ls hl => ?_)
  have hL33 : ∀ (n : Nat) (v1_4 : Int64) (v3_5 : Int32) (ov1_4 : Int64) (ov3_5 : Int32) (ls : Array Slot), lp (fX8_digest_L33 cCnt cRts cLns cOpn) n (v1_4, v3_5) = some (ov1_4, ov3_5) → lv_has ls 5 [(0, .ref (ad 0)), (1, .long v1_4), (3, .int v3_5)] → (∀ (ls : Array Slot), lv_has ls 5 [(0, .ref (ad 0)), (1, .long ov1_4), (3, .int ov3_5)] → W p l e (rmN 2 45) s m args below meth c s.heap [] 0 0 (MQ below (SL rv) args s 0 0 (fun _ => False)) (F0 m 83 ls [])) → W p l e (rmN 2 45) s m args below meth c s.heap [] 0 0 (MQ below (SL rv) args s 0 0 (fun _ => False)) (F0 m 33 ls []) := by
    intro n
    induction n with
    | zero => intro v1_4 v3_5 ov1_4 ov3_5 ls hf; exact (lp_0 hf).elim
    | succ n ih =>
      intro v1_4 v3_5 ov1_4 ov3_5 ls hf hl hE
      replace hf := lp_s hf
      dsimp only [fX8_digest_L33] at hf
      refine lv_iload_n hx hb dX8_digest_33 rfl (lv_at hl 2 rfl) ?_
      refine lv_aload_n hx hb dX8_digest_34 rfl (lv_at hl 0 rfl) ?_
      refine va_get (ci := 7) (v := .ref (ad 1)) (C := RX8) (T := TX8) (N := 9) hx hb hts hiX8 hown hK hP 0 rfl rfl 0 (by decide) (hts _ (List.mem_of_getElem? (i := 3) rfl)) (fun _ h9 => h9) rfl dX8_digest_35 ?_
      refine va_get (ci := 1) (v := .int cCnt) (C := RX1) (T := TX1) (N := 6) hx hb hts hiX1 hown hK hP 1 rfl rfl 4 (by decide) (hts _ (List.mem_of_getElem? (i := 4) rfl)) (fun _ h9 => h9) rfl dX8_digest_38 ?_
      refine lv_icmp_ge (tgt := 83) hx hb dX8_digest_41 (by decide) (fun hc => ?_) (fun hc => ?_)
      · replace hf := (if_pos hc).symm.trans hf
        cases hf
        exact hE _ (lv_sub hl [0, 1, 2] rfl)
      · replace hf := (if_neg hc).symm.trans hf
        refine lv_iconst (v := (0 : Int32)) hx hb dX8_digest_44 (by decide) ?_
        refine lv_istore (lv' := [(4, .int (0 : Int32)), (0, .ref (ad 0)), (1, .long v1_4), (3, .int v3_5)]) hx hb dX8_digest_45 hl (by decide) rfl (fun ls hl => ?_)
        have hL47 : ∀ (n : Nat) (v1_6 : Int64) (v4_7 : Int32) (ov1_6 : Int64) (ov4_7 : Int32) (ls : Array Slot), lp (fX8_digest_L47 cCnt cRts cLns cOpn v3_5) n (v1_6, v4_7) = some (ov1_6, ov4_7) → lv_has ls 5 [(0, .ref (ad 0)), (1, .long v1_6), (3, .int v3_5), (4, .int v4_7)] → (∀ (ls : Array Slot), lv_has ls 5 [(0, .ref (ad 0)), (1, .long ov1_6), (3, .int v3_5), (4, .int ov4_7)] → W p l e (rmN 2 45) s m args below meth c s.heap [] 0 0 (MQ below (SL rv) args s 0 0 (fun _ => False)) (F0 m 77 ls [])) → W p l e (rmN 2 45) s m args below meth c s.heap [] 0 0 (MQ below (SL rv) args s 0 0 (fun _ => False)) (F0 m 47 ls []) := by
          intro n
          induction n with
          | zero => intro v1_6 v4_7 ov1_6 ov4_7 ls hf; exact (lp_0 hf).elim
          | succ n ih =>
            intro v1_6 v4_7 ov1_6 ov4_7 ls hf hl hE
            replace hf := lp_s hf
            dsimp only [fX8_digest_L47] at hf
            refine lv_iload hx hb dX8_digest_47 (lv_at hl 3 rfl) ?_
            refine lv_iconst (v := (2 : Int32)) hx hb dX8_digest_49 (by decide) ?_
            refine lv_icmp_gt (tgt := 77) hx hb dX8_digest_50 (by decide) (fun hc => ?_) (fun hc => ?_)
            · replace hf := (if_pos hc).symm.trans hf
              cases hf
              exact hE _ (lv_sub hl [0, 1, 2, 3] rfl)
            · replace hf := (if_neg hc).symm.trans hf
              refine lv_ldc2 (v := (31 : Int64)) hx hb hown (hts _ (List.mem_of_getElem? (i := 2) rfl)) dX8_digest_53 ?_
              refine lv_lload_n hx hb dX8_digest_56 rfl (lv_at hl 1 rfl) ?_
              refine lv_lmul hx hb dX8_digest_57 ?_
              refine lv_aload_n hx hb dX8_digest_58 rfl (lv_at hl 0 rfl) ?_
              refine va_get (ci := 7) (v := .ref (ad 1)) (C := RX8) (T := TX8) (N := 9) hx hb hts hiX8 hown hK hP 0 rfl rfl 0 (by decide) (hts _ (List.mem_of_getElem? (i := 3) rfl)) (fun _ h9 => h9) rfl dX8_digest_59 ?_
              refine lv_iload_n hx hb dX8_digest_62 rfl (lv_at hl 2 rfl) ?_
              refine lv_iload hx hb dX8_digest_63 (lv_at hl 3 rfl) ?_
              obtain ⟨r_8, hq, hf⟩ := ob hf
              try dsimp only at hf
              refine rcV 1 1 (As := [.int v3_5, .int v4_7]) (rest := [.long ((31 : Int64) * v1_6)]) ⟨hx, hb, hml, hown, hts⟩ (ctX1_aspect l D cI cB cZ ad cBad cFul cCnt cOpc cStp cTsz cRcn cPlc cFlt cVil cLsz cRts cLns cOpn cGps cTrl cWgt cRch cByt cWds cFst cSnd cSgn v3_5 v4_7 r_8 hq) (cwV 2 hts gX8_digest_X1_aspect rfl rfl rfl (by decide +kernel) ⟨Nat.le_of_ble_eq_true rfl, Nat.le_of_ble_eq_true rfl⟩) hK hP rfl rfl rfl hl.1 rfl (Nat.le_of_ble_eq_true rfl) dX8_digest_65 ⟨Nat.zero_le _, Nat.zero_le _⟩ ?_
              refine lv_i2l (v := (r_8).toInt64) hx hb dX8_digest_68 rfl ?_
              refine lv_ladd hx hb dX8_digest_69 ?_
              refine lv_lstore_n (lv' := [(1, .long (((31 : Int64) * v1_6) + (r_8).toInt64)), (0, .ref (ad 0)), (3, .int v3_5), (4, .int v4_7)]) hx hb dX8_digest_70 rfl hl (by decide) rfl (fun ls hl => ?_)
              refine lv_iinc (v := (v4_7 + (1 : Int32))) (lv' := [(4, .int (v4_7 + (1 : Int32))), (1, .long (((31 : Int64) * v1_6) + (r_8).toInt64)), (0, .ref (ad 0)), (3, .int v3_5)]) hx hb dX8_digest_71 hl (k := 3) rfl rfl (by decide) rfl (fun ls hl => ?_)
              refine lv_goto (tgt := 47) hx hb dX8_digest_74 (by decide) ?_
              exact ih _ _ _ _ _ hf (lv_sub hl [2, 1, 3, 0] rfl) hE
        obtain ⟨⟨ov1_6, ov4_7⟩, hq, hf⟩ := ob hf
        try dsimp only at hf
        refine hL47 FU _ _ ov1_6 ov4_7 ls hq (lv_sub hl [1, 2, 3, 0] rfl) (fun ls hl => ?_)
        refine lv_iinc (v := (v3_5 + (1 : Int32))) (lv' := [(3, .int (v3_5 + (1 : Int32))), (0, .ref (ad 0)), (1, .long ov1_6), (4, .int ov4_7)]) hx hb dX8_digest_77 hl (k := 2) rfl rfl (by decide) rfl (fun ls hl => ?_)
        refine lv_goto (tgt := 33) hx hb dX8_digest_80 (by decide) ?_
        exact ih _ _ _ _ _ hf (lv_sub hl [1, 2, 0] rfl) hE
  obtain ⟨⟨ov1_4, ov3_5⟩, hq, hf⟩ := ob hf
  try dsimp only at hf
  refine hL33 FU _ _ ov1_4 ov3_5 ls hq (lv_sub hl [1, 2, 0] rfl) (fun ls hl => ?_)
  refine lv_iconst (v := (0 : Int32)) hx hb dX8_digest_83 (by decide) ?_
  refine lv_istore_n (lv' := [(3, .int (0 : Int32)), (0, .ref (ad 0)), (1, .long ov1_4)]) hx hb dX8_digest_84 rfl hl (by decide) rfl (fun ls hl => ?_)
  have hL85 : ∀ (n : Nat) (v1_9 : Int64) (v3_10 : Int32) (ov1_9 : Int64) (ov3_10 : Int32) (ls : Array Slot), lp (fX8_digest_L85 cLsz cSgn) n (v1_9, v3_10) = some (ov1_9, ov3_10) → lv_has ls 5 [(0, .ref (ad 0)), (1, .long v1_9), (3, .int v3_10)] → (∀ (ls : Array Slot), lv_has ls 5 [(0, .ref (ad 0)), (1, .long ov1_9), (3, .int ov3_10)] → W p l e (rmN 2 45) s m args below meth c s.heap [] 0 0 (MQ below (SL rv) args s 0 0 (fun _ => False)) (F0 m 119 ls [])) → W p l e (rmN 2 45) s m args below meth c s.heap [] 0 0 (MQ below (SL rv) args s 0 0 (fun _ => False)) (F0 m 85 ls []) := by
    intro n
    induction n with
    | zero => intro v1_9 v3_10 ov1_9 ov3_10 ls hf; exact (lp_0 hf).elim
    | succ n ih =>
      intro v1_9 v3_10 ov1_9 ov3_10 ls hf hl hE
      replace hf := lp_s hf
      dsimp only [fX8_digest_L85] at hf
      refine lv_iload_n hx hb dX8_digest_85 rfl (lv_at hl 2 rfl) ?_
      refine lv_aload_n hx hb dX8_digest_86 rfl (lv_at hl 0 rfl) ?_
      refine va_get (ci := 7) (v := .ref (ad 17)) (C := RX8) (T := TX8) (N := 9) hx hb hts hiX8 hown hK hP 0 rfl rfl 5 (by decide) (hts _ (List.mem_of_getElem? (i := 5) rfl)) (fun _ h9 => h9) rfl dX8_digest_87 ?_
      refine va_get (ci := 2) (v := .int cLsz) (C := RX2) (T := TX2) (N := 2) hx hb hts hiX2 hown hK hP 17 rfl rfl 1 (by decide) (hts _ (List.mem_of_getElem? (i := 6) rfl)) (fun _ h9 => h9) rfl dX8_digest_90 ?_
      refine lv_icmp_ge (tgt := 119) hx hb dX8_digest_93 (by decide) (fun hc => ?_) (fun hc => ?_)
      · replace hf := (if_pos hc).symm.trans hf
        cases hf
        exact hE _ (lv_sub hl [0, 1, 2] rfl)
      · replace hf := (if_neg hc).symm.trans hf
        refine lv_ldc2 (v := (31 : Int64)) hx hb hown (hts _ (List.mem_of_getElem? (i := 2) rfl)) dX8_digest_96 ?_
        refine lv_lload_n hx hb dX8_digest_99 rfl (lv_at hl 1 rfl) ?_
        refine lv_lmul hx hb dX8_digest_100 ?_
        refine lv_aload_n hx hb dX8_digest_101 rfl (lv_at hl 0 rfl) ?_
        refine va_get (ci := 7) (v := .ref (ad 17)) (C := RX8) (T := TX8) (N := 9) hx hb hts hiX8 hown hK hP 0 rfl rfl 5 (by decide) (hts _ (List.mem_of_getElem? (i := 5) rfl)) (fun _ h9 => h9) rfl dX8_digest_102 ?_
        refine va_get (ci := 2) (v := .ref (ad 18)) (C := RX2) (T := TX2) (N := 2) hx hb hts hiX2 hown hK hP 17 rfl rfl 0 (by decide) (hts _ (List.mem_of_getElem? (i := 7) rfl)) (fun _ h9 => h9) rfl dX8_digest_105 ?_
        refine lv_iload_n hx hb dX8_digest_108 rfl (lv_at hl 2 rfl) ?_
        obtain ⟨hg, hf⟩ := og hf
        refine va_bald hx hb hK hP 18 1 rfl rfl (gI_in hg) dX8_digest_109 ?_
        refine lv_i2l (v := (cSgn (v3_10).toNatClampNeg).toInt64) hx hb dX8_digest_110 rfl ?_
        refine lv_ladd hx hb dX8_digest_111 ?_
        refine lv_lstore_n (lv' := [(1, .long (((31 : Int64) * v1_9) + (cSgn (v3_10).toNatClampNeg).toInt64)), (0, .ref (ad 0)), (3, .int v3_10)]) hx hb dX8_digest_112 rfl hl (by decide) rfl (fun ls hl => ?_)
        refine lv_iinc (v := (v3_10 + (1 : Int32))) (lv' := [(3, .int (v3_10 + (1 : Int32))), (1, .long (((31 : Int64) * v1_9) + (cSgn (v3_10).toNatClampNeg).toInt64)), (0, .ref (ad 0))]) hx hb dX8_digest_113 hl (k := 2) rfl rfl (by decide) rfl (fun ls hl => ?_)
        refine lv_goto (tgt := 85) hx hb dX8_digest_116 (by decide) ?_
        exact ih _ _ _ _ _ hf (lv_sub hl [2, 1, 0] rfl) hE
  obtain ⟨⟨ov1_9, ov3_10⟩, hq, hf⟩ := ob hf
  try dsimp only at hf
  refine hL85 FU _ _ ov1_9 ov3_10 ls hq (lv_sub hl [1, 2, 0] rfl) (fun ls hl => ?_)
  refine lv_lload_n hx hb dX8_digest_119 rfl (lv_at hl 1 rfl) ?_
  exact re_l hx hb hr hlk dX8_digest_120 hf
