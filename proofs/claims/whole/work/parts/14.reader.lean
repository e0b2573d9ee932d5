def fX3_skipBlanks_L0 (cTsz : Int32) (cByt : Nat → Int32) (kk : (Int32) → Option (Int32)) (wcPlc_1 : Int32) : Option (Int32) :=
  (if cTsz ≤ wcPlc_1 then (some wcPlc_1) else ((fX5_byteAt cTsz cByt wcPlc_1).bind fun r_2 => (if r_2 = (32 : Int32) then (kk (wcPlc_1 + (1 : Int32))) else (some wcPlc_1))))
def fX3_skipBlanks (cTsz : Int32) (cPlc : Int32) (cByt : Nat → Int32)  : Option (Int32) :=
  ((lp (fX3_skipBlanks_L0 cTsz cByt) FU cPlc).bind fun owcPlc_1 => (some owcPlc_1))
set_option maxRecDepth 100000 in
set_option maxHeartbeats 4000000 in
theorem ctX3_skipBlanks (l : Launch) (D : va_G) (cI cB cZ : ClassId) (ad : Nat → Nat) (A : Nat → Prop) (hAD : AD A ad 20) (cBad cFul cCnt cOpc cStp cTsz cRcn cPlc cFlt cVil cLsz : Int32) (cRts cLns cOpn cGps cTrl cWgt cRch cByt cWds cFst cSnd cSgn : Nat → Int32)  (zcPlc : Int32) (hf : fX3_skipBlanks cTsz cPlc cByt = some zcPlc) : Met l yX3_skipBlanks wsX3_skipBlanks (rmN 1 21) (PR D (tyL cI cB cZ) (wC cI cB cZ ad cBad cFul cCnt cOpc cStp cTsz cRcn cPlc cFlt cVil cLsz cRts cLns cOpn cGps cTrl cWgt cRch cByt cWds cFst cSnd cSgn) [.ref (ad 13)]) (QV D (wC cI cB cZ ad cBad cFul cCnt cOpc cStp cTsz cRcn zcPlc cFlt cVil cLsz cRts cLns cOpn cGps cTrl cWgt cRch cByt cWds cFst cSnd cSgn) A) 0 0 A := by
  refine mk_met cX3_skipBlanks 1 none (by decide) rfl (Nat.le_of_ble_eq_true rfl) ?_
  intro p e s m args below meth c ls hx hb hr hlk hml hown hts hPK hl
  obtain ⟨hP, hK⟩ := hPK
  replace hl : lv_has ls 1 [(0, .ref (ad 13))] := hl
  replace hown : s.vm.findClass RX3 = some m.cls := hown
  have hiX3 : ∀ w ∈ wsX30, w ∈ wsX3_skipBlanks := fun w h => List.mem_cons_of_mem _ (List.mem_append_left _ (List.mem_append_right _ h))
  have hiX5 : ∀ w ∈ wsX50, w ∈ wsX3_skipBlanks := fun w h => List.mem_cons_of_mem _ (List.mem_append_right _ h)
  have hS : va_S A s.heap s.heap [] := va_S.rf
  unfold fX3_skipBlanks at hf
  have hL0 : ∀ (n : Nat) (wcPlc_1 : Int32) (owcPlc_1 : Int32) (H : Heap) (locs : List Loc) (ls : Array Slot), lp (fX3_skipBlanks_L0 cTsz cByt) n wcPlc_1 = some owcPlc_1 → va_P D vwCl (wC cI cB cZ ad cBad cFul cCnt cOpc cStp cTsz cRcn wcPlc_1 cFlt cVil cLsz cRts cLns cOpn cGps cTrl cWgt cRch cByt cWds cFst cSnd cSgn) H → va_S A s.heap H locs → lv_has ls 1 [(0, .ref (ad 13))] → (∀ (H : Heap) (locs : List Loc) (ls : Array Slot), va_P D vwCl (wC cI cB cZ ad cBad cFul cCnt cOpc cStp cTsz cRcn owcPlc_1 cFlt cVil cLsz cRts cLns cOpn cGps cTrl cWgt cRch cByt cWds cFst cSnd cSgn) H → va_S A s.heap H locs → lv_has ls 1 [(0, .ref (ad 13))] → W p l e (rmN 1 21) s m args below meth c H locs 0 0 (MQ below (QV D (wC cI cB cZ ad cBad cFul cCnt cOpc cStp cTsz cRcn zcPlc cFlt cVil cLsz cRts cLns cOpn cGps cTrl cWgt cRch cByt cWds cFst cSnd cSgn) A) args s 0 0 A) (F0 m 43 ls [])) → W p l e (rmN 1 21) s m args below meth c H locs 0 0 (MQ below (QV D (wC cI cB cZ ad cBad cFul cCnt cOpc cStp cTsz cRcn zcPlc cFlt cVil cLsz cRts cLns cOpn cGps cTrl cWgt cRch cByt cWds cFst cSnd cSgn) A) args s 0 0 A) (F0 m 0 ls []) := by
    intro n
    induction n with
    | zero => intro wcPlc_1 owcPlc_1 H locs ls hf; exact (lp_0 hf).elim
    | succ n ih =>
      intro wcPlc_1 owcPlc_1 H locs ls hf hP hS hl hE
      replace hf := lp_s hf
      dsimp only [fX3_skipBlanks_L0] at hf
      refine lv_aload_n hx hb dX3_skipBlanks_0 rfl (lv_at hl 0 rfl) ?_
      refine va_get (ci := 3) (v := .int wcPlc_1) (C := RX3) (T := TX3) (N := 8) hx hb hts hiX3 hown hK hP 13 rfl rfl 5 (by decide) (hts _ (List.mem_of_getElem? (i := 1) rfl)) (fun _ h9 => h9) rfl dX3_skipBlanks_1 ?_
      refine lv_aload_n hx hb dX3_skipBlanks_4 rfl (lv_at hl 0 rfl) ?_
      refine va_get (ci := 3) (v := .ref (ad 11)) (C := RX3) (T := TX3) (N := 8) hx hb hts hiX3 hown hK hP 13 rfl rfl 4 (by decide) (hts _ (List.mem_of_getElem? (i := 2) rfl)) (fun _ h9 => h9) rfl dX3_skipBlanks_5 ?_
      refine va_get (ci := 5) (v := .int cTsz) (C := RX5) (T := TX5) (N := 2) hx hb hts hiX5 hown hK hP 11 rfl rfl 1 (by decide) (hts _ (List.mem_of_getElem? (i := 3) rfl)) (fun _ h9 => h9) rfl dX3_skipBlanks_8 ?_
      refine lv_icmp_ge (tgt := 43) hx hb dX3_skipBlanks_11 (by decide) (fun hc => ?_) (fun hc => ?_)
      · replace hf := (if_pos hc).symm.trans hf
        cases hf
        exact hE _ _ _ hP hS (lv_sub hl [0] rfl)
      · replace hf := (if_neg hc).symm.trans hf
        refine lv_aload_n hx hb dX3_skipBlanks_14 rfl (lv_at hl 0 rfl) ?_
        refine va_get (ci := 3) (v := .ref (ad 11)) (C := RX3) (T := TX3) (N := 8) hx hb hts hiX3 hown hK hP 13 rfl rfl 4 (by decide) (hts _ (List.mem_of_getElem? (i := 2) rfl)) (fun _ h9 => h9) rfl dX3_skipBlanks_15 ?_
        refine lv_aload_n hx hb dX3_skipBlanks_18 rfl (lv_at hl 0 rfl) ?_
        refine va_get (ci := 3) (v := .int wcPlc_1) (C := RX3) (T := TX3) (N := 8) hx hb hts hiX3 hown hK hP 13 rfl rfl 5 (by decide) (hts _ (List.mem_of_getElem? (i := 1) rfl)) (fun _ h9 => h9) rfl dX3_skipBlanks_19 ?_
        obtain ⟨r_2, hq, hf⟩ := ob hf
        try dsimp only at hf
        refine rcV 11 5 (As := [.int wcPlc_1]) (rest := []) ⟨hx, hb, hml, hown, hts⟩ (ctX5_byteAt l D cI cB cZ ad cBad cFul cCnt cOpc cStp cTsz cRcn wcPlc_1 cFlt cVil cLsz cRts cLns cOpn cGps cTrl cWgt cRch cByt cWds cFst cSnd cSgn wcPlc_1 r_2 hq) (cwV 1 hts gX3_skipBlanks_X5_byteAt rfl rfl rfl (by decide +kernel) ⟨Nat.le_of_ble_eq_true rfl, Nat.le_of_ble_eq_true rfl⟩) hK hP rfl rfl rfl hl.1 rfl (Nat.le_of_ble_eq_true rfl) dX3_skipBlanks_22 ⟨Nat.zero_le _, Nat.zero_le _⟩ ?_
        refine lv_bipush (v := (32 : Int32)) hx hb dX3_skipBlanks_25 (by decide) ?_
        refine lv_icmp_ne (tgt := 43) hx hb dX3_skipBlanks_27 (by decide) (fun hc => ?_) (fun hc => ?_)
        · replace hf := (if_neg hc).symm.trans hf
          cases hf
          exact hE _ _ _ hP hS (lv_sub hl [0] rfl)
        · replace hf := (if_pos hc).symm.trans hf
          refine lv_aload_n hx hb dX3_skipBlanks_30 rfl (lv_at hl 0 rfl) ?_
          refine lv_dup hx hb dX3_skipBlanks_31 rfl ?_
          refine va_get (ci := 3) (v := .int wcPlc_1) (C := RX3) (T := TX3) (N := 8) hx hb hts hiX3 hown hK hP 13 rfl rfl 5 (by decide) (hts _ (List.mem_of_getElem? (i := 1) rfl)) (fun _ h9 => h9) rfl dX3_skipBlanks_32 ?_
          refine lv_iconst (v := (1 : Int32)) hx hb dX3_skipBlanks_35 (by decide) ?_
          refine lv_iadd hx hb dX3_skipBlanks_36 ?_
          refine va_put (ci := 3) (v := .int (wcPlc_1 + (1 : Int32))) (ty := .int) (C := RX3) (T := TX3) (N := 8) hx hb hts hiX3 tyX3 tyX3_ok nmX3 hown hK hP (wC_D hAD) hS 13 rfl rfl 5 (by decide) (hts _ (List.mem_of_getElem? (i := 1) rfl)) (fun _ h9 => h9) rfl (tyX3_ok 5 (by decide)) rfl rfl (Nat.le_of_ble_eq_true rfl) dX3_skipBlanks_37 (fun H locs hP _ hS => ?_)
          have hP : va_P D vwCl (wC cI cB cZ ad cBad cFul cCnt cOpc cStp cTsz cRcn (wcPlc_1 + (1 : Int32)) cFlt cVil cLsz cRts cLns cOpn cGps cTrl cWgt cRch cByt cWds cFst cSnd cSgn) H := hP
          refine lv_goto (tgt := 0) hx hb dX3_skipBlanks_40 (by decide) ?_
          exact ih _ _ _ _ _ hf hP hS (lv_sub hl [0] rfl) hE
  obtain ⟨owcPlc_1, hq, hf⟩ := ob hf
  try dsimp only at hf
  refine hL0 FU _ owcPlc_1 _ _ ls hq hP hS (lv_sub hl [0] rfl) (fun H locs ls hP hS hl => ?_)
  have e0 := Option.some.inj hf
  subst e0
  exact rm_v hx hb hr hlk hP hS dX3_skipBlanks_43

def fX3_readEnd (cTsz : Int32) (cPlc : Int32) (cFlt : Int32) (cByt : Nat → Int32)  : Option (Int32 × Int32) :=
  (if cFlt = (-1 : Int32) then ((fX3_skipBlanks cTsz cPlc cByt).bind fun qcPlc_1 => ((fX5_byteAt cTsz cByt qcPlc_1).bind fun r_2 => (if r_2 = (59 : Int32) then (some ((qcPlc_1 + (1 : Int32)), cFlt)) else (some (qcPlc_1, qcPlc_1))))) else (some (cPlc, cFlt)))
set_option maxRecDepth 100000 in
set_option maxHeartbeats 4000000 in
theorem ctX3_readEnd (l : Launch) (D : va_G) (cI cB cZ : ClassId) (ad : Nat → Nat) (A : Nat → Prop) (hAD : AD A ad 20) (cBad cFul cCnt cOpc cStp cTsz cRcn cPlc cFlt cVil cLsz : Int32) (cRts cLns cOpn cGps cTrl cWgt cRch cByt cWds cFst cSnd cSgn : Nat → Int32)  (zcPlc : Int32) (zcFlt : Int32) (hf : fX3_readEnd cTsz cPlc cFlt cByt = some (zcPlc, zcFlt)) : Met l yX3_readEnd wsX3_readEnd (rmN 2 41) (PR D (tyL cI cB cZ) (wC cI cB cZ ad cBad cFul cCnt cOpc cStp cTsz cRcn cPlc cFlt cVil cLsz cRts cLns cOpn cGps cTrl cWgt cRch cByt cWds cFst cSnd cSgn) [.ref (ad 13)]) (QV D (wC cI cB cZ ad cBad cFul cCnt cOpc cStp cTsz cRcn zcPlc zcFlt cVil cLsz cRts cLns cOpn cGps cTrl cWgt cRch cByt cWds cFst cSnd cSgn) A) 0 0 A := by
  refine mk_met cX3_readEnd 1 none (by decide) rfl (Nat.le_of_ble_eq_true rfl) ?_
  intro p e s m args below meth c ls hx hb hr hlk hml hown hts hPK hl
  obtain ⟨hP, hK⟩ := hPK
  replace hl : lv_has ls 1 [(0, .ref (ad 13))] := hl
  replace hown : s.vm.findClass RX3 = some m.cls := hown
  have hiX3 : ∀ w ∈ wsX30, w ∈ wsX3_readEnd := fun w h => List.mem_cons_of_mem _ (List.mem_append_left _ (List.mem_append_right _ h))
  have hS : va_S A s.heap s.heap [] := va_S.rf
  unfold fX3_readEnd at hf
  refine lv_aload_n hx hb dX3_readEnd_0 rfl (lv_at hl 0 rfl) ?_
  refine va_get (ci := 3) (v := .int cFlt) (C := RX3) (T := TX3) (N := 8) hx hb hts hiX3 hown hK hP 13 rfl rfl 6 (by decide) (hts _ (List.mem_of_getElem? (i := 1) rfl)) (fun _ h9 => h9) rfl dX3_readEnd_1 ?_
  refine lv_iconst (v := (-1 : Int32)) hx hb dX3_readEnd_4 (by decide) ?_
  refine lv_icmp_eq (tgt := 9) hx hb dX3_readEnd_5 (by decide) (fun hc => ?_) (fun hc => ?_)
  · replace hf := (if_pos hc).symm.trans hf
    refine lv_aload_n hx hb dX3_readEnd_9 rfl (lv_at hl 0 rfl) ?_
    obtain ⟨qcPlc_1, hq, hf⟩ := ob hf
    try dsimp only at hf
    refine mcVv 13 3 (As := []) (rest := []) ⟨hx, hb, hml, hown, hts⟩ (ctX3_skipBlanks l D cI cB cZ ad A hAD cBad cFul cCnt cOpc cStp cTsz cRcn cPlc cFlt cVil cLsz cRts cLns cOpn cGps cTrl cWgt cRch cByt cWds cFst cSnd cSgn  qcPlc_1 hq) (cwV 0 hts gX3_readEnd_X3_skipBlanks rfl rfl rfl (by decide +kernel) ⟨Nat.le_of_ble_eq_true rfl, Nat.le_of_ble_eq_true rfl⟩) hK hP hS rfl rfl rfl hl.1 rfl (Nat.le_of_ble_eq_true rfl) dX3_readEnd_10 ⟨Nat.zero_le _, Nat.zero_le _⟩ (fun H locs hP hS => ?_)
    refine lv_aload_n hx hb dX3_readEnd_13 rfl (lv_at hl 0 rfl) ?_
    refine va_get (ci := 3) (v := .ref (ad 11)) (C := RX3) (T := TX3) (N := 8) hx hb hts hiX3 hown hK hP 13 rfl rfl 4 (by decide) (hts _ (List.mem_of_getElem? (i := 2) rfl)) (fun _ h9 => h9) rfl dX3_readEnd_14 ?_
    refine lv_aload_n hx hb dX3_readEnd_17 rfl (lv_at hl 0 rfl) ?_
    refine va_get (ci := 3) (v := .int qcPlc_1) (C := RX3) (T := TX3) (N := 8) hx hb hts hiX3 hown hK hP 13 rfl rfl 5 (by decide) (hts _ (List.mem_of_getElem? (i := 3) rfl)) (fun _ h9 => h9) rfl dX3_readEnd_18 ?_
    obtain ⟨r_2, hq, hf⟩ := ob hf
    try dsimp only at hf
    refine rcV 11 5 (As := [.int qcPlc_1]) (rest := []) ⟨hx, hb, hml, hown, hts⟩ (ctX5_byteAt l D cI cB cZ ad cBad cFul cCnt cOpc cStp cTsz cRcn qcPlc_1 cFlt cVil cLsz cRts cLns cOpn cGps cTrl cWgt cRch cByt cWds cFst cSnd cSgn qcPlc_1 r_2 hq) (cwV 1 hts gX3_readEnd_X5_byteAt rfl rfl rfl (by decide +kernel) ⟨Nat.le_of_ble_eq_true rfl, Nat.le_of_ble_eq_true rfl⟩) hK hP rfl rfl rfl hl.1 rfl (Nat.le_of_ble_eq_true rfl) dX3_readEnd_21 ⟨Nat.zero_le _, Nat.zero_le _⟩ ?_
    refine lv_bipush (v := (59 : Int32)) hx hb dX3_readEnd_24 (by decide) ?_
    refine lv_icmp_ne (tgt := 42) hx hb dX3_readEnd_26 (by decide) (fun hc => ?_) (fun hc => ?_)
    · replace hf := (if_neg hc).symm.trans hf
      refine lv_aload_n hx hb dX3_readEnd_42 rfl (lv_at hl 0 rfl) ?_
      refine lv_aload_n hx hb dX3_readEnd_43 rfl (lv_at hl 0 rfl) ?_
      refine va_get (ci := 3) (v := .int qcPlc_1) (C := RX3) (T := TX3) (N := 8) hx hb hts hiX3 hown hK hP 13 rfl rfl 5 (by decide) (hts _ (List.mem_of_getElem? (i := 3) rfl)) (fun _ h9 => h9) rfl dX3_readEnd_44 ?_
      refine va_put (ci := 3) (v := .int qcPlc_1) (ty := .int) (C := RX3) (T := TX3) (N := 8) hx hb hts hiX3 tyX3 tyX3_ok nmX3 hown hK hP (wC_D hAD) hS 13 rfl rfl 6 (by decide) (hts _ (List.mem_of_getElem? (i := 1) rfl)) (fun _ h9 => h9) rfl (tyX3_ok 6 (by decide)) rfl rfl (Nat.le_of_ble_eq_true rfl) dX3_readEnd_47 (fun H locs hP _ hS => ?_)
      have hP : va_P D vwCl (wC cI cB cZ ad cBad cFul cCnt cOpc cStp cTsz cRcn qcPlc_1 qcPlc_1 cVil cLsz cRts cLns cOpn cGps cTrl cWgt cRch cByt cWds cFst cSnd cSgn) H := hP
      obtain ⟨e0, hz1⟩ := Prod.mk.inj (Option.some.inj hf)
      subst e0
      subst hz1
      exact rm_v hx hb hr hlk hP hS dX3_readEnd_50
    · replace hf := (if_pos hc).symm.trans hf
      refine lv_aload_n hx hb dX3_readEnd_29 rfl (lv_at hl 0 rfl) ?_
      refine lv_dup hx hb dX3_readEnd_30 rfl ?_
      refine va_get (ci := 3) (v := .int qcPlc_1) (C := RX3) (T := TX3) (N := 8) hx hb hts hiX3 hown hK hP 13 rfl rfl 5 (by decide) (hts _ (List.mem_of_getElem? (i := 3) rfl)) (fun _ h9 => h9) rfl dX3_readEnd_31 ?_
      refine lv_iconst (v := (1 : Int32)) hx hb dX3_readEnd_34 (by decide) ?_
      refine lv_iadd hx hb dX3_readEnd_35 ?_
      refine va_put (ci := 3) (v := .int (qcPlc_1 + (1 : Int32))) (ty := .int) (C := RX3) (T := TX3) (N := 8) hx hb hts hiX3 tyX3 tyX3_ok nmX3 hown hK hP (wC_D hAD) hS 13 rfl rfl 5 (by decide) (hts _ (List.mem_of_getElem? (i := 3) rfl)) (fun _ h9 => h9) rfl (tyX3_ok 5 (by decide)) rfl rfl (Nat.le_of_ble_eq_true rfl) dX3_readEnd_36 (fun H locs hP _ hS => ?_)
      have hP : va_P D vwCl (wC cI cB cZ ad cBad cFul cCnt cOpc cStp cTsz cRcn (qcPlc_1 + (1 : Int32)) cFlt cVil cLsz cRts cLns cOpn cGps cTrl cWgt cRch cByt cWds cFst cSnd cSgn) H := hP
      refine lv_goto (tgt := 50) hx hb dX3_readEnd_39 (by decide) ?_
      obtain ⟨e0, hz1⟩ := Prod.mk.inj (Option.some.inj hf)
      subst e0
      subst hz1
      exact rm_v hx hb hr hlk hP hS dX3_readEnd_50
  · replace hf := (if_neg hc).symm.trans hf
    obtain ⟨e0, hz1⟩ := Prod.mk.inj (Option.some.inj hf)
    subst e0
    subst hz1
    exact rm_v hx hb hr hlk hP hS dX3_readEnd_8

def fX3_keep_J49 (cVil : Int32) (p0 : Int32) (wcRcn_1 : Int32) (wcWds_2 : Nat → Int32) (wcFst_3 : Nat → Int32) (wcSnd_4 : Nat → Int32) : Option (Int32 × Int32 × (Nat → Int32) × (Nat → Int32) × (Nat → Int32)) :=
  (if p0 = 0 then (some (wcRcn_1, (cVil + (1 : Int32)), wcWds_2, wcFst_3, wcSnd_4)) else (some (wcRcn_1, cVil, wcWds_2, wcFst_3, wcSnd_4)))
def fX3_keep (cRcn : Int32) (cVil : Int32) (cWds : Nat → Int32) (cFst : Nat → Int32) (cSnd : Nat → Int32) (p0 : Int32) (p1 : Int32) (p2 : Int32) : Option (Int32 × Int32 × (Nat → Int32) × (Nat → Int32) × (Nat → Int32)) :=
  (if (30 : Int32) ≤ cRcn then (fX3_keep_J49 cVil p0 cRcn cWds cFst cSnd) else (if gI cRcn 30 then (if gI cRcn 30 then (if gI cRcn 30 then (fX3_keep_J49 cVil p0 (cRcn + (1 : Int32)) (upd cWds (cRcn).toNatClampNeg p0) (upd cFst (cRcn).toNatClampNeg p1) (upd cSnd (cRcn).toNatClampNeg p2)) else none) else none) else none))
set_option maxRecDepth 100000 in
set_option maxHeartbeats 4000000 in
theorem ctX3_keep (l : Launch) (D : va_G) (cI cB cZ : ClassId) (ad : Nat → Nat) (A : Nat → Prop) (hAD : AD A ad 20) (cBad cFul cCnt cOpc cStp cTsz cRcn cPlc cFlt cVil cLsz : Int32) (cRts cLns cOpn cGps cTrl cWgt cRch cByt cWds cFst cSnd cSgn : Nat → Int32) (p0 : Int32) (p1 : Int32) (p2 : Int32) (zcRcn : Int32) (zcVil : Int32) (zcWds : Nat → Int32) (zcFst : Nat → Int32) (zcSnd : Nat → Int32) (hf : fX3_keep cRcn cVil cWds cFst cSnd p0 p1 p2 = some (zcRcn, zcVil, zcWds, zcFst, zcSnd)) : Met l yX3_keep wsX3_keep (rmN 0 0) (PR D (tyL cI cB cZ) (wC cI cB cZ ad cBad cFul cCnt cOpc cStp cTsz cRcn cPlc cFlt cVil cLsz cRts cLns cOpn cGps cTrl cWgt cRch cByt cWds cFst cSnd cSgn) [.ref (ad 13), .int p0, .int p1, .int p2]) (QV D (wC cI cB cZ ad cBad cFul cCnt cOpc cStp cTsz zcRcn cPlc cFlt zcVil cLsz cRts cLns cOpn cGps cTrl cWgt cRch cByt zcWds zcFst zcSnd cSgn) A) 0 0 A := by
  refine mk_met cX3_keep 4 none (by decide) rfl (Nat.le_of_ble_eq_true rfl) ?_
  intro p e s m args below meth c ls hx hb hr hlk hml hown hts hPK hl
  obtain ⟨hP, hK⟩ := hPK
  replace hl : lv_has ls 4 [(0, .ref (ad 13)), (1, .int p0), (2, .int p1), (3, .int p2)] := hl
  replace hown : s.vm.findClass RX3 = some m.cls := hown
  have hiX3 : ∀ w ∈ wsX30, w ∈ wsX3_keep := fun w h => List.mem_cons_of_mem _ (List.mem_append_right _ h)
  have hS : va_S A s.heap s.heap [] := va_S.rf
  unfold fX3_keep at hf
  refine lv_aload_n hx hb dX3_keep_0 rfl (lv_at hl 0 rfl) ?_
  refine va_get (ci := 3) (v := .int cRcn) (C := RX3) (T := TX3) (N := 8) hx hb hts hiX3 hown hK hP 13 rfl rfl 3 (by decide) (hts _ (List.mem_of_getElem? (i := 1) rfl)) (fun _ h9 => h9) rfl dX3_keep_1 ?_
  refine lv_bipush (v := (30 : Int32)) hx hb dX3_keep_4 (by decide) ?_
  have hJ49 : ∀ (wcRcn_1 : Int32) (wcWds_2 : Nat → Int32) (wcFst_3 : Nat → Int32) (wcSnd_4 : Nat → Int32) (H : Heap) (locs : List Loc) (ls : Array Slot), fX3_keep_J49 cVil p0 wcRcn_1 wcWds_2 wcFst_3 wcSnd_4 = some (zcRcn, zcVil, zcWds, zcFst, zcSnd) → va_P D vwCl (wC cI cB cZ ad cBad cFul cCnt cOpc cStp cTsz wcRcn_1 cPlc cFlt cVil cLsz cRts cLns cOpn cGps cTrl cWgt cRch cByt wcWds_2 wcFst_3 wcSnd_4 cSgn) H → va_S A s.heap H locs → lv_has ls 4 [(0, .ref (ad 13)), (1, .int p0), (2, .int p1), (3, .int p2)] → W p l e (rmN 0 0) s m args below meth c H locs 0 0 (MQ below (QV D (wC cI cB cZ ad cBad cFul cCnt cOpc cStp cTsz zcRcn cPlc cFlt zcVil cLsz cRts cLns cOpn cGps cTrl cWgt cRch cByt zcWds zcFst zcSnd cSgn) A) args s 0 0 A) (F0 m 49 ls []) := by
    intro wcRcn_1 wcWds_2 wcFst_3 wcSnd_4 H locs ls hf hP hS hl
    unfold fX3_keep_J49 at hf
    refine lv_iload_n hx hb dX3_keep_49 rfl (lv_at hl 1 rfl) ?_
    refine lv_if_ne (tgt := 63) hx hb dX3_keep_50 (by decide) (fun hc => ?_) (fun hc => ?_)
    · replace hf := (if_neg hc).symm.trans hf
      obtain ⟨e0, hz1⟩ := Prod.mk.inj (Option.some.inj hf)
      obtain ⟨e1, hz2⟩ := Prod.mk.inj hz1
      obtain ⟨e2, hz3⟩ := Prod.mk.inj hz2
      obtain ⟨e3, hz4⟩ := Prod.mk.inj hz3
      subst e0
      subst e1
      subst e2
      subst e3
      subst hz4
      exact rm_v hx hb hr hlk hP hS dX3_keep_63
    · replace hf := (if_pos hc).symm.trans hf
      refine lv_aload_n hx hb dX3_keep_53 rfl (lv_at hl 0 rfl) ?_
      refine lv_dup hx hb dX3_keep_54 rfl ?_
      refine va_get (ci := 3) (v := .int cVil) (C := RX3) (T := TX3) (N := 8) hx hb hts hiX3 hown hK hP 13 rfl rfl 7 (by decide) (hts _ (List.mem_of_getElem? (i := 5) rfl)) (fun _ h9 => h9) rfl dX3_keep_55 ?_
      refine lv_iconst (v := (1 : Int32)) hx hb dX3_keep_58 (by decide) ?_
      refine lv_iadd hx hb dX3_keep_59 ?_
      refine va_put (ci := 3) (v := .int (cVil + (1 : Int32))) (ty := .int) (C := RX3) (T := TX3) (N := 8) hx hb hts hiX3 tyX3 tyX3_ok nmX3 hown hK hP (wC_D hAD) hS 13 rfl rfl 7 (by decide) (hts _ (List.mem_of_getElem? (i := 5) rfl)) (fun _ h9 => h9) rfl (tyX3_ok 7 (by decide)) rfl rfl (Nat.le_of_ble_eq_true rfl) dX3_keep_60 (fun H locs hP _ hS => ?_)
      have hP : va_P D vwCl (wC cI cB cZ ad cBad cFul cCnt cOpc cStp cTsz wcRcn_1 cPlc cFlt (cVil + (1 : Int32)) cLsz cRts cLns cOpn cGps cTrl cWgt cRch cByt wcWds_2 wcFst_3 wcSnd_4 cSgn) H := hP
      obtain ⟨e0, hz1⟩ := Prod.mk.inj (Option.some.inj hf)
      obtain ⟨e1, hz2⟩ := Prod.mk.inj hz1
      obtain ⟨e2, hz3⟩ := Prod.mk.inj hz2
      obtain ⟨e3, hz4⟩ := Prod.mk.inj hz3
      subst e0
      subst e1
      subst e2
      subst e3
      subst hz4
      exact rm_v hx hb hr hlk hP hS dX3_keep_63
  refine lv_icmp_ge (tgt := 49) hx hb dX3_keep_6 (by decide) (fun hc => ?_) (fun hc => ?_)
  · replace hf := (if_pos hc).symm.trans hf
    exact hJ49 _ _ _ _ _ _ _ hf hP hS (lv_sub hl [0, 1, 2, 3] rfl)
  · replace hf := (if_neg hc).symm.trans hf
    refine lv_aload_n hx hb dX3_keep_9 rfl (lv_at hl 0 rfl) ?_
    refine va_get (ci := 3) (v := .ref (ad 14)) (C := RX3) (T := TX3) (N := 8) hx hb hts hiX3 hown hK hP 13 rfl rfl 0 (by decide) (hts _ (List.mem_of_getElem? (i := 2) rfl)) (fun _ h9 => h9) rfl dX3_keep_10 ?_
    refine lv_aload_n hx hb dX3_keep_13 rfl (lv_at hl 0 rfl) ?_
    refine va_get (ci := 3) (v := .int cRcn) (C := RX3) (T := TX3) (N := 8) hx hb hts hiX3 hown hK hP 13 rfl rfl 3 (by decide) (hts _ (List.mem_of_getElem? (i := 1) rfl)) (fun _ h9 => h9) rfl dX3_keep_14 ?_
    refine lv_iload_n hx hb dX3_keep_17 rfl (lv_at hl 1 rfl) ?_
    obtain ⟨hg, hf⟩ := og hf
    refine va_iast hx hb hK hP (wC_D hAD) hS 14 0 rfl rfl (gI_in hg) dX3_keep_18 (fun H locs hP _ hS => ?_)
    have hP : va_P D vwCl (wC cI cB cZ ad cBad cFul cCnt cOpc cStp cTsz cRcn cPlc cFlt cVil cLsz cRts cLns cOpn cGps cTrl cWgt cRch cByt (upd cWds (cRcn).toNatClampNeg p0) cFst cSnd cSgn) H := hP
    refine lv_aload_n hx hb dX3_keep_19 rfl (lv_at hl 0 rfl) ?_
    refine va_get (ci := 3) (v := .ref (ad 15)) (C := RX3) (T := TX3) (N := 8) hx hb hts hiX3 hown hK hP 13 rfl rfl 1 (by decide) (hts _ (List.mem_of_getElem? (i := 3) rfl)) (fun _ h9 => h9) rfl dX3_keep_20 ?_
    refine lv_aload_n hx hb dX3_keep_23 rfl (lv_at hl 0 rfl) ?_
    refine va_get (ci := 3) (v := .int cRcn) (C := RX3) (T := TX3) (N := 8) hx hb hts hiX3 hown hK hP 13 rfl rfl 3 (by decide) (hts _ (List.mem_of_getElem? (i := 1) rfl)) (fun _ h9 => h9) rfl dX3_keep_24 ?_
    refine lv_iload_n hx hb dX3_keep_27 rfl (lv_at hl 2 rfl) ?_
    obtain ⟨hg, hf⟩ := og hf
    refine va_iast hx hb hK hP (wC_D hAD) hS 15 0 rfl rfl (gI_in hg) dX3_keep_28 (fun H locs hP _ hS => ?_)
    have hP : va_P D vwCl (wC cI cB cZ ad cBad cFul cCnt cOpc cStp cTsz cRcn cPlc cFlt cVil cLsz cRts cLns cOpn cGps cTrl cWgt cRch cByt (upd cWds (cRcn).toNatClampNeg p0) (upd cFst (cRcn).toNatClampNeg p1) cSnd cSgn) H := hP
    refine lv_aload_n hx hb dX3_keep_29 rfl (lv_at hl 0 rfl) ?_
    refine va_get (ci := 3) (v := .ref (ad 16)) (C := RX3) (T := TX3) (N := 8) hx hb hts hiX3 hown hK hP 13 rfl rfl 2 (by decide) (hts _ (List.mem_of_getElem? (i := 4) rfl)) (fun _ h9 => h9) rfl dX3_keep_30 ?_
    refine lv_aload_n hx hb dX3_keep_33 rfl (lv_at hl 0 rfl) ?_
    refine va_get (ci := 3) (v := .int cRcn) (C := RX3) (T := TX3) (N := 8) hx hb hts hiX3 hown hK hP 13 rfl rfl 3 (by decide) (hts _ (List.mem_of_getElem? (i := 1) rfl)) (fun _ h9 => h9) rfl dX3_keep_34 ?_
    refine lv_iload_n hx hb dX3_keep_37 rfl (lv_at hl 3 rfl) ?_
    obtain ⟨hg, hf⟩ := og hf
    refine va_iast hx hb hK hP (wC_D hAD) hS 16 0 rfl rfl (gI_in hg) dX3_keep_38 (fun H locs hP _ hS => ?_)
    have hP : va_P D vwCl (wC cI cB cZ ad cBad cFul cCnt cOpc cStp cTsz cRcn cPlc cFlt cVil cLsz cRts cLns cOpn cGps cTrl cWgt cRch cByt (upd cWds (cRcn).toNatClampNeg p0) (upd cFst (cRcn).toNatClampNeg p1) (upd cSnd (cRcn).toNatClampNeg p2) cSgn) H := hP
    refine lv_aload_n hx hb dX3_keep_39 rfl (lv_at hl 0 rfl) ?_
    refine lv_dup hx hb dX3_keep_40 rfl ?_
    refine va_get (ci := 3) (v := .int cRcn) (C := RX3) (T := TX3) (N := 8) hx hb hts hiX3 hown hK hP 13 rfl rfl 3 (by decide) (hts _ (List.mem_of_getElem? (i := 1) rfl)) (fun _ h9 => h9) rfl dX3_keep_41 ?_
    refine lv_iconst (v := (1 : Int32)) hx hb dX3_keep_44 (by decide) ?_
    refine lv_iadd hx hb dX3_keep_45 ?_
    refine va_put (ci := 3) (v := .int (cRcn + (1 : Int32))) (ty := .int) (C := RX3) (T := TX3) (N := 8) hx hb hts hiX3 tyX3 tyX3_ok nmX3 hown hK hP (wC_D hAD) hS 13 rfl rfl 3 (by decide) (hts _ (List.mem_of_getElem? (i := 1) rfl)) (fun _ h9 => h9) rfl (tyX3_ok 3 (by decide)) rfl rfl (Nat.le_of_ble_eq_true rfl) dX3_keep_46 (fun H locs hP _ hS => ?_)
    have hP : va_P D vwCl (wC cI cB cZ ad cBad cFul cCnt cOpc cStp cTsz (cRcn + (1 : Int32)) cPlc cFlt cVil cLsz cRts cLns cOpn cGps cTrl cWgt cRch cByt (upd cWds (cRcn).toNatClampNeg p0) (upd cFst (cRcn).toNatClampNeg p1) (upd cSnd (cRcn).toNatClampNeg p2) cSgn) H := hP
    exact hJ49 _ _ _ _ _ _ _ hf hP hS (lv_sub hl [0, 1, 2, 3] rfl)
