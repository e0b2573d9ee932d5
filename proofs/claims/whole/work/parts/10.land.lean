def fX8_isUpTo  (p0 : Int32) (p1 : Int32) : Option (Int32) :=
  (if p0 < 0 then (some (0 : Int32)) else (if p1 < p0 then (some (0 : Int32)) else (some (1 : Int32))))
set_option maxRecDepth 100000 in
set_option maxHeartbeats 4000000 in
theorem ctX8_isUpTo (l : Launch) (p0 : Int32) (p1 : Int32) (rv : Int32) (hf : fX8_isUpTo p0 p1 = some rv) : Met l yX8_isUpTo wsX8_isUpTo (rmN 0 0) (PS [.int p0, .int p1]) (SI rv) 0 0 (fun _ => False) := by
  refine mk_met cX8_isUpTo 2 (some .boolean) (by decide) rfl (Nat.le_of_ble_eq_true rfl) ?_
  intro p e s m args below meth c ls hx hb hr hlk hml hown hts _ hl
  replace hl : lv_has ls 2 [(0, .int p0), (1, .int p1)] := hl
  replace hown : s.vm.findClass RX8 = some m.cls := hown
  unfold fX8_isUpTo at hf
  refine lv_iload_n hx hb dX8_isUpTo_0 rfl (lv_at hl 0 rfl) ?_
  refine lv_if_lt (tgt := 13) hx hb dX8_isUpTo_1 (by decide) (fun hc => ?_) (fun hc => ?_)
  · replace hf := (if_pos hc).symm.trans hf
    refine lv_iconst (v := (0 : Int32)) hx hb dX8_isUpTo_13 (by decide) ?_
    exact re_z hx hb hr hlk (by decide) dX8_isUpTo_14 hf
  · replace hf := (if_neg hc).symm.trans hf
    refine lv_iload_n hx hb dX8_isUpTo_4 rfl (lv_at hl 0 rfl) ?_
    refine lv_iload_n hx hb dX8_isUpTo_5 rfl (lv_at hl 1 rfl) ?_
    refine lv_icmp_gt (tgt := 13) hx hb dX8_isUpTo_6 (by decide) (fun hc => ?_) (fun hc => ?_)
    · replace hf := (if_pos hc).symm.trans hf
      refine lv_iconst (v := (0 : Int32)) hx hb dX8_isUpTo_13 (by decide) ?_
      exact re_z hx hb hr hlk (by decide) dX8_isUpTo_14 hf
    · replace hf := (if_neg hc).symm.trans hf
      refine lv_iconst (v := (1 : Int32)) hx hb dX8_isUpTo_9 (by decide) ?_
      refine lv_goto (tgt := 14) hx hb dX8_isUpTo_10 (by decide) ?_
      exact re_z hx hb hr hlk (by decide) dX8_isUpTo_14 hf

def fX8_isLength  (p0 : Int32) : Option (Int32) :=
  (if p0 < (1 : Int32) then (some (0 : Int32)) else (if (99 : Int32) < p0 then (some (0 : Int32)) else (some (1 : Int32))))
set_option maxRecDepth 100000 in
set_option maxHeartbeats 4000000 in
theorem ctX8_isLength (l : Launch) (p0 : Int32) (rv : Int32) (hf : fX8_isLength p0 = some rv) : Met l yX8_isLength wsX8_isLength (rmN 0 0) (PS [.int p0]) (SI rv) 0 0 (fun _ => False) := by
  refine mk_met cX8_isLength 1 (some .boolean) (by decide) rfl (Nat.le_of_ble_eq_true rfl) ?_
  intro p e s m args below meth c ls hx hb hr hlk hml hown hts _ hl
  replace hl : lv_has ls 1 [(0, .int p0)] := hl
  replace hown : s.vm.findClass RX8 = some m.cls := hown
  unfold fX8_isLength at hf
  refine lv_iload_n hx hb dX8_isLength_0 rfl (lv_at hl 0 rfl) ?_
  refine lv_iconst (v := (1 : Int32)) hx hb dX8_isLength_1 (by decide) ?_
  refine lv_icmp_lt (tgt := 15) hx hb dX8_isLength_2 (by decide) (fun hc => ?_) (fun hc => ?_)
  · replace hf := (if_pos hc).symm.trans hf
    refine lv_iconst (v := (0 : Int32)) hx hb dX8_isLength_15 (by decide) ?_
    exact re_z hx hb hr hlk (by decide) dX8_isLength_16 hf
  · replace hf := (if_neg hc).symm.trans hf
    refine lv_iload_n hx hb dX8_isLength_5 rfl (lv_at hl 0 rfl) ?_
    refine lv_bipush (v := (99 : Int32)) hx hb dX8_isLength_6 (by decide) ?_
    refine lv_icmp_gt (tgt := 15) hx hb dX8_isLength_8 (by decide) (fun hc => ?_) (fun hc => ?_)
    · replace hf := (if_pos hc).symm.trans hf
      refine lv_iconst (v := (0 : Int32)) hx hb dX8_isLength_15 (by decide) ?_
      exact re_z hx hb hr hlk (by decide) dX8_isLength_16 hf
    · replace hf := (if_neg hc).symm.trans hf
      refine lv_iconst (v := (1 : Int32)) hx hb dX8_isLength_11 (by decide) ?_
      refine lv_goto (tgt := 16) hx hb dX8_isLength_12 (by decide) ?_
      exact re_z hx hb hr hlk (by decide) dX8_isLength_16 hf

def fX1_has (cCnt : Int32) (p0 : Int32) : Option (Int32) :=
  (if p0 < 0 then (some (0 : Int32)) else (if cCnt ≤ p0 then (some (0 : Int32)) else (some (1 : Int32))))
set_option maxRecDepth 100000 in
set_option maxHeartbeats 4000000 in
theorem ctX1_has (l : Launch) (D : va_G) (cI cB cZ : ClassId) (ad : Nat → Nat) (cBad cFul cCnt cOpc cStp cTsz cRcn cPlc cFlt cVil cLsz : Int32) (cRts cLns cOpn cGps cTrl cWgt cRch cByt cWds cFst cSnd cSgn : Nat → Int32) (p0 : Int32) (rv : Int32) (hf : fX1_has cCnt p0 = some rv) : Met l yX1_has wsX1_has (rmN 0 0) (PR D (tyL cI cB cZ) (wC cI cB cZ ad cBad cFul cCnt cOpc cStp cTsz cRcn cPlc cFlt cVil cLsz cRts cLns cOpn cGps cTrl cWgt cRch cByt cWds cFst cSnd cSgn) [.ref (ad 1), .int p0]) (SI rv) 0 0 (fun _ => False) := by
  refine mk_met cX1_has 2 (some .boolean) (by decide) rfl (Nat.le_of_ble_eq_true rfl) ?_
  intro p e s m args below meth c ls hx hb hr hlk hml hown hts hPK hl
  obtain ⟨hP, hK⟩ := hPK
  replace hl : lv_has ls 2 [(0, .ref (ad 1)), (1, .int p0)] := hl
  replace hown : s.vm.findClass RX1 = some m.cls := hown
  have hiX1 : ∀ w ∈ wsX10, w ∈ wsX1_has := fun w h => List.mem_cons_of_mem _ (List.mem_append_right _ h)
  unfold fX1_has at hf
  refine lv_iload_n hx hb dX1_has_0 rfl (lv_at hl 1 rfl) ?_
  refine lv_if_lt (tgt := 16) hx hb dX1_has_1 (by decide) (fun hc => ?_) (fun hc => ?_)
  · replace hf := (if_pos hc).symm.trans hf
    refine lv_iconst (v := (0 : Int32)) hx hb dX1_has_16 (by decide) ?_
    exact re_z hx hb hr hlk (by decide) dX1_has_17 hf
  · replace hf := (if_neg hc).symm.trans hf
    refine lv_iload_n hx hb dX1_has_4 rfl (lv_at hl 1 rfl) ?_
    refine lv_aload_n hx hb dX1_has_5 rfl (lv_at hl 0 rfl) ?_
    refine va_get (ci := 1) (v := .int cCnt) (C := RX1) (T := TX1) (N := 6) hx hb hts hiX1 hown hK hP 1 rfl rfl 4 (by decide) (hts _ (List.mem_of_getElem? (i := 1) rfl)) (fun _ h9 => h9) rfl dX1_has_6 ?_
    refine lv_icmp_ge (tgt := 16) hx hb dX1_has_9 (by decide) (fun hc => ?_) (fun hc => ?_)
    · replace hf := (if_pos hc).symm.trans hf
      refine lv_iconst (v := (0 : Int32)) hx hb dX1_has_16 (by decide) ?_
      exact re_z hx hb hr hlk (by decide) dX1_has_17 hf
    · replace hf := (if_neg hc).symm.trans hf
      refine lv_iconst (v := (1 : Int32)) hx hb dX1_has_12 (by decide) ?_
      refine lv_goto (tgt := 17) hx hb dX1_has_13 (by decide) ?_
      exact re_z hx hb hr hlk (by decide) dX1_has_17 hf

def fX1_gap (cGps : Nat → Int32) (p0 : Int32) (p1 : Int32) : Option (Int32) :=
  (if ((p0 * (60 : Int32)) + p1) < 0 then (some (0 : Int32)) else (if (3600 : Int32) ≤ ((p0 * (60 : Int32)) + p1) then (some (0 : Int32)) else (if gI ((p0 * (60 : Int32)) + p1) 3600 then (some (cGps ((p0 * (60 : Int32)) + p1).toNatClampNeg)) else none)))
set_option maxRecDepth 100000 in
set_option maxHeartbeats 4000000 in
theorem ctX1_gap (l : Launch) (D : va_G) (cI cB cZ : ClassId) (ad : Nat → Nat) (cBad cFul cCnt cOpc cStp cTsz cRcn cPlc cFlt cVil cLsz : Int32) (cRts cLns cOpn cGps cTrl cWgt cRch cByt cWds cFst cSnd cSgn : Nat → Int32) (p0 : Int32) (p1 : Int32) (rv : Int32) (hf : fX1_gap cGps p0 p1 = some rv) : Met l yX1_gap wsX1_gap (rmN 0 0) (PR D (tyL cI cB cZ) (wC cI cB cZ ad cBad cFul cCnt cOpc cStp cTsz cRcn cPlc cFlt cVil cLsz cRts cLns cOpn cGps cTrl cWgt cRch cByt cWds cFst cSnd cSgn) [.ref (ad 1), .int p0, .int p1]) (SI rv) 0 0 (fun _ => False) := by
  refine mk_met cX1_gap 4 (some .int) (by decide) rfl (Nat.le_of_ble_eq_true rfl) ?_
  intro p e s m args below meth c ls hx hb hr hlk hml hown hts hPK hl
  obtain ⟨hP, hK⟩ := hPK
  replace hl : lv_has ls 4 [(0, .ref (ad 1)), (1, .int p0), (2, .int p1)] := hl
  replace hown : s.vm.findClass RX1 = some m.cls := hown
  have hiX1 : ∀ w ∈ wsX10, w ∈ wsX1_gap := fun w h => List.mem_cons_of_mem _ (List.mem_append_right _ h)
  unfold fX1_gap at hf
  refine lv_iload_n hx hb dX1_gap_0 rfl (lv_at hl 1 rfl) ?_
  refine lv_bipush (v := (60 : Int32)) hx hb dX1_gap_1 (by decide) ?_
  refine lv_imul hx hb dX1_gap_3 ?_
  refine lv_iload_n hx hb dX1_gap_4 rfl (lv_at hl 2 rfl) ?_
  refine lv_iadd hx hb dX1_gap_5 ?_
  refine lv_istore_n (lv' := [(3, .int ((p0 * (60 : Int32)) + p1)), (0, .ref (ad 1)), (1, .int p0), (2, .int p1)]) hx hb dX1_gap_6 rfl hl (by decide) rfl (fun ls hl => ?_)
  refine lv_iload_n hx hb dX1_gap_7 rfl (lv_at hl 0 rfl) ?_
  refine lv_if_lt (tgt := 29) hx hb dX1_gap_8 (by decide) (fun hc => ?_) (fun hc => ?_)
  · replace hf := (if_pos hc).symm.trans hf
    refine lv_iconst (v := (0 : Int32)) hx hb dX1_gap_29 (by decide) ?_
    exact re_i hx hb hr hlk dX1_gap_30 hf
  · replace hf := (if_neg hc).symm.trans hf
    refine lv_iload_n hx hb dX1_gap_11 rfl (lv_at hl 0 rfl) ?_
    refine lv_aload_n hx hb dX1_gap_12 rfl (lv_at hl 1 rfl) ?_
    refine va_get (ci := 1) (v := .ref (ad 5)) (C := RX1) (T := TX1) (N := 6) hx hb hts hiX1 hown hK hP 1 rfl rfl 3 (by decide) (hts _ (List.mem_of_getElem? (i := 1) rfl)) (fun _ h9 => h9) rfl dX1_gap_13 ?_
    refine va_alen hx hb hK hP 5 0 rfl rfl (v := (3600 : Int32)) rfl dX1_gap_16 ?_
    refine lv_icmp_ge (tgt := 29) hx hb dX1_gap_17 (by decide) (fun hc => ?_) (fun hc => ?_)
    · replace hf := (if_pos hc).symm.trans hf
      refine lv_iconst (v := (0 : Int32)) hx hb dX1_gap_29 (by decide) ?_
      exact re_i hx hb hr hlk dX1_gap_30 hf
    · replace hf := (if_neg hc).symm.trans hf
      refine lv_aload_n hx hb dX1_gap_20 rfl (lv_at hl 1 rfl) ?_
      refine va_get (ci := 1) (v := .ref (ad 5)) (C := RX1) (T := TX1) (N := 6) hx hb hts hiX1 hown hK hP 1 rfl rfl 3 (by decide) (hts _ (List.mem_of_getElem? (i := 1) rfl)) (fun _ h9 => h9) rfl dX1_gap_21 ?_
      refine lv_iload_n hx hb dX1_gap_24 rfl (lv_at hl 0 rfl) ?_
      obtain ⟨hg, hf⟩ := og hf
      refine va_iald hx hb hK hP 5 0 rfl rfl (gI_in hg) dX1_gap_25 ?_
      refine lv_goto (tgt := 30) hx hb dX1_gap_26 (by decide) ?_
      exact re_i hx hb hr hlk dX1_gap_30 hf

def fX1_measure_L9 (cCnt : Int32) (cRts : Nat → Int32) (cLns : Nat → Int32) (p0 : Int32) (kk : (Int32 × (Nat → Int32)) → Option (Int32 × (Nat → Int32))) (ww : Int32 × (Nat → Int32)) : Option (Int32 × (Nat → Int32)) :=
  match ww with
  | (v3_1, wcGps_2) => (if p0 ≤ v3_1 then (some (v3_1, wcGps_2)) else ((fX1_has cCnt (cRts (p0).toNatClampNeg)).bind fun r_3 => (if r_3 = 0 then (some (v3_1, wcGps_2)) else ((fX1_gap wcGps_2 (cRts (p0).toNatClampNeg) v3_1).bind fun r_4 => (if gI p0 60 then (if gI ((p0 * (60 : Int32)) + v3_1) 3600 then (if gI ((v3_1 * (60 : Int32)) + p0) 3600 then (kk ((v3_1 + (1 : Int32)), (upd (upd wcGps_2 ((p0 * (60 : Int32)) + v3_1).toNatClampNeg (r_4 + (cLns (p0).toNatClampNeg))) ((v3_1 * (60 : Int32)) + p0).toNatClampNeg (r_4 + (cLns (p0).toNatClampNeg))))) else none) else none) else none)))))
def fX1_measure (cCnt : Int32) (cRts : Nat → Int32) (cLns : Nat → Int32) (cGps : Nat → Int32) (p0 : Int32) : Option ((Nat → Int32)) :=
  (if gI p0 60 then ((lp (fX1_measure_L9 cCnt cRts cLns p0) FU ((0 : Int32), cGps)).bind fun (ov3_1, owcGps_2) => (some owcGps_2)) else none)
set_option maxRecDepth 100000 in
set_option maxHeartbeats 4000000 in
theorem ctX1_measure (l : Launch) (D : va_G) (cI cB cZ : ClassId) (ad : Nat → Nat) (A : Nat → Prop) (hAD : AD A ad 20) (cBad cFul cCnt cOpc cStp cTsz cRcn cPlc cFlt cVil cLsz : Int32) (cRts cLns cOpn cGps cTrl cWgt cRch cByt cWds cFst cSnd cSgn : Nat → Int32) (p0 : Int32) (zcGps : Nat → Int32) (hf : fX1_measure cCnt cRts cLns cGps p0 = some zcGps) : Met l yX1_measure wsX1_measure (rmN 1 23) (PR D (tyL cI cB cZ) (wC cI cB cZ ad cBad cFul cCnt cOpc cStp cTsz cRcn cPlc cFlt cVil cLsz cRts cLns cOpn cGps cTrl cWgt cRch cByt cWds cFst cSnd cSgn) [.ref (ad 1), .int p0]) (QV D (wC cI cB cZ ad cBad cFul cCnt cOpc cStp cTsz cRcn cPlc cFlt cVil cLsz cRts cLns cOpn zcGps cTrl cWgt cRch cByt cWds cFst cSnd cSgn) A) 0 0 A := by
  refine mk_met cX1_measure 5 none (by decide) rfl (Nat.le_of_ble_eq_true rfl) ?_
  intro p e s m args below meth c ls hx hb hr hlk hml hown hts hPK hl
  obtain ⟨hP, hK⟩ := hPK
  replace hl : lv_has ls 5 [(0, .ref (ad 1)), (1, .int p0)] := hl
  replace hown : s.vm.findClass RX1 = some m.cls := hown
  have hiX1 : ∀ w ∈ wsX10, w ∈ wsX1_measure := fun w h => List.mem_cons_of_mem _ (List.mem_append_right _ h)
  have hS : va_S A s.heap s.heap [] := va_S.rf
  unfold fX1_measure at hf
  refine lv_aload_n hx hb dX1_measure_0 rfl (lv_at hl 0 rfl) ?_
  refine va_get (ci := 1) (v := .ref (ad 2)) (C := RX1) (T := TX1) (N := 6) hx hb hts hiX1 hown hK hP 1 rfl rfl 0 (by decide) (hts _ (List.mem_of_getElem? (i := 1) rfl)) (fun _ h9 => h9) rfl dX1_measure_1 ?_
  refine lv_iload_n hx hb dX1_measure_4 rfl (lv_at hl 1 rfl) ?_
  obtain ⟨hg, hf⟩ := og hf
  refine va_iald hx hb hK hP 2 0 rfl rfl (gI_in hg) dX1_measure_5 ?_
  refine lv_istore_n (lv' := [(2, .int (cRts (p0).toNatClampNeg)), (0, .ref (ad 1)), (1, .int p0)]) hx hb dX1_measure_6 rfl hl (by decide) rfl (fun ls hl => ?_)
  refine lv_iconst (v := (0 : Int32)) hx hb dX1_measure_7 (by decide) ?_
  refine lv_istore_n (lv' := [(3, .int (0 : Int32)), (2, .int (cRts (p0).toNatClampNeg)), (0, .ref (ad 1)), (1, .int p0)]) hx hb dX1_measure_8 rfl hl (by decide) rfl (fun ls hl => ?_)
  have hL9 : ∀ (n : Nat) (v3_1 : Int32) (wcGps_2 : Nat → Int32) (ov3_1 : Int32) (owcGps_2 : Nat → Int32) (H : Heap) (locs : List Loc) (ls : Array Slot), lp (fX1_measure_L9 cCnt cRts cLns p0) n (v3_1, wcGps_2) = some (ov3_1, owcGps_2) → va_P D vwCl (wC cI cB cZ ad cBad cFul cCnt cOpc cStp cTsz cRcn cPlc cFlt cVil cLsz cRts cLns cOpn wcGps_2 cTrl cWgt cRch cByt cWds cFst cSnd cSgn) H → va_S A s.heap H locs → lv_has ls 5 [(0, .ref (ad 1)), (1, .int p0), (2, .int (cRts (p0).toNatClampNeg)), (3, .int v3_1)] → (∀ (H : Heap) (locs : List Loc) (ls : Array Slot), va_P D vwCl (wC cI cB cZ ad cBad cFul cCnt cOpc cStp cTsz cRcn cPlc cFlt cVil cLsz cRts cLns cOpn owcGps_2 cTrl cWgt cRch cByt cWds cFst cSnd cSgn) H → va_S A s.heap H locs → lv_has ls 5 [(0, .ref (ad 1)), (1, .int p0), (2, .int (cRts (p0).toNatClampNeg)), (3, .int ov3_1)] → W p l e (rmN 1 23) s m args below meth c H locs 0 0 (MQ below (QV D (wC cI cB cZ ad cBad cFul cCnt cOpc cStp cTsz cRcn cPlc cFlt cVil cLsz cRts cLns cOpn zcGps cTrl cWgt cRch cByt cWds cFst cSnd cSgn) A) args s 0 0 A) (F0 m 69 ls [])) → W p l e (rmN 1 23) s m args below meth c H locs 0 0 (MQ below (QV D (wC cI cB cZ ad cBad cFul cCnt cOpc cStp cTsz cRcn cPlc cFlt cVil cLsz cRts cLns cOpn zcGps cTrl cWgt cRch cByt cWds cFst cSnd cSgn) A) args s 0 0 A) (F0 m 9 ls []) := by
    intro n
    induction n with
    | zero => intro v3_1 wcGps_2 ov3_1 owcGps_2 H locs ls hf; exact (lp_0 hf).elim
    | succ n ih =>
      intro v3_1 wcGps_2 ov3_1 owcGps_2 H locs ls hf hP hS hl hE
      replace hf := lp_s hf
      dsimp only [fX1_measure_L9] at hf
      refine lv_iload_n hx hb dX1_measure_9 rfl (lv_at hl 3 rfl) ?_
      refine lv_iload_n hx hb dX1_measure_10 rfl (lv_at hl 1 rfl) ?_
      refine lv_icmp_ge (tgt := 69) hx hb dX1_measure_11 (by decide) (fun hc => ?_) (fun hc => ?_)
      · replace hf := (if_pos hc).symm.trans hf
        cases hf
        exact hE _ _ _ hP hS (lv_sub hl [0, 1, 2, 3] rfl)
      · replace hf := (if_neg hc).symm.trans hf
        refine lv_aload_n hx hb dX1_measure_14 rfl (lv_at hl 0 rfl) ?_
        refine lv_iload_n hx hb dX1_measure_15 rfl (lv_at hl 2 rfl) ?_
        obtain ⟨r_3, hq, hf⟩ := ob hf
        try dsimp only at hf
        refine rcV 1 1 (As := [.int (cRts (p0).toNatClampNeg)]) (rest := []) ⟨hx, hb, hml, hown, hts⟩ (ctX1_has l D cI cB cZ ad cBad cFul cCnt cOpc cStp cTsz cRcn cPlc cFlt cVil cLsz cRts cLns cOpn wcGps_2 cTrl cWgt cRch cByt cWds cFst cSnd cSgn (cRts (p0).toNatClampNeg) r_3 hq) (cwV 1 hts gX1_measure_X1_has rfl rfl rfl (by decide +kernel) ⟨Nat.le_of_ble_eq_true rfl, Nat.le_of_ble_eq_true rfl⟩) hK hP rfl rfl rfl hl.1 rfl (Nat.le_of_ble_eq_true rfl) dX1_measure_16 ⟨Nat.zero_le _, Nat.zero_le _⟩ ?_
        refine lv_if_eq (tgt := 69) hx hb dX1_measure_19 (by decide) (fun hc => ?_) (fun hc => ?_)
        · replace hf := (if_pos hc).symm.trans hf
          cases hf
          exact hE _ _ _ hP hS (lv_sub hl [0, 1, 2, 3] rfl)
        · replace hf := (if_neg hc).symm.trans hf
          refine lv_aload_n hx hb dX1_measure_22 rfl (lv_at hl 0 rfl) ?_
          refine lv_iload_n hx hb dX1_measure_23 rfl (lv_at hl 2 rfl) ?_
          refine lv_iload_n hx hb dX1_measure_24 rfl (lv_at hl 3 rfl) ?_
          obtain ⟨r_4, hq, hf⟩ := ob hf
          try dsimp only at hf
          refine rcV 1 1 (As := [.int (cRts (p0).toNatClampNeg), .int v3_1]) (rest := []) ⟨hx, hb, hml, hown, hts⟩ (ctX1_gap l D cI cB cZ ad cBad cFul cCnt cOpc cStp cTsz cRcn cPlc cFlt cVil cLsz cRts cLns cOpn wcGps_2 cTrl cWgt cRch cByt cWds cFst cSnd cSgn (cRts (p0).toNatClampNeg) v3_1 r_4 hq) (cwV 2 hts gX1_measure_X1_gap rfl rfl rfl (by decide +kernel) ⟨Nat.le_of_ble_eq_true rfl, Nat.le_of_ble_eq_true rfl⟩) hK hP rfl rfl rfl hl.1 rfl (Nat.le_of_ble_eq_true rfl) dX1_measure_25 ⟨Nat.zero_le _, Nat.zero_le _⟩ ?_
          refine lv_aload_n hx hb dX1_measure_28 rfl (lv_at hl 0 rfl) ?_
          refine va_get (ci := 1) (v := .ref (ad 3)) (C := RX1) (T := TX1) (N := 6) hx hb hts hiX1 hown hK hP 1 rfl rfl 1 (by decide) (hts _ (List.mem_of_getElem? (i := 2) rfl)) (fun _ h9 => h9) rfl dX1_measure_29 ?_
          refine lv_iload_n hx hb dX1_measure_32 rfl (lv_at hl 1 rfl) ?_
          obtain ⟨hg, hf⟩ := og hf
          refine va_iald hx hb hK hP 3 0 rfl rfl (gI_in hg) dX1_measure_33 ?_
          refine lv_iadd hx hb dX1_measure_34 ?_
          refine lv_istore (lv' := [(4, .int (r_4 + (cLns (p0).toNatClampNeg))), (0, .ref (ad 1)), (1, .int p0), (2, .int (cRts (p0).toNatClampNeg)), (3, .int v3_1)]) hx hb dX1_measure_35 hl (by decide) rfl (fun ls hl => ?_)
          refine lv_aload_n hx hb dX1_measure_37 rfl (lv_at hl 1 rfl) ?_
          refine va_get (ci := 1) (v := .ref (ad 5)) (C := RX1) (T := TX1) (N := 6) hx hb hts hiX1 hown hK hP 1 rfl rfl 3 (by decide) (hts _ (List.mem_of_getElem? (i := 3) rfl)) (fun _ h9 => h9) rfl dX1_measure_38 ?_
          refine lv_iload_n hx hb dX1_measure_41 rfl (lv_at hl 2 rfl) ?_
          refine lv_bipush (v := (60 : Int32)) hx hb dX1_measure_42 (by decide) ?_
          refine lv_imul hx hb dX1_measure_44 ?_
          refine lv_iload_n hx hb dX1_measure_45 rfl (lv_at hl 4 rfl) ?_
          refine lv_iadd hx hb dX1_measure_46 ?_
          refine lv_iload hx hb dX1_measure_47 (lv_at hl 0 rfl) ?_
          obtain ⟨hg, hf⟩ := og hf
          refine va_iast hx hb hK hP (wC_D hAD) hS 5 0 rfl rfl (gI_in hg) dX1_measure_49 (fun H locs hP _ hS => ?_)
          have hP : va_P D vwCl (wC cI cB cZ ad cBad cFul cCnt cOpc cStp cTsz cRcn cPlc cFlt cVil cLsz cRts cLns cOpn (upd wcGps_2 ((p0 * (60 : Int32)) + v3_1).toNatClampNeg (r_4 + (cLns (p0).toNatClampNeg))) cTrl cWgt cRch cByt cWds cFst cSnd cSgn) H := hP
          refine lv_aload_n hx hb dX1_measure_50 rfl (lv_at hl 1 rfl) ?_
          refine va_get (ci := 1) (v := .ref (ad 5)) (C := RX1) (T := TX1) (N := 6) hx hb hts hiX1 hown hK hP 1 rfl rfl 3 (by decide) (hts _ (List.mem_of_getElem? (i := 3) rfl)) (fun _ h9 => h9) rfl dX1_measure_51 ?_
          refine lv_iload_n hx hb dX1_measure_54 rfl (lv_at hl 4 rfl) ?_
          refine lv_bipush (v := (60 : Int32)) hx hb dX1_measure_55 (by decide) ?_
          refine lv_imul hx hb dX1_measure_57 ?_
          refine lv_iload_n hx hb dX1_measure_58 rfl (lv_at hl 2 rfl) ?_
          refine lv_iadd hx hb dX1_measure_59 ?_
          refine lv_iload hx hb dX1_measure_60 (lv_at hl 0 rfl) ?_
          obtain ⟨hg, hf⟩ := og hf
          refine va_iast hx hb hK hP (wC_D hAD) hS 5 0 rfl rfl (gI_in hg) dX1_measure_62 (fun H locs hP _ hS => ?_)
          have hP : va_P D vwCl (wC cI cB cZ ad cBad cFul cCnt cOpc cStp cTsz cRcn cPlc cFlt cVil cLsz cRts cLns cOpn (upd (upd wcGps_2 ((p0 * (60 : Int32)) + v3_1).toNatClampNeg (r_4 + (cLns (p0).toNatClampNeg))) ((v3_1 * (60 : Int32)) + p0).toNatClampNeg (r_4 + (cLns (p0).toNatClampNeg))) cTrl cWgt cRch cByt cWds cFst cSnd cSgn) H := hP
          refine lv_iinc (v := (v3_1 + (1 : Int32))) (lv' := [(3, .int (v3_1 + (1 : Int32))), (4, .int (r_4 + (cLns (p0).toNatClampNeg))), (0, .ref (ad 1)), (1, .int p0), (2, .int (cRts (p0).toNatClampNeg))]) hx hb dX1_measure_63 hl (k := 4) rfl rfl (by decide) rfl (fun ls hl => ?_)
          refine lv_goto (tgt := 9) hx hb dX1_measure_66 (by decide) ?_
          exact ih _ _ _ _ _ _ _ hf hP hS (lv_sub hl [2, 3, 4, 0] rfl) hE
  obtain ⟨⟨ov3_1, owcGps_2⟩, hq, hf⟩ := ob hf
  try dsimp only at hf
  refine hL9 FU _ _ ov3_1 owcGps_2 _ _ ls hq hP hS (lv_sub hl [2, 3, 1, 0] rfl) (fun H locs ls hP hS hl => ?_)
  have e0 := Option.some.inj hf
  subst e0
  exact rm_v hx hb hr hlk hP hS dX1_measure_69

def fX1_settle (cCnt : Int32) (cRts : Nat → Int32) (cLns : Nat → Int32) (cOpn : Nat → Int32) (cGps : Nat → Int32) (p0 : Int32) (p1 : Int32) : Option (Int32 × Int32 × (Nat → Int32) × (Nat → Int32) × (Nat → Int32) × (Nat → Int32)) :=
  ((fX1_has cCnt p0).bind fun r_1 => (if r_1 = 0 then (some ((-1 : Int32), cCnt, cRts, cLns, cOpn, cGps)) else (if cCnt < (60 : Int32) then (if gI cCnt 60 then (if gI cCnt 60 then (if gI cCnt 60 then ((fX1_measure (cCnt + (1 : Int32)) (upd cRts (cCnt).toNatClampNeg p0) (upd cLns (cCnt).toNatClampNeg p1) cGps cCnt).bind fun qcGps_2 => (some (cCnt, (cCnt + (1 : Int32)), (upd cRts (cCnt).toNatClampNeg p0), (upd cLns (cCnt).toNatClampNeg p1), (upd cOpn (cCnt).toNatClampNeg (vp_nar .boolean (0 : Int32))), qcGps_2))) else none) else none) else none) else (some ((-1 : Int32), cCnt, cRts, cLns, cOpn, cGps)))))
set_option maxRecDepth 100000 in
set_option maxHeartbeats 4000000 in
theorem ctX1_settle (l : Launch) (D : va_G) (cI cB cZ : ClassId) (ad : Nat → Nat) (A : Nat → Prop) (hAD : AD A ad 20) (cBad cFul cCnt cOpc cStp cTsz cRcn cPlc cFlt cVil cLsz : Int32) (cRts cLns cOpn cGps cTrl cWgt cRch cByt cWds cFst cSnd cSgn : Nat → Int32) (p0 : Int32) (p1 : Int32) (rv : Int32) (zcCnt : Int32) (zcRts : Nat → Int32) (zcLns : Nat → Int32) (zcOpn : Nat → Int32) (zcGps : Nat → Int32) (hf : fX1_settle cCnt cRts cLns cOpn cGps p0 p1 = some (rv, zcCnt, zcRts, zcLns, zcOpn, zcGps)) : Met l yX1_settle wsX1_settle (rmN 2 47) (PR D (tyL cI cB cZ) (wC cI cB cZ ad cBad cFul cCnt cOpc cStp cTsz cRcn cPlc cFlt cVil cLsz cRts cLns cOpn cGps cTrl cWgt cRch cByt cWds cFst cSnd cSgn) [.ref (ad 1), .int p0, .int p1]) (QI D (wC cI cB cZ ad cBad cFul zcCnt cOpc cStp cTsz cRcn cPlc cFlt cVil cLsz zcRts zcLns zcOpn zcGps cTrl cWgt cRch cByt cWds cFst cSnd cSgn) A rv) 0 0 A := by
  refine mk_met cX1_settle 4 (some .int) (by decide) rfl (Nat.le_of_ble_eq_true rfl) ?_
  intro p e s m args below meth c ls hx hb hr hlk hml hown hts hPK hl
  obtain ⟨hP, hK⟩ := hPK
  replace hl : lv_has ls 4 [(0, .ref (ad 1)), (1, .int p0), (2, .int p1)] := hl
  replace hown : s.vm.findClass RX1 = some m.cls := hown
  have hiX1 : ∀ w ∈ wsX10, w ∈ wsX1_settle := fun w h => List.mem_cons_of_mem _ (List.mem_append_right _ h)
  have hS : va_S A s.heap s.heap [] := va_S.rf
  unfold fX1_settle at hf
  refine lv_aload_n hx hb dX1_settle_0 rfl (lv_at hl 0 rfl) ?_
  refine lv_iload_n hx hb dX1_settle_1 rfl (lv_at hl 1 rfl) ?_
  obtain ⟨r_1, hq, hf⟩ := ob hf
  try dsimp only at hf
  refine rcV 1 1 (As := [.int p0]) (rest := []) ⟨hx, hb, hml, hown, hts⟩ (ctX1_has l D cI cB cZ ad cBad cFul cCnt cOpc cStp cTsz cRcn cPlc cFlt cVil cLsz cRts cLns cOpn cGps cTrl cWgt cRch cByt cWds cFst cSnd cSgn p0 r_1 hq) (cwV 1 hts gX1_settle_X1_has rfl rfl rfl (by decide +kernel) ⟨Nat.le_of_ble_eq_true rfl, Nat.le_of_ble_eq_true rfl⟩) hK hP rfl rfl rfl hl.1 rfl (Nat.le_of_ble_eq_true rfl) dX1_settle_2 ⟨Nat.zero_le _, Nat.zero_le _⟩ ?_
  refine lv_if_eq (tgt := 17) hx hb dX1_settle_5 (by decide) (fun hc => ?_) (fun hc => ?_)
  · replace hf := (if_pos hc).symm.trans hf
    refine lv_iconst (v := (-1 : Int32)) hx hb dX1_settle_17 (by decide) ?_
    obtain ⟨e0, hz1⟩ := Prod.mk.inj (Option.some.inj hf)
    obtain ⟨e1, hz2⟩ := Prod.mk.inj hz1
    obtain ⟨e2, hz3⟩ := Prod.mk.inj hz2
    obtain ⟨e3, hz4⟩ := Prod.mk.inj hz3
    obtain ⟨e4, hz5⟩ := Prod.mk.inj hz4
    subst e0
    subst e1
    subst e2
    subst e3
    subst e4
    subst hz5
    exact rm_i hx hb hr hlk hP hS dX1_settle_18
  · replace hf := (if_neg hc).symm.trans hf
    refine lv_aload_n hx hb dX1_settle_8 rfl (lv_at hl 0 rfl) ?_
    refine va_get (ci := 1) (v := .int cCnt) (C := RX1) (T := TX1) (N := 6) hx hb hts hiX1 hown hK hP 1 rfl rfl 4 (by decide) (hts _ (List.mem_of_getElem? (i := 1) rfl)) (fun _ h9 => h9) rfl dX1_settle_9 ?_
    refine lv_bipush (v := (60 : Int32)) hx hb dX1_settle_12 (by decide) ?_
    refine lv_icmp_lt (tgt := 19) hx hb dX1_settle_14 (by decide) (fun hc => ?_) (fun hc => ?_)
    · replace hf := (if_pos hc).symm.trans hf
      refine lv_aload_n hx hb dX1_settle_19 rfl (lv_at hl 0 rfl) ?_
      refine va_get (ci := 1) (v := .int cCnt) (C := RX1) (T := TX1) (N := 6) hx hb hts hiX1 hown hK hP 1 rfl rfl 4 (by decide) (hts _ (List.mem_of_getElem? (i := 1) rfl)) (fun _ h9 => h9) rfl dX1_settle_20 ?_
      refine lv_istore_n (lv' := [(3, .int cCnt), (0, .ref (ad 1)), (1, .int p0), (2, .int p1)]) hx hb dX1_settle_23 rfl hl (by decide) rfl (fun ls hl => ?_)
      refine lv_aload_n hx hb dX1_settle_24 rfl (lv_at hl 1 rfl) ?_
      refine lv_dup hx hb dX1_settle_25 rfl ?_
      refine va_get (ci := 1) (v := .int cCnt) (C := RX1) (T := TX1) (N := 6) hx hb hts hiX1 hown hK hP 1 rfl rfl 4 (by decide) (hts _ (List.mem_of_getElem? (i := 1) rfl)) (fun _ h9 => h9) rfl dX1_settle_26 ?_
      refine lv_iconst (v := (1 : Int32)) hx hb dX1_settle_29 (by decide) ?_
      refine lv_iadd hx hb dX1_settle_30 ?_
      refine va_put (ci := 1) (v := .int (cCnt + (1 : Int32))) (ty := .int) (C := RX1) (T := TX1) (N := 6) hx hb hts hiX1 tyX1 tyX1_ok nmX1 hown hK hP (wC_D hAD) hS 1 rfl rfl 4 (by decide) (hts _ (List.mem_of_getElem? (i := 1) rfl)) (fun _ h9 => h9) rfl (tyX1_ok 4 (by decide)) rfl rfl (Nat.le_of_ble_eq_true rfl) dX1_settle_31 (fun H locs hP _ hS => ?_)
      have hP : va_P D vwCl (wC cI cB cZ ad cBad cFul (cCnt + (1 : Int32)) cOpc cStp cTsz cRcn cPlc cFlt cVil cLsz cRts cLns cOpn cGps cTrl cWgt cRch cByt cWds cFst cSnd cSgn) H := hP
      refine lv_aload_n hx hb dX1_settle_34 rfl (lv_at hl 1 rfl) ?_
      refine va_get (ci := 1) (v := .ref (ad 2)) (C := RX1) (T := TX1) (N := 6) hx hb hts hiX1 hown hK hP 1 rfl rfl 0 (by decide) (hts _ (List.mem_of_getElem? (i := 2) rfl)) (fun _ h9 => h9) rfl dX1_settle_35 ?_
      refine lv_iload_n hx hb dX1_settle_38 rfl (lv_at hl 0 rfl) ?_
      refine lv_iload_n hx hb dX1_settle_39 rfl (lv_at hl 2 rfl) ?_
      obtain ⟨hg, hf⟩ := og hf
      refine va_iast hx hb hK hP (wC_D hAD) hS 2 0 rfl rfl (gI_in hg) dX1_settle_40 (fun H locs hP _ hS => ?_)
      have hP : va_P D vwCl (wC cI cB cZ ad cBad cFul (cCnt + (1 : Int32)) cOpc cStp cTsz cRcn cPlc cFlt cVil cLsz (upd cRts (cCnt).toNatClampNeg p0) cLns cOpn cGps cTrl cWgt cRch cByt cWds cFst cSnd cSgn) H := hP
      refine lv_aload_n hx hb dX1_settle_41 rfl (lv_at hl 1 rfl) ?_
      refine va_get (ci := 1) (v := .ref (ad 3)) (C := RX1) (T := TX1) (N := 6) hx hb hts hiX1 hown hK hP 1 rfl rfl 1 (by decide) (hts _ (List.mem_of_getElem? (i := 3) rfl)) (fun _ h9 => h9) rfl dX1_settle_42 ?_
      refine lv_iload_n hx hb dX1_settle_45 rfl (lv_at hl 0 rfl) ?_
      refine lv_iload_n hx hb dX1_settle_46 rfl (lv_at hl 3 rfl) ?_
      obtain ⟨hg, hf⟩ := og hf
      refine va_iast hx hb hK hP (wC_D hAD) hS 3 0 rfl rfl (gI_in hg) dX1_settle_47 (fun H locs hP _ hS => ?_)
      have hP : va_P D vwCl (wC cI cB cZ ad cBad cFul (cCnt + (1 : Int32)) cOpc cStp cTsz cRcn cPlc cFlt cVil cLsz (upd cRts (cCnt).toNatClampNeg p0) (upd cLns (cCnt).toNatClampNeg p1) cOpn cGps cTrl cWgt cRch cByt cWds cFst cSnd cSgn) H := hP
      refine lv_aload_n hx hb dX1_settle_48 rfl (lv_at hl 1 rfl) ?_
      refine va_get (ci := 1) (v := .ref (ad 4)) (C := RX1) (T := TX1) (N := 6) hx hb hts hiX1 hown hK hP 1 rfl rfl 2 (by decide) (hts _ (List.mem_of_getElem? (i := 4) rfl)) (fun _ h9 => h9) rfl dX1_settle_49 ?_
      refine lv_iload_n hx hb dX1_settle_52 rfl (lv_at hl 0 rfl) ?_
      refine lv_iconst (v := (0 : Int32)) hx hb dX1_settle_53 (by decide) ?_
      obtain ⟨hg, hf⟩ := og hf
      refine va_zast hx hb hK hP (wC_D hAD) hS 4 2 rfl rfl (gI_in hg) dX1_settle_54 (fun H locs hP _ hS => ?_)
      have hP : va_P D vwCl (wC cI cB cZ ad cBad cFul (cCnt + (1 : Int32)) cOpc cStp cTsz cRcn cPlc cFlt cVil cLsz (upd cRts (cCnt).toNatClampNeg p0) (upd cLns (cCnt).toNatClampNeg p1) (upd cOpn (cCnt).toNatClampNeg (vp_nar .boolean (0 : Int32))) cGps cTrl cWgt cRch cByt cWds cFst cSnd cSgn) H := hP
      refine lv_aload_n hx hb dX1_settle_55 rfl (lv_at hl 1 rfl) ?_
      refine lv_iload_n hx hb dX1_settle_56 rfl (lv_at hl 0 rfl) ?_
      obtain ⟨qcGps_2, hq, hf⟩ := ob hf
      try dsimp only at hf
      refine mcVv 1 1 (As := [.int cCnt]) (rest := []) ⟨hx, hb, hml, hown, hts⟩ (ctX1_measure l D cI cB cZ ad A hAD cBad cFul (cCnt + (1 : Int32)) cOpc cStp cTsz cRcn cPlc cFlt cVil cLsz (upd cRts (cCnt).toNatClampNeg p0) (upd cLns (cCnt).toNatClampNeg p1) (upd cOpn (cCnt).toNatClampNeg (vp_nar .boolean (0 : Int32))) cGps cTrl cWgt cRch cByt cWds cFst cSnd cSgn cCnt qcGps_2 hq) (cwV 1 hts gX1_settle_X1_measure rfl rfl rfl (by decide +kernel) ⟨Nat.le_of_ble_eq_true rfl, Nat.le_of_ble_eq_true rfl⟩) hK hP hS rfl rfl rfl hl.1 rfl (Nat.le_of_ble_eq_true rfl) dX1_settle_57 ⟨Nat.zero_le _, Nat.zero_le _⟩ (fun H locs hP hS => ?_)
      refine lv_iload_n hx hb dX1_settle_60 rfl (lv_at hl 0 rfl) ?_
      obtain ⟨e0, hz1⟩ := Prod.mk.inj (Option.some.inj hf)
      obtain ⟨e1, hz2⟩ := Prod.mk.inj hz1
      obtain ⟨e2, hz3⟩ := Prod.mk.inj hz2
      obtain ⟨e3, hz4⟩ := Prod.mk.inj hz3
      obtain ⟨e4, hz5⟩ := Prod.mk.inj hz4
      subst e0
      subst e1
      subst e2
      subst e3
      subst e4
      subst hz5
      exact rm_i hx hb hr hlk hP hS dX1_settle_61
    · replace hf := (if_neg hc).symm.trans hf
      refine lv_iconst (v := (-1 : Int32)) hx hb dX1_settle_17 (by decide) ?_
      obtain ⟨e0, hz1⟩ := Prod.mk.inj (Option.some.inj hf)
      obtain ⟨e1, hz2⟩ := Prod.mk.inj hz1
      obtain ⟨e2, hz3⟩ := Prod.mk.inj hz2
      obtain ⟨e3, hz4⟩ := Prod.mk.inj hz3
      obtain ⟨e4, hz5⟩ := Prod.mk.inj hz4
      subst e0
      subst e1
      subst e2
      subst e3
      subst e4
      subst hz5
      exact rm_i hx hb hr hlk hP hS dX1_settle_18

def fX1_setDepot_J41 (cOpc : Int32) (cOpn : Nat → Int32) (p0 : Int32) (p1 : Int32) (t_2 : Int32) : Option (Int32 × Int32 × (Nat → Int32)) :=
  (some ((1 : Int32), (cOpc + t_2), (upd cOpn (p0).toNatClampNeg (vp_nar .boolean p1))))
def fX1_setDepot (cCnt : Int32) (cOpc : Int32) (cOpn : Nat → Int32) (p0 : Int32) (p1 : Int32) : Option (Int32 × Int32 × (Nat → Int32)) :=
  ((fX1_has cCnt p0).bind fun r_1 => (if r_1 = 0 then (some ((0 : Int32), cOpc, cOpn)) else (if gI p0 60 then (if (cOpn (p0).toNatClampNeg) = p1 then (some ((0 : Int32), cOpc, cOpn)) else (if gI p0 60 then (if p1 = 0 then (fX1_setDepot_J41 cOpc cOpn p0 p1 (-1 : Int32)) else (fX1_setDepot_J41 cOpc cOpn p0 p1 (1 : Int32))) else none)) else none)))
set_option maxRecDepth 100000 in
set_option maxHeartbeats 4000000 in
theorem ctX1_setDepot (l : Launch) (D : va_G) (cI cB cZ : ClassId) (ad : Nat → Nat) (A : Nat → Prop) (hAD : AD A ad 20) (cBad cFul cCnt cOpc cStp cTsz cRcn cPlc cFlt cVil cLsz : Int32) (cRts cLns cOpn cGps cTrl cWgt cRch cByt cWds cFst cSnd cSgn : Nat → Int32) (p0 : Int32) (p1 : Int32) (rv : Int32) (zcOpc : Int32) (zcOpn : Nat → Int32) (hf : fX1_setDepot cCnt cOpc cOpn p0 p1 = some (rv, zcOpc, zcOpn)) : Met l yX1_setDepot wsX1_setDepot (rmN 1 21) (PR D (tyL cI cB cZ) (wC cI cB cZ ad cBad cFul cCnt cOpc cStp cTsz cRcn cPlc cFlt cVil cLsz cRts cLns cOpn cGps cTrl cWgt cRch cByt cWds cFst cSnd cSgn) [.ref (ad 1), .int p0, .int p1]) (QI D (wC cI cB cZ ad cBad cFul cCnt zcOpc cStp cTsz cRcn cPlc cFlt cVil cLsz cRts cLns zcOpn cGps cTrl cWgt cRch cByt cWds cFst cSnd cSgn) A rv) 0 0 A := by
  refine mk_met cX1_setDepot 3 (some .int) (by decide) rfl (Nat.le_of_ble_eq_true rfl) ?_
  intro p e s m args below meth c ls hx hb hr hlk hml hown hts hPK hl
  obtain ⟨hP, hK⟩ := hPK
  replace hl : lv_has ls 3 [(0, .ref (ad 1)), (1, .int p0), (2, .int p1)] := hl
  replace hown : s.vm.findClass RX1 = some m.cls := hown
  have hiX1 : ∀ w ∈ wsX10, w ∈ wsX1_setDepot := fun w h => List.mem_cons_of_mem _ (List.mem_append_right _ h)
  have hS : va_S A s.heap s.heap [] := va_S.rf
  unfold fX1_setDepot at hf
  refine lv_aload_n hx hb dX1_setDepot_0 rfl (lv_at hl 0 rfl) ?_
  refine lv_iload_n hx hb dX1_setDepot_1 rfl (lv_at hl 1 rfl) ?_
  obtain ⟨r_1, hq, hf⟩ := ob hf
  try dsimp only at hf
  refine rcV 1 1 (As := [.int p0]) (rest := []) ⟨hx, hb, hml, hown, hts⟩ (ctX1_has l D cI cB cZ ad cBad cFul cCnt cOpc cStp cTsz cRcn cPlc cFlt cVil cLsz cRts cLns cOpn cGps cTrl cWgt cRch cByt cWds cFst cSnd cSgn p0 r_1 hq) (cwV 1 hts gX1_setDepot_X1_has rfl rfl rfl (by decide +kernel) ⟨Nat.le_of_ble_eq_true rfl, Nat.le_of_ble_eq_true rfl⟩) hK hP rfl rfl rfl hl.1 rfl (Nat.le_of_ble_eq_true rfl) dX1_setDepot_2 ⟨Nat.zero_le _, Nat.zero_le _⟩ ?_
  refine lv_if_eq (tgt := 18) hx hb dX1_setDepot_5 (by decide) (fun hc => ?_) (fun hc => ?_)
  · replace hf := (if_pos hc).symm.trans hf
    refine lv_iconst (v := (0 : Int32)) hx hb dX1_setDepot_18 (by decide) ?_
    obtain ⟨e0, hz1⟩ := Prod.mk.inj (Option.some.inj hf)
    obtain ⟨e1, hz2⟩ := Prod.mk.inj hz1
    subst e0
    subst e1
    subst hz2
    exact rm_i hx hb hr hlk hP hS dX1_setDepot_19
  · replace hf := (if_neg hc).symm.trans hf
    refine lv_aload_n hx hb dX1_setDepot_8 rfl (lv_at hl 0 rfl) ?_
    refine va_get (ci := 1) (v := .ref (ad 4)) (C := RX1) (T := TX1) (N := 6) hx hb hts hiX1 hown hK hP 1 rfl rfl 2 (by decide) (hts _ (List.mem_of_getElem? (i := 1) rfl)) (fun _ h9 => h9) rfl dX1_setDepot_9 ?_
    refine lv_iload_n hx hb dX1_setDepot_12 rfl (lv_at hl 1 rfl) ?_
    obtain ⟨hg, hf⟩ := og hf
    refine va_zald hx hb hK hP 4 2 rfl rfl (gI_in hg) dX1_setDepot_13 ?_
    refine lv_iload_n hx hb dX1_setDepot_14 rfl (lv_at hl 2 rfl) ?_
    refine lv_icmp_ne (tgt := 20) hx hb dX1_setDepot_15 (by decide) (fun hc => ?_) (fun hc => ?_)
    · replace hf := (if_neg hc).symm.trans hf
      refine lv_aload_n hx hb dX1_setDepot_20 rfl (lv_at hl 0 rfl) ?_
      refine va_get (ci := 1) (v := .ref (ad 4)) (C := RX1) (T := TX1) (N := 6) hx hb hts hiX1 hown hK hP 1 rfl rfl 2 (by decide) (hts _ (List.mem_of_getElem? (i := 1) rfl)) (fun _ h9 => h9) rfl dX1_setDepot_21 ?_
      refine lv_iload_n hx hb dX1_setDepot_24 rfl (lv_at hl 1 rfl) ?_
      refine lv_iload_n hx hb dX1_setDepot_25 rfl (lv_at hl 2 rfl) ?_
      obtain ⟨hg, hf⟩ := og hf
      refine va_zast hx hb hK hP (wC_D hAD) hS 4 2 rfl rfl (gI_in hg) dX1_setDepot_26 (fun H locs hP _ hS => ?_)
      have hP : va_P D vwCl (wC cI cB cZ ad cBad cFul cCnt cOpc cStp cTsz cRcn cPlc cFlt cVil cLsz cRts cLns (upd cOpn (p0).toNatClampNeg (vp_nar .boolean p1)) cGps cTrl cWgt cRch cByt cWds cFst cSnd cSgn) H := hP
      refine lv_aload_n hx hb dX1_setDepot_27 rfl (lv_at hl 0 rfl) ?_
      refine lv_dup hx hb dX1_setDepot_28 rfl ?_
      refine va_get (ci := 1) (v := .int cOpc) (C := RX1) (T := TX1) (N := 6) hx hb hts hiX1 hown hK hP 1 rfl rfl 5 (by decide) (hts _ (List.mem_of_getElem? (i := 2) rfl)) (fun _ h9 => h9) rfl dX1_setDepot_29 ?_
      refine lv_iload_n hx hb dX1_setDepot_32 rfl (lv_at hl 2 rfl) ?_
      have hJ41 : ∀ (t_2 : Int32) (H : Heap) (locs : List Loc) (ls : Array Slot), fX1_setDepot_J41 cOpc cOpn p0 p1 t_2 = some (rv, zcOpc, zcOpn) → va_P D vwCl (wC cI cB cZ ad cBad cFul cCnt cOpc cStp cTsz cRcn cPlc cFlt cVil cLsz cRts cLns (upd cOpn (p0).toNatClampNeg (vp_nar .boolean p1)) cGps cTrl cWgt cRch cByt cWds cFst cSnd cSgn) H → va_S A s.heap H locs → lv_has ls 3 [(0, .ref (ad 1)), (1, .int p0), (2, .int p1)] → W p l e (rmN 1 21) s m args below meth c H locs 0 0 (MQ below (QI D (wC cI cB cZ ad cBad cFul cCnt zcOpc cStp cTsz cRcn cPlc cFlt cVil cLsz cRts cLns zcOpn cGps cTrl cWgt cRch cByt cWds cFst cSnd cSgn) A rv) args s 0 0 A) (F0 m 41 ls [.int t_2, .int cOpc, .ref (ad 1)]) := by
        intro t_2 H locs ls hf hP hS hl
        unfold fX1_setDepot_J41 at hf
        refine lv_iadd hx hb dX1_setDepot_41 ?_
        refine va_put (ci := 1) (v := .int (cOpc + t_2)) (ty := .int) (C := RX1) (T := TX1) (N := 6) hx hb hts hiX1 tyX1 tyX1_ok nmX1 hown hK hP (wC_D hAD) hS 1 rfl rfl 5 (by decide) (hts _ (List.mem_of_getElem? (i := 2) rfl)) (fun _ h9 => h9) rfl (tyX1_ok 5 (by decide)) rfl rfl (Nat.le_of_ble_eq_true rfl) dX1_setDepot_42 (fun H locs hP _ hS => ?_)
        have hP : va_P D vwCl (wC cI cB cZ ad cBad cFul cCnt (cOpc + t_2) cStp cTsz cRcn cPlc cFlt cVil cLsz cRts cLns (upd cOpn (p0).toNatClampNeg (vp_nar .boolean p1)) cGps cTrl cWgt cRch cByt cWds cFst cSnd cSgn) H := hP
        refine lv_iconst (v := (1 : Int32)) hx hb dX1_setDepot_45 (by decide) ?_
        obtain ⟨e0, hz1⟩ := Prod.mk.inj (Option.some.inj hf)
        obtain ⟨e1, hz2⟩ := Prod.mk.inj hz1
        subst e0
        subst e1
        subst hz2
        exact rm_i hx hb hr hlk hP hS dX1_setDepot_46
      refine lv_if_eq (tgt := 40) hx hb dX1_setDepot_33 (by decide) (fun hc => ?_) (fun hc => ?_)
      · replace hf := (if_pos hc).symm.trans hf
        refine lv_iconst (v := (-1 : Int32)) hx hb dX1_setDepot_40 (by decide) ?_
        exact hJ41 _ _ _ _ hf hP hS (lv_sub hl [0, 1, 2] rfl)
      · replace hf := (if_neg hc).symm.trans hf
        refine lv_iconst (v := (1 : Int32)) hx hb dX1_setDepot_36 (by decide) ?_
        refine lv_goto (tgt := 41) hx hb dX1_setDepot_37 (by decide) ?_
        exact hJ41 _ _ _ _ hf hP hS (lv_sub hl [0, 1, 2] rfl)
    · replace hf := (if_pos hc).symm.trans hf
      refine lv_iconst (v := (0 : Int32)) hx hb dX1_setDepot_18 (by decide) ?_
      obtain ⟨e0, hz1⟩ := Prod.mk.inj (Option.some.inj hf)
      obtain ⟨e1, hz2⟩ := Prod.mk.inj hz1
      subst e0
      subst e1
      subst hz2
      exact rm_i hx hb hr hlk hP hS dX1_setDepot_19

def fX1_setRoad_L27 (cCnt : Int32) (cRts : Nat → Int32) (cLns : Nat → Int32) (p0 : Int32) (p1 : Int32) (kk : (Int32 × (Nat → Int32)) → Option (Int32 × (Nat → Int32))) (ww : Int32 × (Nat → Int32)) : Option (Int32 × (Nat → Int32)) :=
  match ww with
  | (v4_2, wcGps_3) => (if cCnt ≤ v4_2 then (some (v4_2, wcGps_3)) else ((fX1_measure cCnt cRts (upd cLns (p0).toNatClampNeg p1) wcGps_3 v4_2).bind fun qcGps_4 => (kk ((v4_2 + (1 : Int32)), qcGps_4))))
def fX1_setRoad (cCnt : Int32) (cRts : Nat → Int32) (cLns : Nat → Int32) (cGps : Nat → Int32) (p0 : Int32) (p1 : Int32) : Option (Int32 × (Nat → Int32) × (Nat → Int32)) :=
  ((fX1_has cCnt p0).bind fun r_1 => (if r_1 = 0 then (some ((-1 : Int32), cLns, cGps)) else (if gI p0 60 then (if gI p0 60 then ((lp (fX1_setRoad_L27 cCnt cRts cLns p0 p1) FU (p0, cGps)).bind fun (ov4_2, owcGps_3) => (some ((cLns (p0).toNatClampNeg), (upd cLns (p0).toNatClampNeg p1), owcGps_3))) else none) else none)))
set_option maxRecDepth 100000 in
set_option maxHeartbeats 4000000 in
theorem ctX1_setRoad (l : Launch) (D : va_G) (cI cB cZ : ClassId) (ad : Nat → Nat) (A : Nat → Prop) (hAD : AD A ad 20) (cBad cFul cCnt cOpc cStp cTsz cRcn cPlc cFlt cVil cLsz : Int32) (cRts cLns cOpn cGps cTrl cWgt cRch cByt cWds cFst cSnd cSgn : Nat → Int32) (p0 : Int32) (p1 : Int32) (rv : Int32) (zcLns : Nat → Int32) (zcGps : Nat → Int32) (hf : fX1_setRoad cCnt cRts cLns cGps p0 p1 = some (rv, zcLns, zcGps)) : Met l yX1_setRoad wsX1_setRoad (rmN 2 47) (PR D (tyL cI cB cZ) (wC cI cB cZ ad cBad cFul cCnt cOpc cStp cTsz cRcn cPlc cFlt cVil cLsz cRts cLns cOpn cGps cTrl cWgt cRch cByt cWds cFst cSnd cSgn) [.ref (ad 1), .int p0, .int p1]) (QI D (wC cI cB cZ ad cBad cFul cCnt cOpc cStp cTsz cRcn cPlc cFlt cVil cLsz cRts zcLns cOpn zcGps cTrl cWgt cRch cByt cWds cFst cSnd cSgn) A rv) 0 0 A := by
  refine mk_met cX1_setRoad 5 (some .int) (by decide) rfl (Nat.le_of_ble_eq_true rfl) ?_
  intro p e s m args below meth c ls hx hb hr hlk hml hown hts hPK hl
  obtain ⟨hP, hK⟩ := hPK
  replace hl : lv_has ls 5 [(0, .ref (ad 1)), (1, .int p0), (2, .int p1)] := hl
  replace hown : s.vm.findClass RX1 = some m.cls := hown
  have hiX1 : ∀ w ∈ wsX10, w ∈ wsX1_setRoad := fun w h => List.mem_cons_of_mem _ (List.mem_append_right _ h)
  have hS : va_S A s.heap s.heap [] := va_S.rf
  unfold fX1_setRoad at hf
  refine lv_aload_n hx hb dX1_setRoad_0 rfl (lv_at hl 0 rfl) ?_
  refine lv_iload_n hx hb dX1_setRoad_1 rfl (lv_at hl 1 rfl) ?_
  obtain ⟨r_1, hq, hf⟩ := ob hf
  try dsimp only at hf
  refine rcV 1 1 (As := [.int p0]) (rest := []) ⟨hx, hb, hml, hown, hts⟩ (ctX1_has l D cI cB cZ ad cBad cFul cCnt cOpc cStp cTsz cRcn cPlc cFlt cVil cLsz cRts cLns cOpn cGps cTrl cWgt cRch cByt cWds cFst cSnd cSgn p0 r_1 hq) (cwV 1 hts gX1_setRoad_X1_has rfl rfl rfl (by decide +kernel) ⟨Nat.le_of_ble_eq_true rfl, Nat.le_of_ble_eq_true rfl⟩) hK hP rfl rfl rfl hl.1 rfl (Nat.le_of_ble_eq_true rfl) dX1_setRoad_2 ⟨Nat.zero_le _, Nat.zero_le _⟩ ?_
  refine lv_if_ne (tgt := 10) hx hb dX1_setRoad_5 (by decide) (fun hc => ?_) (fun hc => ?_)
  · replace hf := (if_neg hc).symm.trans hf
    refine lv_aload_n hx hb dX1_setRoad_10 rfl (lv_at hl 0 rfl) ?_
    refine va_get (ci := 1) (v := .ref (ad 3)) (C := RX1) (T := TX1) (N := 6) hx hb hts hiX1 hown hK hP 1 rfl rfl 1 (by decide) (hts _ (List.mem_of_getElem? (i := 1) rfl)) (fun _ h9 => h9) rfl dX1_setRoad_11 ?_
    refine lv_iload_n hx hb dX1_setRoad_14 rfl (lv_at hl 1 rfl) ?_
    obtain ⟨hg, hf⟩ := og hf
    refine va_iald hx hb hK hP 3 0 rfl rfl (gI_in hg) dX1_setRoad_15 ?_
    refine lv_istore_n (lv' := [(3, .int (cLns (p0).toNatClampNeg)), (0, .ref (ad 1)), (1, .int p0), (2, .int p1)]) hx hb dX1_setRoad_16 rfl hl (by decide) rfl (fun ls hl => ?_)
    refine lv_aload_n hx hb dX1_setRoad_17 rfl (lv_at hl 1 rfl) ?_
    refine va_get (ci := 1) (v := .ref (ad 3)) (C := RX1) (T := TX1) (N := 6) hx hb hts hiX1 hown hK hP 1 rfl rfl 1 (by decide) (hts _ (List.mem_of_getElem? (i := 1) rfl)) (fun _ h9 => h9) rfl dX1_setRoad_18 ?_
    refine lv_iload_n hx hb dX1_setRoad_21 rfl (lv_at hl 2 rfl) ?_
    refine lv_iload_n hx hb dX1_setRoad_22 rfl (lv_at hl 3 rfl) ?_
    obtain ⟨hg, hf⟩ := og hf
    refine va_iast hx hb hK hP (wC_D hAD) hS 3 0 rfl rfl (gI_in hg) dX1_setRoad_23 (fun H locs hP _ hS => ?_)
    have hP : va_P D vwCl (wC cI cB cZ ad cBad cFul cCnt cOpc cStp cTsz cRcn cPlc cFlt cVil cLsz cRts (upd cLns (p0).toNatClampNeg p1) cOpn cGps cTrl cWgt cRch cByt cWds cFst cSnd cSgn) H := hP
    refine lv_iload_n hx hb dX1_setRoad_24 rfl (lv_at hl 2 rfl) ?_
    refine lv_istore (lv' := [(4, .int p0), (3, .int (cLns (p0).toNatClampNeg)), (0, .ref (ad 1)), (1, .int p0), (2, .int p1)]) hx hb dX1_setRoad_25 hl (by decide) rfl (fun ls hl => ?_)
    have hL27 : ∀ (n : Nat) (v4_2 : Int32) (wcGps_3 : Nat → Int32) (ov4_2 : Int32) (owcGps_3 : Nat → Int32) (H : Heap) (locs : List Loc) (ls : Array Slot), lp (fX1_setRoad_L27 cCnt cRts cLns p0 p1) n (v4_2, wcGps_3) = some (ov4_2, owcGps_3) → va_P D vwCl (wC cI cB cZ ad cBad cFul cCnt cOpc cStp cTsz cRcn cPlc cFlt cVil cLsz cRts (upd cLns (p0).toNatClampNeg p1) cOpn wcGps_3 cTrl cWgt cRch cByt cWds cFst cSnd cSgn) H → va_S A s.heap H locs → lv_has ls 5 [(0, .ref (ad 1)), (1, .int p0), (2, .int p1), (3, .int (cLns (p0).toNatClampNeg)), (4, .int v4_2)] → (∀ (H : Heap) (locs : List Loc) (ls : Array Slot), va_P D vwCl (wC cI cB cZ ad cBad cFul cCnt cOpc cStp cTsz cRcn cPlc cFlt cVil cLsz cRts (upd cLns (p0).toNatClampNeg p1) cOpn owcGps_3 cTrl cWgt cRch cByt cWds cFst cSnd cSgn) H → va_S A s.heap H locs → lv_has ls 5 [(0, .ref (ad 1)), (1, .int p0), (2, .int p1), (3, .int (cLns (p0).toNatClampNeg)), (4, .int ov4_2)] → W p l e (rmN 2 47) s m args below meth c H locs 0 0 (MQ below (QI D (wC cI cB cZ ad cBad cFul cCnt cOpc cStp cTsz cRcn cPlc cFlt cVil cLsz cRts zcLns cOpn zcGps cTrl cWgt cRch cByt cWds cFst cSnd cSgn) A rv) args s 0 0 A) (F0 m 48 ls [])) → W p l e (rmN 2 47) s m args below meth c H locs 0 0 (MQ below (QI D (wC cI cB cZ ad cBad cFul cCnt cOpc cStp cTsz cRcn cPlc cFlt cVil cLsz cRts zcLns cOpn zcGps cTrl cWgt cRch cByt cWds cFst cSnd cSgn) A rv) args s 0 0 A) (F0 m 27 ls []) := by
      intro n
      induction n with
      | zero => intro v4_2 wcGps_3 ov4_2 owcGps_3 H locs ls hf; exact (lp_0 hf).elim
      | succ n ih =>
        intro v4_2 wcGps_3 ov4_2 owcGps_3 H locs ls hf hP hS hl hE
        replace hf := lp_s hf
        dsimp only [fX1_setRoad_L27] at hf
        refine lv_iload hx hb dX1_setRoad_27 (lv_at hl 4 rfl) ?_
        refine lv_aload_n hx hb dX1_setRoad_29 rfl (lv_at hl 0 rfl) ?_
        refine va_get (ci := 1) (v := .int cCnt) (C := RX1) (T := TX1) (N := 6) hx hb hts hiX1 hown hK hP 1 rfl rfl 4 (by decide) (hts _ (List.mem_of_getElem? (i := 2) rfl)) (fun _ h9 => h9) rfl dX1_setRoad_30 ?_
        refine lv_icmp_ge (tgt := 48) hx hb dX1_setRoad_33 (by decide) (fun hc => ?_) (fun hc => ?_)
        · replace hf := (if_pos hc).symm.trans hf
          cases hf
          exact hE _ _ _ hP hS (lv_sub hl [0, 1, 2, 3, 4] rfl)
        · replace hf := (if_neg hc).symm.trans hf
          refine lv_aload_n hx hb dX1_setRoad_36 rfl (lv_at hl 0 rfl) ?_
          refine lv_iload hx hb dX1_setRoad_37 (lv_at hl 4 rfl) ?_
          obtain ⟨qcGps_4, hq, hf⟩ := ob hf
          try dsimp only at hf
          refine mcVv 1 1 (As := [.int v4_2]) (rest := []) ⟨hx, hb, hml, hown, hts⟩ (ctX1_measure l D cI cB cZ ad A hAD cBad cFul cCnt cOpc cStp cTsz cRcn cPlc cFlt cVil cLsz cRts (upd cLns (p0).toNatClampNeg p1) cOpn wcGps_3 cTrl cWgt cRch cByt cWds cFst cSnd cSgn v4_2 qcGps_4 hq) (cwV 1 hts gX1_setRoad_X1_measure rfl rfl rfl (by decide +kernel) ⟨Nat.le_of_ble_eq_true rfl, Nat.le_of_ble_eq_true rfl⟩) hK hP hS rfl rfl rfl hl.1 rfl (Nat.le_of_ble_eq_true rfl) dX1_setRoad_39 ⟨Nat.zero_le _, Nat.zero_le _⟩ (fun H locs hP hS => ?_)
          refine lv_iinc (v := (v4_2 + (1 : Int32))) (lv' := [(4, .int (v4_2 + (1 : Int32))), (0, .ref (ad 1)), (1, .int p0), (2, .int p1), (3, .int (cLns (p0).toNatClampNeg))]) hx hb dX1_setRoad_42 hl (k := 4) rfl rfl (by decide) rfl (fun ls hl => ?_)
          refine lv_goto (tgt := 27) hx hb dX1_setRoad_45 (by decide) ?_
          exact ih _ _ _ _ _ _ _ hf hP hS (lv_sub hl [1, 2, 3, 4, 0] rfl) hE
    obtain ⟨⟨ov4_2, owcGps_3⟩, hq, hf⟩ := ob hf
    try dsimp only at hf
    refine hL27 FU _ _ ov4_2 owcGps_3 _ _ ls hq hP hS (lv_sub hl [2, 3, 4, 1, 0] rfl) (fun H locs ls hP hS hl => ?_)
    refine lv_iload_n hx hb dX1_setRoad_48 rfl (lv_at hl 3 rfl) ?_
    obtain ⟨e0, hz1⟩ := Prod.mk.inj (Option.some.inj hf)
    obtain ⟨e1, hz2⟩ := Prod.mk.inj hz1
    subst e0
    subst e1
    subst hz2
    exact rm_i hx hb hr hlk hP hS dX1_setRoad_49
  · replace hf := (if_pos hc).symm.trans hf
    refine lv_iconst (v := (-1 : Int32)) hx hb dX1_setRoad_8 (by decide) ?_
    obtain ⟨e0, hz1⟩ := Prod.mk.inj (Option.some.inj hf)
    obtain ⟨e1, hz2⟩ := Prod.mk.inj hz1
    subst e0
    subst e1
    subst hz2
    exact rm_i hx hb hr hlk hP hS dX1_setRoad_9

def fX1_empty (cCnt : Int32) (cOpc : Int32) (cRts : Nat → Int32) (cLns : Nat → Int32) (cOpn : Nat → Int32)  : Option (Int32 × Int32 × Int32 × (Nat → Int32) × (Nat → Int32) × (Nat → Int32)) :=
  (if gI (0 : Int32) 60 then (if gI (0 : Int32) 60 then (if gI (0 : Int32) 60 then (some (cCnt, (1 : Int32), (0 : Int32), (upd cRts (0 : Int32).toNatClampNeg (-1 : Int32)), (upd cLns (0 : Int32).toNatClampNeg (0 : Int32)), (upd cOpn (0 : Int32).toNatClampNeg (vp_nar .boolean (0 : Int32))))) else none) else none) else none)
set_option maxRecDepth 100000 in
set_option maxHeartbeats 4000000 in
theorem ctX1_empty (l : Launch) (D : va_G) (cI cB cZ : ClassId) (ad : Nat → Nat) (A : Nat → Prop) (hAD : AD A ad 20) (cBad cFul cCnt cOpc cStp cTsz cRcn cPlc cFlt cVil cLsz : Int32) (cRts cLns cOpn cGps cTrl cWgt cRch cByt cWds cFst cSnd cSgn : Nat → Int32)  (rv : Int32) (zcCnt : Int32) (zcOpc : Int32) (zcRts : Nat → Int32) (zcLns : Nat → Int32) (zcOpn : Nat → Int32) (hf : fX1_empty cCnt cOpc cRts cLns cOpn = some (rv, zcCnt, zcOpc, zcRts, zcLns, zcOpn)) : Met l yX1_empty wsX1_empty (rmN 0 0) (PR D (tyL cI cB cZ) (wC cI cB cZ ad cBad cFul cCnt cOpc cStp cTsz cRcn cPlc cFlt cVil cLsz cRts cLns cOpn cGps cTrl cWgt cRch cByt cWds cFst cSnd cSgn) [.ref (ad 1)]) (QI D (wC cI cB cZ ad cBad cFul zcCnt zcOpc cStp cTsz cRcn cPlc cFlt cVil cLsz zcRts zcLns zcOpn cGps cTrl cWgt cRch cByt cWds cFst cSnd cSgn) A rv) 0 0 A := by
  refine mk_met cX1_empty 2 (some .int) (by decide) rfl (Nat.le_of_ble_eq_true rfl) ?_
  intro p e s m args below meth c ls hx hb hr hlk hml hown hts hPK hl
  obtain ⟨hP, hK⟩ := hPK
  replace hl : lv_has ls 2 [(0, .ref (ad 1))] := hl
  replace hown : s.vm.findClass RX1 = some m.cls := hown
  have hiX1 : ∀ w ∈ wsX10, w ∈ wsX1_empty := fun w h => List.mem_cons_of_mem _ (List.mem_append_right _ h)
  have hS : va_S A s.heap s.heap [] := va_S.rf
  unfold fX1_empty at hf
  refine lv_aload_n hx hb dX1_empty_0 rfl (lv_at hl 0 rfl) ?_
  refine va_get (ci := 1) (v := .int cCnt) (C := RX1) (T := TX1) (N := 6) hx hb hts hiX1 hown hK hP 1 rfl rfl 4 (by decide) (hts _ (List.mem_of_getElem? (i := 1) rfl)) (fun _ h9 => h9) rfl dX1_empty_1 ?_
  refine lv_istore_n (lv' := [(1, .int cCnt), (0, .ref (ad 1))]) hx hb dX1_empty_4 rfl hl (by decide) rfl (fun ls hl => ?_)
  refine lv_aload_n hx hb dX1_empty_5 rfl (lv_at hl 1 rfl) ?_
  refine lv_iconst (v := (1 : Int32)) hx hb dX1_empty_6 (by decide) ?_
  refine va_put (ci := 1) (v := .int (1 : Int32)) (ty := .int) (C := RX1) (T := TX1) (N := 6) hx hb hts hiX1 tyX1 tyX1_ok nmX1 hown hK hP (wC_D hAD) hS 1 rfl rfl 4 (by decide) (hts _ (List.mem_of_getElem? (i := 1) rfl)) (fun _ h9 => h9) rfl (tyX1_ok 4 (by decide)) rfl rfl (Nat.le_of_ble_eq_true rfl) dX1_empty_7 (fun H locs hP _ hS => ?_)
  have hP : va_P D vwCl (wC cI cB cZ ad cBad cFul (1 : Int32) cOpc cStp cTsz cRcn cPlc cFlt cVil cLsz cRts cLns cOpn cGps cTrl cWgt cRch cByt cWds cFst cSnd cSgn) H := hP
  refine lv_aload_n hx hb dX1_empty_10 rfl (lv_at hl 1 rfl) ?_
  refine lv_iconst (v := (0 : Int32)) hx hb dX1_empty_11 (by decide) ?_
  refine va_put (ci := 1) (v := .int (0 : Int32)) (ty := .int) (C := RX1) (T := TX1) (N := 6) hx hb hts hiX1 tyX1 tyX1_ok nmX1 hown hK hP (wC_D hAD) hS 1 rfl rfl 5 (by decide) (hts _ (List.mem_of_getElem? (i := 2) rfl)) (fun _ h9 => h9) rfl (tyX1_ok 5 (by decide)) rfl rfl (Nat.le_of_ble_eq_true rfl) dX1_empty_12 (fun H locs hP _ hS => ?_)
  have hP : va_P D vwCl (wC cI cB cZ ad cBad cFul (1 : Int32) (0 : Int32) cStp cTsz cRcn cPlc cFlt cVil cLsz cRts cLns cOpn cGps cTrl cWgt cRch cByt cWds cFst cSnd cSgn) H := hP
  refine lv_aload_n hx hb dX1_empty_15 rfl (lv_at hl 1 rfl) ?_
  refine va_get (ci := 1) (v := .ref (ad 2)) (C := RX1) (T := TX1) (N := 6) hx hb hts hiX1 hown hK hP 1 rfl rfl 0 (by decide) (hts _ (List.mem_of_getElem? (i := 3) rfl)) (fun _ h9 => h9) rfl dX1_empty_16 ?_
  refine lv_iconst (v := (0 : Int32)) hx hb dX1_empty_19 (by decide) ?_
  refine lv_iconst (v := (-1 : Int32)) hx hb dX1_empty_20 (by decide) ?_
  obtain ⟨hg, hf⟩ := og hf
  refine va_iast hx hb hK hP (wC_D hAD) hS 2 0 rfl rfl (gI_in hg) dX1_empty_21 (fun H locs hP _ hS => ?_)
  have hP : va_P D vwCl (wC cI cB cZ ad cBad cFul (1 : Int32) (0 : Int32) cStp cTsz cRcn cPlc cFlt cVil cLsz (upd cRts (0 : Int32).toNatClampNeg (-1 : Int32)) cLns cOpn cGps cTrl cWgt cRch cByt cWds cFst cSnd cSgn) H := hP
  refine lv_aload_n hx hb dX1_empty_22 rfl (lv_at hl 1 rfl) ?_
  refine va_get (ci := 1) (v := .ref (ad 3)) (C := RX1) (T := TX1) (N := 6) hx hb hts hiX1 hown hK hP 1 rfl rfl 1 (by decide) (hts _ (List.mem_of_getElem? (i := 4) rfl)) (fun _ h9 => h9) rfl dX1_empty_23 ?_
  refine lv_iconst (v := (0 : Int32)) hx hb dX1_empty_26 (by decide) ?_
  refine lv_iconst (v := (0 : Int32)) hx hb dX1_empty_27 (by decide) ?_
  obtain ⟨hg, hf⟩ := og hf
  refine va_iast hx hb hK hP (wC_D hAD) hS 3 0 rfl rfl (gI_in hg) dX1_empty_28 (fun H locs hP _ hS => ?_)
  have hP : va_P D vwCl (wC cI cB cZ ad cBad cFul (1 : Int32) (0 : Int32) cStp cTsz cRcn cPlc cFlt cVil cLsz (upd cRts (0 : Int32).toNatClampNeg (-1 : Int32)) (upd cLns (0 : Int32).toNatClampNeg (0 : Int32)) cOpn cGps cTrl cWgt cRch cByt cWds cFst cSnd cSgn) H := hP
  refine lv_aload_n hx hb dX1_empty_29 rfl (lv_at hl 1 rfl) ?_
  refine va_get (ci := 1) (v := .ref (ad 4)) (C := RX1) (T := TX1) (N := 6) hx hb hts hiX1 hown hK hP 1 rfl rfl 2 (by decide) (hts _ (List.mem_of_getElem? (i := 5) rfl)) (fun _ h9 => h9) rfl dX1_empty_30 ?_
  refine lv_iconst (v := (0 : Int32)) hx hb dX1_empty_33 (by decide) ?_
  refine lv_iconst (v := (0 : Int32)) hx hb dX1_empty_34 (by decide) ?_
  obtain ⟨hg, hf⟩ := og hf
  refine va_zast hx hb hK hP (wC_D hAD) hS 4 2 rfl rfl (gI_in hg) dX1_empty_35 (fun H locs hP _ hS => ?_)
  have hP : va_P D vwCl (wC cI cB cZ ad cBad cFul (1 : Int32) (0 : Int32) cStp cTsz cRcn cPlc cFlt cVil cLsz (upd cRts (0 : Int32).toNatClampNeg (-1 : Int32)) (upd cLns (0 : Int32).toNatClampNeg (0 : Int32)) (upd cOpn (0 : Int32).toNatClampNeg (vp_nar .boolean (0 : Int32))) cGps cTrl cWgt cRch cByt cWds cFst cSnd cSgn) H := hP
  refine lv_iload_n hx hb dX1_empty_36 rfl (lv_at hl 0 rfl) ?_
  obtain ⟨e0, hz1⟩ := Prod.mk.inj (Option.some.inj hf)
  obtain ⟨e1, hz2⟩ := Prod.mk.inj hz1
  obtain ⟨e2, hz3⟩ := Prod.mk.inj hz2
  obtain ⟨e3, hz4⟩ := Prod.mk.inj hz3
  obtain ⟨e4, hz5⟩ := Prod.mk.inj hz4
  subst e0
  subst e1
  subst e2
  subst e3
  subst e4
  subst hz5
  exact rm_i hx hb hr hlk hP hS dX1_empty_37

def fX1_sow_J99 (v3_7 : Int64) (v5_8 : Int32) (kk : (Int64 × Int32 × Int32 × Int32 × (Nat → Int32) × (Nat → Int32) × (Nat → Int32) × (Nat → Int32)) → Option (Int64 × Int32 × Int32 × Int32 × (Nat → Int32) × (Nat → Int32) × (Nat → Int32) × (Nat → Int32))) (qcCnt_16 : Int32) (qcRts_17 : Nat → Int32) (qcLns_18 : Nat → Int32) (qcGps_20 : Nat → Int32) (wcOpc_22 : Int32) (wcOpn_23 : Nat → Int32) : Option (Int64 × Int32 × Int32 × Int32 × (Nat → Int32) × (Nat → Int32) × (Nat → Int32) × (Nat → Int32)) :=
  (kk ((((v3_7 * (1103515245 : Int64)) + (12345 : Int64)) - ((v3_7 * (1103515245 : Int64)) + (12345 : Int64)) / (2147483648 : Int64) * (2147483648 : Int64)), (v5_8 + (1 : Int32)), qcCnt_16, wcOpc_22, qcRts_17, qcLns_18, wcOpn_23, qcGps_20))
def fX1_sow_L11 (p1 : Int32) (kk : (Int64 × Int32 × Int32 × Int32 × (Nat → Int32) × (Nat → Int32) × (Nat → Int32) × (Nat → Int32)) → Option (Int64 × Int32 × Int32 × Int32 × (Nat → Int32) × (Nat → Int32) × (Nat → Int32) × (Nat → Int32))) (ww : Int64 × Int32 × Int32 × Int32 × (Nat → Int32) × (Nat → Int32) × (Nat → Int32) × (Nat → Int32)) : Option (Int64 × Int32 × Int32 × Int32 × (Nat → Int32) × (Nat → Int32) × (Nat → Int32) × (Nat → Int32)) :=
  match ww with
  | (v3_7, v5_8, wcCnt_9, wcOpc_10, wcRts_11, wcLns_12, wcOpn_13, wcGps_14) => (if p1 ≤ v5_8 then (some (v3_7, v5_8, wcCnt_9, wcOpc_10, wcRts_11, wcLns_12, wcOpn_13, wcGps_14)) else (if wcCnt_9 ≤ 0 then (some (v3_7, v5_8, wcCnt_9, wcOpc_10, wcRts_11, wcLns_12, wcOpn_13, wcGps_14)) else (if gM (wcCnt_9).toInt64 then ((fX1_settle wcCnt_9 wcRts_11 wcLns_12 wcOpn_13 wcGps_14 ((((((v3_7 * (1103515245 : Int64)) + (12345 : Int64)) - ((v3_7 * (1103515245 : Int64)) + (12345 : Int64)) / (2147483648 : Int64) * (2147483648 : Int64)) / (65536 : Int64)) - ((((v3_7 * (1103515245 : Int64)) + (12345 : Int64)) - ((v3_7 * (1103515245 : Int64)) + (12345 : Int64)) / (2147483648 : Int64) * (2147483648 : Int64)) / (65536 : Int64)) / (wcCnt_9).toInt64 * (wcCnt_9).toInt64)).toInt32 (((((((v3_7 * (1103515245 : Int64)) + (12345 : Int64)) - ((v3_7 * (1103515245 : Int64)) + (12345 : Int64)) / (2147483648 : Int64) * (2147483648 : Int64)) / (1024 : Int64)) - ((((v3_7 * (1103515245 : Int64)) + (12345 : Int64)) - ((v3_7 * (1103515245 : Int64)) + (12345 : Int64)) / (2147483648 : Int64) * (2147483648 : Int64)) / (1024 : Int64)) / (99 : Int64) * (99 : Int64))).toInt32 + (1 : Int32))).bind fun (r_15, qcCnt_16, qcRts_17, qcLns_18, qcOpn_19, qcGps_20) => ((fX1_has qcCnt_16 r_15).bind fun r_21 => (if r_21 = 0 then (fX1_sow_J99 v3_7 v5_8 kk qcCnt_16 qcRts_17 qcLns_18 qcGps_20 wcOpc_10 qcOpn_19) else (if (lg_cmp (((((v3_7 * (1103515245 : Int64)) + (12345 : Int64)) - ((v3_7 * (1103515245 : Int64)) + (12345 : Int64)) / (2147483648 : Int64) * (2147483648 : Int64)) / (32768 : Int64)) - ((((v3_7 * (1103515245 : Int64)) + (12345 : Int64)) - ((v3_7 * (1103515245 : Int64)) + (12345 : Int64)) / (2147483648 : Int64) * (2147483648 : Int64)) / (32768 : Int64)) / (4 : Int64) * (4 : Int64)) (0 : Int64)) = 0 then ((fX1_setDepot qcCnt_16 wcOpc_10 qcOpn_19 r_15 (1 : Int32)).bind fun (r_24, qcOpc_25, qcOpn_26) => (fX1_sow_J99 v3_7 v5_8 kk qcCnt_16 qcRts_17 qcLns_18 qcGps_20 qcOpc_25 qcOpn_26)) else (fX1_sow_J99 v3_7 v5_8 kk qcCnt_16 qcRts_17 qcLns_18 qcGps_20 wcOpc_10 qcOpn_19))))) else none)))
def fX1_sow (cCnt : Int32) (cOpc : Int32) (cRts : Nat → Int32) (cLns : Nat → Int32) (cOpn : Nat → Int32) (cGps : Nat → Int32) (p0 : Int32) (p1 : Int32) : Option (Int32 × Int32 × Int32 × (Nat → Int32) × (Nat → Int32) × (Nat → Int32) × (Nat → Int32)) :=
  ((fX1_empty cCnt cOpc cRts cLns cOpn).bind fun (r_1, qcCnt_2, qcOpc_3, qcRts_4, qcLns_5, qcOpn_6) => ((lp (fX1_sow_L11 p1) FU ((p0).toInt64, (0 : Int32), qcCnt_2, qcOpc_3, qcRts_4, qcLns_5, qcOpn_6, cGps)).bind fun (ov3_7, ov5_8, owcCnt_9, owcOpc_10, owcRts_11, owcLns_12, owcOpn_13, owcGps_14) => (some (owcOpc_10, owcCnt_9, owcOpc_10, owcRts_11, owcLns_12, owcOpn_13, owcGps_14))))
set_option maxRecDepth 100000 in
set_option maxHeartbeats 4000000 in
theorem ctX1_sow (l : Launch) (D : va_G) (cI cB cZ : ClassId) (ad : Nat → Nat) (A : Nat → Prop) (hAD : AD A ad 20) (cBad cFul cCnt cOpc cStp cTsz cRcn cPlc cFlt cVil cLsz : Int32) (cRts cLns cOpn cGps cTrl cWgt cRch cByt cWds cFst cSnd cSgn : Nat → Int32) (p0 : Int32) (p1 : Int32) (rv : Int32) (zcCnt : Int32) (zcOpc : Int32) (zcRts : Nat → Int32) (zcLns : Nat → Int32) (zcOpn : Nat → Int32) (zcGps : Nat → Int32) (hf : fX1_sow cCnt cOpc cRts cLns cOpn cGps p0 p1 = some (rv, zcCnt, zcOpc, zcRts, zcLns, zcOpn, zcGps)) : Met l yX1_sow wsX1_sow (rmN 3 70) (PR D (tyL cI cB cZ) (wC cI cB cZ ad cBad cFul cCnt cOpc cStp cTsz cRcn cPlc cFlt cVil cLsz cRts cLns cOpn cGps cTrl cWgt cRch cByt cWds cFst cSnd cSgn) [.ref (ad 1), .int p0, .int p1]) (QI D (wC cI cB cZ ad cBad cFul zcCnt zcOpc cStp cTsz cRcn cPlc cFlt cVil cLsz zcRts zcLns zcOpn zcGps cTrl cWgt cRch cByt cWds cFst cSnd cSgn) A rv) 0 0 A := by
  refine mk_met cX1_sow 7 (some .int) (by decide) rfl (Nat.le_of_ble_eq_true rfl) ?_
  intro p e s m args below meth c ls hx hb hr hlk hml hown hts hPK hl
  obtain ⟨hP, hK⟩ := hPK
  replace hl : lv_has ls 7 [(0, .ref (ad 1)), (1, .int p0), (2, .int p1)] := hl
  replace hown : s.vm.findClass RX1 = some m.cls := hown
  have hiX1 : ∀ w ∈ wsX10, w ∈ wsX1_sow := fun w h => List.mem_cons_of_mem _ (List.mem_append_right _ h)
  have hS : va_S A s.heap s.heap [] := va_S.rf
  unfold fX1_sow at hf
  refine lv_aload_n hx hb dX1_sow_0 rfl (lv_at hl 0 rfl) ?_
  obtain ⟨⟨r_1, qcCnt_2, qcOpc_3, qcRts_4, qcLns_5, qcOpn_6⟩, hq, hf⟩ := ob hf
  try dsimp only at hf
  refine mcVi 1 1 (As := []) (rest := []) ⟨hx, hb, hml, hown, hts⟩ (ctX1_empty l D cI cB cZ ad A hAD cBad cFul cCnt cOpc cStp cTsz cRcn cPlc cFlt cVil cLsz cRts cLns cOpn cGps cTrl cWgt cRch cByt cWds cFst cSnd cSgn  r_1 qcCnt_2 qcOpc_3 qcRts_4 qcLns_5 qcOpn_6 hq) (cwV 0 hts gX1_sow_X1_empty rfl rfl rfl (by decide +kernel) ⟨Nat.le_of_ble_eq_true rfl, Nat.le_of_ble_eq_true rfl⟩) hK hP hS rfl rfl rfl hl.1 rfl (Nat.le_of_ble_eq_true rfl) dX1_sow_1 ⟨Nat.zero_le _, Nat.zero_le _⟩ (fun H locs hP hS => ?_)
  refine lv_pop hx hb dX1_sow_4 rfl ?_
  refine lv_iload_n hx hb dX1_sow_5 rfl (lv_at hl 1 rfl) ?_
  refine lv_i2l (v := (p0).toInt64) hx hb dX1_sow_6 rfl ?_
  refine lv_lstore_n (lv' := [(3, .long (p0).toInt64), (0, .ref (ad 1)), (1, .int p0), (2, .int p1)]) hx hb dX1_sow_7 rfl hl (by decide) rfl (fun ls hl => ?_)
  refine lv_iconst (v := (0 : Int32)) hx hb dX1_sow_8 (by decide) ?_
  refine lv_istore (lv' := [(5, .int (0 : Int32)), (3, .long (p0).toInt64), (0, .ref (ad 1)), (1, .int p0), (2, .int p1)]) hx hb dX1_sow_9 hl (by decide) rfl (fun ls hl => ?_)
  have hL11 : ∀ (n : Nat) (v3_7 : Int64) (v5_8 : Int32) (wcCnt_9 : Int32) (wcOpc_10 : Int32) (wcRts_11 : Nat → Int32) (wcLns_12 : Nat → Int32) (wcOpn_13 : Nat → Int32) (wcGps_14 : Nat → Int32) (ov3_7 : Int64) (ov5_8 : Int32) (owcCnt_9 : Int32) (owcOpc_10 : Int32) (owcRts_11 : Nat → Int32) (owcLns_12 : Nat → Int32) (owcOpn_13 : Nat → Int32) (owcGps_14 : Nat → Int32) (H : Heap) (locs : List Loc) (ls : Array Slot), lp (fX1_sow_L11 p1) n (v3_7, v5_8, wcCnt_9, wcOpc_10, wcRts_11, wcLns_12, wcOpn_13, wcGps_14) = some (ov3_7, ov5_8, owcCnt_9, owcOpc_10, owcRts_11, owcLns_12, owcOpn_13, owcGps_14) → va_P D vwCl (wC cI cB cZ ad cBad cFul wcCnt_9 wcOpc_10 cStp cTsz cRcn cPlc cFlt cVil cLsz wcRts_11 wcLns_12 wcOpn_13 wcGps_14 cTrl cWgt cRch cByt cWds cFst cSnd cSgn) H → va_S A s.heap H locs → lv_has ls 7 [(0, .ref (ad 1)), (1, .int p0), (2, .int p1), (3, .long v3_7), (5, .int v5_8)] → (∀ (H : Heap) (locs : List Loc) (ls : Array Slot), va_P D vwCl (wC cI cB cZ ad cBad cFul owcCnt_9 owcOpc_10 cStp cTsz cRcn cPlc cFlt cVil cLsz owcRts_11 owcLns_12 owcOpn_13 owcGps_14 cTrl cWgt cRch cByt cWds cFst cSnd cSgn) H → va_S A s.heap H locs → lv_has ls 7 [(0, .ref (ad 1)), (1, .int p0), (2, .int p1), (3, .long ov3_7), (5, .int ov5_8)] → W p l e (rmN 3 70) s m args below meth c H locs 0 0 (MQ below (QI D (wC cI cB cZ ad cBad cFul zcCnt zcOpc cStp cTsz cRcn cPlc cFlt cVil cLsz zcRts zcLns zcOpn zcGps cTrl cWgt cRch cByt cWds cFst cSnd cSgn) A rv) args s 0 0 A) (F0 m 105 ls [])) → W p l e (rmN 3 70) s m args below meth c H locs 0 0 (MQ below (QI D (wC cI cB cZ ad cBad cFul zcCnt zcOpc cStp cTsz cRcn cPlc cFlt cVil cLsz zcRts zcLns zcOpn zcGps cTrl cWgt cRch cByt cWds cFst cSnd cSgn) A rv) args s 0 0 A) (F0 m 11 ls []) := by
    intro n
    induction n with
    | zero => intro v3_7 v5_8 wcCnt_9 wcOpc_10 wcRts_11 wcLns_12 wcOpn_13 wcGps_14 ov3_7 ov5_8 owcCnt_9 owcOpc_10 owcRts_11 owcLns_12 owcOpn_13 owcGps_14 H locs ls hf; exact (lp_0 hf).elim
    | succ n ih =>
      intro v3_7 v5_8 wcCnt_9 wcOpc_10 wcRts_11 wcLns_12 wcOpn_13 wcGps_14 ov3_7 ov5_8 owcCnt_9 owcOpc_10 owcRts_11 owcLns_12 owcOpn_13 owcGps_14 H locs ls hf hP hS hl hE
      replace hf := lp_s hf
      dsimp only [fX1_sow_L11] at hf
      refine lv_iload hx hb dX1_sow_11 (lv_at hl 4 rfl) ?_
      refine lv_iload_n hx hb dX1_sow_13 rfl (lv_at hl 2 rfl) ?_
      refine lv_icmp_ge (tgt := 105) hx hb dX1_sow_14 (by decide) (fun hc => ?_) (fun hc => ?_)
      · replace hf := (if_pos hc).symm.trans hf
        cases hf
        exact hE _ _ _ hP hS (lv_sub hl [0, 1, 2, 3, 4] rfl)
      · replace hf := (if_neg hc).symm.trans hf
        refine lv_aload_n hx hb dX1_sow_17 rfl (lv_at hl 0 rfl) ?_
        refine va_get (ci := 1) (v := .int wcCnt_9) (C := RX1) (T := TX1) (N := 6) hx hb hts hiX1 hown hK hP 1 rfl rfl 4 (by decide) (hts _ (List.mem_of_getElem? (i := 1) rfl)) (fun _ h9 => h9) rfl dX1_sow_18 ?_
        refine lv_if_le (tgt := 105) hx hb dX1_sow_21 (by decide) (fun hc => ?_) (fun hc => ?_)
        · replace hf := (if_pos hc).symm.trans hf
          cases hf
          exact hE _ _ _ hP hS (lv_sub hl [0, 1, 2, 3, 4] rfl)
        · replace hf := (if_neg hc).symm.trans hf
          refine lv_lload_n hx hb dX1_sow_24 rfl (lv_at hl 3 rfl) ?_
          refine lv_ldc2 (v := (1103515245 : Int64)) hx hb hown (hts _ (List.mem_of_getElem? (i := 2) rfl)) dX1_sow_25 ?_
          refine lv_lmul hx hb dX1_sow_28 ?_
          refine lv_ldc2 (v := (12345 : Int64)) hx hb hown (hts _ (List.mem_of_getElem? (i := 3) rfl)) dX1_sow_29 ?_
          refine lv_ladd hx hb dX1_sow_32 ?_
          refine lv_ldc2 (v := (2147483648 : Int64)) hx hb hown (hts _ (List.mem_of_getElem? (i := 4) rfl)) dX1_sow_33 ?_
          refine lv_lrem hx hb dX1_sow_36 (by decide) ?_
          refine lv_lstore_n (lv' := [(3, .long (((v3_7 * (1103515245 : Int64)) + (12345 : Int64)) - ((v3_7 * (1103515245 : Int64)) + (12345 : Int64)) / (2147483648 : Int64) * (2147483648 : Int64))), (0, .ref (ad 1)), (1, .int p0), (2, .int p1), (5, .int v5_8)]) hx hb dX1_sow_37 rfl hl (by decide) rfl (fun ls hl => ?_)
          refine lv_aload_n hx hb dX1_sow_38 rfl (lv_at hl 1 rfl) ?_
          refine lv_lload_n hx hb dX1_sow_39 rfl (lv_at hl 0 rfl) ?_
          refine lv_ldc2 (v := (65536 : Int64)) hx hb hown (hts _ (List.mem_of_getElem? (i := 5) rfl)) dX1_sow_40 ?_
          refine lv_ldiv hx hb dX1_sow_43 (by decide) ?_
          refine lv_aload_n hx hb dX1_sow_44 rfl (lv_at hl 1 rfl) ?_
          refine va_get (ci := 1) (v := .int wcCnt_9) (C := RX1) (T := TX1) (N := 6) hx hb hts hiX1 hown hK hP 1 rfl rfl 4 (by decide) (hts _ (List.mem_of_getElem? (i := 1) rfl)) (fun _ h9 => h9) rfl dX1_sow_45 ?_
          refine lv_i2l (v := (wcCnt_9).toInt64) hx hb dX1_sow_48 rfl ?_
          obtain ⟨hg, hf⟩ := og hf
          refine lv_lrem hx hb dX1_sow_49 (gM_ne hg) ?_
          refine lv_l2i (v := ((((((v3_7 * (1103515245 : Int64)) + (12345 : Int64)) - ((v3_7 * (1103515245 : Int64)) + (12345 : Int64)) / (2147483648 : Int64) * (2147483648 : Int64)) / (65536 : Int64)) - ((((v3_7 * (1103515245 : Int64)) + (12345 : Int64)) - ((v3_7 * (1103515245 : Int64)) + (12345 : Int64)) / (2147483648 : Int64) * (2147483648 : Int64)) / (65536 : Int64)) / (wcCnt_9).toInt64 * (wcCnt_9).toInt64)).toInt32) hx hb dX1_sow_50 rfl ?_
          refine lv_lload_n hx hb dX1_sow_51 rfl (lv_at hl 0 rfl) ?_
          refine lv_ldc2 (v := (1024 : Int64)) hx hb hown (hts _ (List.mem_of_getElem? (i := 6) rfl)) dX1_sow_52 ?_
          refine lv_ldiv hx hb dX1_sow_55 (by decide) ?_
          refine lv_ldc2 (v := (99 : Int64)) hx hb hown (hts _ (List.mem_of_getElem? (i := 7) rfl)) dX1_sow_56 ?_
          refine lv_lrem hx hb dX1_sow_59 (by decide) ?_
          refine lv_l2i (v := ((((((v3_7 * (1103515245 : Int64)) + (12345 : Int64)) - ((v3_7 * (1103515245 : Int64)) + (12345 : Int64)) / (2147483648 : Int64) * (2147483648 : Int64)) / (1024 : Int64)) - ((((v3_7 * (1103515245 : Int64)) + (12345 : Int64)) - ((v3_7 * (1103515245 : Int64)) + (12345 : Int64)) / (2147483648 : Int64) * (2147483648 : Int64)) / (1024 : Int64)) / (99 : Int64) * (99 : Int64))).toInt32) hx hb dX1_sow_60 rfl ?_
          refine lv_iconst (v := (1 : Int32)) hx hb dX1_sow_61 (by decide) ?_
          refine lv_iadd hx hb dX1_sow_62 ?_
          obtain ⟨⟨r_15, qcCnt_16, qcRts_17, qcLns_18, qcOpn_19, qcGps_20⟩, hq, hf⟩ := ob hf
          try dsimp only at hf
          refine mcVi 1 1 (As := [.int ((((((v3_7 * (1103515245 : Int64)) + (12345 : Int64)) - ((v3_7 * (1103515245 : Int64)) + (12345 : Int64)) / (2147483648 : Int64) * (2147483648 : Int64)) / (65536 : Int64)) - ((((v3_7 * (1103515245 : Int64)) + (12345 : Int64)) - ((v3_7 * (1103515245 : Int64)) + (12345 : Int64)) / (2147483648 : Int64) * (2147483648 : Int64)) / (65536 : Int64)) / (wcCnt_9).toInt64 * (wcCnt_9).toInt64)).toInt32, .int (((((((v3_7 * (1103515245 : Int64)) + (12345 : Int64)) - ((v3_7 * (1103515245 : Int64)) + (12345 : Int64)) / (2147483648 : Int64) * (2147483648 : Int64)) / (1024 : Int64)) - ((((v3_7 * (1103515245 : Int64)) + (12345 : Int64)) - ((v3_7 * (1103515245 : Int64)) + (12345 : Int64)) / (2147483648 : Int64) * (2147483648 : Int64)) / (1024 : Int64)) / (99 : Int64) * (99 : Int64))).toInt32 + (1 : Int32))]) (rest := []) ⟨hx, hb, hml, hown, hts⟩ (ctX1_settle l D cI cB cZ ad A hAD cBad cFul wcCnt_9 wcOpc_10 cStp cTsz cRcn cPlc cFlt cVil cLsz wcRts_11 wcLns_12 wcOpn_13 wcGps_14 cTrl cWgt cRch cByt cWds cFst cSnd cSgn ((((((v3_7 * (1103515245 : Int64)) + (12345 : Int64)) - ((v3_7 * (1103515245 : Int64)) + (12345 : Int64)) / (2147483648 : Int64) * (2147483648 : Int64)) / (65536 : Int64)) - ((((v3_7 * (1103515245 : Int64)) + (12345 : Int64)) - ((v3_7 * (1103515245 : Int64)) + (12345 : Int64)) / (2147483648 : Int64) * (2147483648 : Int64)) / (65536 : Int64)) / (wcCnt_9).toInt64 * (wcCnt_9).toInt64)).toInt32 (((((((v3_7 * (1103515245 : Int64)) + (12345 : Int64)) - ((v3_7 * (1103515245 : Int64)) + (12345 : Int64)) / (2147483648 : Int64) * (2147483648 : Int64)) / (1024 : Int64)) - ((((v3_7 * (1103515245 : Int64)) + (12345 : Int64)) - ((v3_7 * (1103515245 : Int64)) + (12345 : Int64)) / (2147483648 : Int64) * (2147483648 : Int64)) / (1024 : Int64)) / (99 : Int64) * (99 : Int64))).toInt32 + (1 : Int32)) r_15 qcCnt_16 qcRts_17 qcLns_18 qcOpn_19 qcGps_20 hq) (cwV 2 hts gX1_sow_X1_settle rfl rfl rfl (by decide +kernel) ⟨Nat.le_of_ble_eq_true rfl, Nat.le_of_ble_eq_true rfl⟩) hK hP hS rfl rfl rfl hl.1 rfl (Nat.le_of_ble_eq_true rfl) dX1_sow_63 ⟨Nat.zero_le _, Nat.zero_le _⟩ (fun H locs hP hS => ?_)
          refine lv_istore (lv' := [(6, .int r_15), (3, .long (((v3_7 * (1103515245 : Int64)) + (12345 : Int64)) - ((v3_7 * (1103515245 : Int64)) + (12345 : Int64)) / (2147483648 : Int64) * (2147483648 : Int64))), (0, .ref (ad 1)), (1, .int p0), (2, .int p1), (5, .int v5_8)]) hx hb dX1_sow_66 hl (by decide) rfl (fun ls hl => ?_)
          refine lv_aload_n hx hb dX1_sow_68 rfl (lv_at hl 2 rfl) ?_
          refine lv_iload hx hb dX1_sow_69 (lv_at hl 0 rfl) ?_
          obtain ⟨r_21, hq, hf⟩ := ob hf
          try dsimp only at hf
          refine rcV 1 1 (As := [.int r_15]) (rest := []) ⟨hx, hb, hml, hown, hts⟩ (ctX1_has l D cI cB cZ ad cBad cFul qcCnt_16 wcOpc_10 cStp cTsz cRcn cPlc cFlt cVil cLsz qcRts_17 qcLns_18 qcOpn_19 qcGps_20 cTrl cWgt cRch cByt cWds cFst cSnd cSgn r_15 r_21 hq) (cwV 1 hts gX1_sow_X1_has rfl rfl rfl (by decide +kernel) ⟨Nat.le_of_ble_eq_true rfl, Nat.le_of_ble_eq_true rfl⟩) hK hP rfl rfl rfl hl.1 rfl (Nat.le_of_ble_eq_true rfl) dX1_sow_71 ⟨Nat.zero_le _, Nat.zero_le _⟩ ?_
          have hJ99 : ∀ (wcOpc_22 : Int32) (wcOpn_23 : Nat → Int32) (H : Heap) (locs : List Loc) (ls : Array Slot), fX1_sow_J99 v3_7 v5_8 (lp (fX1_sow_L11 p1) n) qcCnt_16 qcRts_17 qcLns_18 qcGps_20 wcOpc_22 wcOpn_23 = some (ov3_7, ov5_8, owcCnt_9, owcOpc_10, owcRts_11, owcLns_12, owcOpn_13, owcGps_14) → va_P D vwCl (wC cI cB cZ ad cBad cFul qcCnt_16 wcOpc_22 cStp cTsz cRcn cPlc cFlt cVil cLsz qcRts_17 qcLns_18 wcOpn_23 qcGps_20 cTrl cWgt cRch cByt cWds cFst cSnd cSgn) H → va_S A s.heap H locs → lv_has ls 7 [(0, .ref (ad 1)), (1, .int p0), (2, .int p1), (3, .long (((v3_7 * (1103515245 : Int64)) + (12345 : Int64)) - ((v3_7 * (1103515245 : Int64)) + (12345 : Int64)) / (2147483648 : Int64) * (2147483648 : Int64))), (5, .int v5_8), (6, .int r_15)] → W p l e (rmN 3 70) s m args below meth c H locs 0 0 (MQ below (QI D (wC cI cB cZ ad cBad cFul zcCnt zcOpc cStp cTsz cRcn cPlc cFlt cVil cLsz zcRts zcLns zcOpn zcGps cTrl cWgt cRch cByt cWds cFst cSnd cSgn) A rv) args s 0 0 A) (F0 m 99 ls []) := by
            intro wcOpc_22 wcOpn_23 H locs ls hf hP hS hl
            unfold fX1_sow_J99 at hf
            refine lv_iinc (v := (v5_8 + (1 : Int32))) (lv' := [(5, .int (v5_8 + (1 : Int32))), (0, .ref (ad 1)), (1, .int p0), (2, .int p1), (3, .long (((v3_7 * (1103515245 : Int64)) + (12345 : Int64)) - ((v3_7 * (1103515245 : Int64)) + (12345 : Int64)) / (2147483648 : Int64) * (2147483648 : Int64))), (6, .int r_15)]) hx hb dX1_sow_99 hl (k := 4) rfl rfl (by decide) rfl (fun ls hl => ?_)
            refine lv_goto (tgt := 11) hx hb dX1_sow_102 (by decide) ?_
            exact ih _ _ _ _ _ _ _ _ _ _ _ _ _ _ _ _ _ _ _ hf hP hS (lv_sub hl [1, 2, 3, 4, 0] rfl) hE
          refine lv_if_eq (tgt := 99) hx hb dX1_sow_74 (by decide) (fun hc => ?_) (fun hc => ?_)
          · replace hf := (if_pos hc).symm.trans hf
            exact hJ99 _ _ _ _ _ hf hP hS (lv_sub hl [2, 3, 4, 1, 5, 0] rfl)
          · replace hf := (if_neg hc).symm.trans hf
            refine lv_lload_n hx hb dX1_sow_77 rfl (lv_at hl 1 rfl) ?_
            refine lv_ldc2 (v := (32768 : Int64)) hx hb hown (hts _ (List.mem_of_getElem? (i := 8) rfl)) dX1_sow_78 ?_
            refine lv_ldiv hx hb dX1_sow_81 (by decide) ?_
            refine lv_ldc2 (v := (4 : Int64)) hx hb hown (hts _ (List.mem_of_getElem? (i := 9) rfl)) dX1_sow_82 ?_
            refine lv_lrem hx hb dX1_sow_85 (by decide) ?_
            refine lv_lconst (v := (0 : Int64)) hx hb dX1_sow_86 (by decide) ?_
            refine W.lcmp hx hb dX1_sow_87 ?_
            refine lv_if_ne (tgt := 99) hx hb dX1_sow_88 (by decide) (fun hc => ?_) (fun hc => ?_)
            · replace hf := (if_neg hc).symm.trans hf
              exact hJ99 _ _ _ _ _ hf hP hS (lv_sub hl [2, 3, 4, 1, 5, 0] rfl)
            · replace hf := (if_pos hc).symm.trans hf
              refine lv_aload_n hx hb dX1_sow_91 rfl (lv_at hl 2 rfl) ?_
              refine lv_iload hx hb dX1_sow_92 (lv_at hl 0 rfl) ?_
              refine lv_iconst (v := (1 : Int32)) hx hb dX1_sow_94 (by decide) ?_
              obtain ⟨⟨r_24, qcOpc_25, qcOpn_26⟩, hq, hf⟩ := ob hf
              try dsimp only at hf
              refine mcVi 1 1 (As := [.int r_15, .int (1 : Int32)]) (rest := []) ⟨hx, hb, hml, hown, hts⟩ (ctX1_setDepot l D cI cB cZ ad A hAD cBad cFul qcCnt_16 wcOpc_10 cStp cTsz cRcn cPlc cFlt cVil cLsz qcRts_17 qcLns_18 qcOpn_19 qcGps_20 cTrl cWgt cRch cByt cWds cFst cSnd cSgn r_15 (1 : Int32) r_24 qcOpc_25 qcOpn_26 hq) (cwV 2 hts gX1_sow_X1_setDepot rfl rfl rfl (by decide +kernel) ⟨Nat.le_of_ble_eq_true rfl, Nat.le_of_ble_eq_true rfl⟩) hK hP hS rfl rfl rfl hl.1 rfl (Nat.le_of_ble_eq_true rfl) dX1_sow_95 ⟨Nat.zero_le _, Nat.zero_le _⟩ (fun H locs hP hS => ?_)
              refine lv_pop hx hb dX1_sow_98 rfl ?_
              exact hJ99 _ _ _ _ _ hf hP hS (lv_sub hl [2, 3, 4, 1, 5, 0] rfl)
  obtain ⟨⟨ov3_7, ov5_8, owcCnt_9, owcOpc_10, owcRts_11, owcLns_12, owcOpn_13, owcGps_14⟩, hq, hf⟩ := ob hf
  try dsimp only at hf
  refine hL11 FU _ _ _ _ _ _ _ _ ov3_7 ov5_8 owcCnt_9 owcOpc_10 owcRts_11 owcLns_12 owcOpn_13 owcGps_14 _ _ ls hq hP hS (lv_sub hl [2, 3, 4, 1, 0] rfl) (fun H locs ls hP hS hl => ?_)
  refine lv_aload_n hx hb dX1_sow_105 rfl (lv_at hl 0 rfl) ?_
  refine va_get (ci := 1) (v := .int owcOpc_10) (C := RX1) (T := TX1) (N := 6) hx hb hts hiX1 hown hK hP 1 rfl rfl 5 (by decide) (hts _ (List.mem_of_getElem? (i := 10) rfl)) (fun _ h9 => h9) rfl dX1_sow_106 ?_
  obtain ⟨e0, hz1⟩ := Prod.mk.inj (Option.some.inj hf)
  obtain ⟨e1, hz2⟩ := Prod.mk.inj hz1
  obtain ⟨e2, hz3⟩ := Prod.mk.inj hz2
  obtain ⟨e3, hz4⟩ := Prod.mk.inj hz3
  obtain ⟨e4, hz5⟩ := Prod.mk.inj hz4
  obtain ⟨e5, hz6⟩ := Prod.mk.inj hz5
  subst e0
  subst e1
  subst e2
  subst e3
  subst e4
  subst e5
  subst hz6
  exact rm_i hx hb hr hlk hP hS dX1_sow_109

def fX1_countRoads_J33 (v3_3 : Int32) (kk : (Int32 × Int32) → Option (Int32 × Int32)) (v2_4 : Int32) : Option (Int32 × Int32) :=
  (kk (v2_4, (v3_3 + (1 : Int32))))
def fX1_countRoads_L12 (cCnt : Int32) (cRts : Nat → Int32) (p0 : Int32) (kk : (Int32 × Int32) → Option (Int32 × Int32)) (ww : Int32 × Int32) : Option (Int32 × Int32) :=
  match ww with
  | (v2_2, v3_3) => (if cCnt ≤ v3_3 then (some (v2_2, v3_3)) else (if gI v3_3 60 then (if (cRts (v3_3).toNatClampNeg) = p0 then (fX1_countRoads_J33 v3_3 kk (v2_2 + (1 : Int32))) else (fX1_countRoads_J33 v3_3 kk v2_2)) else none))
def fX1_countRoads_J9 (cCnt : Int32) (cRts : Nat → Int32) (p0 : Int32) (t_1 : Int32) : Option (Int32) :=
  ((lp (fX1_countRoads_L12 cCnt cRts p0) FU (t_1, (1 : Int32))).bind fun (ov2_2, ov3_3) => (some ov2_2))
def fX1_countRoads (cCnt : Int32) (cRts : Nat → Int32) (p0 : Int32) : Option (Int32) :=
  (if p0 = 0 then (fX1_countRoads_J9 cCnt cRts p0 (0 : Int32)) else (fX1_countRoads_J9 cCnt cRts p0 (1 : Int32)))
set_option maxRecDepth 100000 in
set_option maxHeartbeats 4000000 in
theorem ctX1_countRoads (l : Launch) (D : va_G) (cI cB cZ : ClassId) (ad : Nat → Nat) (cBad cFul cCnt cOpc cStp cTsz cRcn cPlc cFlt cVil cLsz : Int32) (cRts cLns cOpn cGps cTrl cWgt cRch cByt cWds cFst cSnd cSgn : Nat → Int32) (p0 : Int32) (rv : Int32) (hf : fX1_countRoads cCnt cRts p0 = some rv) : Met l yX1_countRoads wsX1_countRoads (rmN 0 0) (PR D (tyL cI cB cZ) (wC cI cB cZ ad cBad cFul cCnt cOpc cStp cTsz cRcn cPlc cFlt cVil cLsz cRts cLns cOpn cGps cTrl cWgt cRch cByt cWds cFst cSnd cSgn) [.ref (ad 1), .int p0]) (SI rv) 0 0 (fun _ => False) := by
  refine mk_met cX1_countRoads 4 (some .int) (by decide) rfl (Nat.le_of_ble_eq_true rfl) ?_
  intro p e s m args below meth c ls hx hb hr hlk hml hown hts hPK hl
  obtain ⟨hP, hK⟩ := hPK
  replace hl : lv_has ls 4 [(0, .ref (ad 1)), (1, .int p0)] := hl
  replace hown : s.vm.findClass RX1 = some m.cls := hown
  have hiX1 : ∀ w ∈ wsX10, w ∈ wsX1_countRoads := fun w h => List.mem_cons_of_mem _ (List.mem_append_right _ h)
  unfold fX1_countRoads at hf
  refine lv_iload_n hx hb dX1_countRoads_0 rfl (lv_at hl 1 rfl) ?_
  have hJ9 : ∀ (t_1 : Int32) (ls : Array Slot), fX1_countRoads_J9 cCnt cRts p0 t_1 = some rv → lv_has ls 4 [(0, .ref (ad 1)), (1, .int p0)] → W p l e (rmN 0 0) s m args below meth c s.heap [] 0 0 (MQ below (SI rv) args s 0 0 (fun _ => False)) (F0 m 9 ls [.int t_1]) := by
    intro t_1 ls hf hl
    unfold fX1_countRoads_J9 at hf
    refine lv_istore_n (lv' := [(2, .int t_1), (0, .ref (ad 1)), (1, .int p0)]) hx hb dX1_countRoads_9 rfl hl (by decide) rfl (fun ls hl => ?_)
    refine lv_iconst (v := (1 : Int32)) hx hb dX1_countRoads_10 (by decide) ?_
    refine lv_istore_n (lv' := [(3, .int (1 : Int32)), (2, .int t_1), (0, .ref (ad 1)), (1, .int p0)]) hx hb dX1_countRoads_11 rfl hl (by decide) rfl (fun ls hl => ?_)
    have hL12 : ∀ (n : Nat) (v2_2 : Int32) (v3_3 : Int32) (ov2_2 : Int32) (ov3_3 : Int32) (ls : Array Slot), lp (fX1_countRoads_L12 cCnt cRts p0) n (v2_2, v3_3) = some (ov2_2, ov3_3) → lv_has ls 4 [(0, .ref (ad 1)), (1, .int p0), (2, .int v2_2), (3, .int v3_3)] → (∀ (ls : Array Slot), lv_has ls 4 [(0, .ref (ad 1)), (1, .int p0), (2, .int ov2_2), (3, .int ov3_3)] → W p l e (rmN 0 0) s m args below meth c s.heap [] 0 0 (MQ below (SI rv) args s 0 0 (fun _ => False)) (F0 m 39 ls [])) → W p l e (rmN 0 0) s m args below meth c s.heap [] 0 0 (MQ below (SI rv) args s 0 0 (fun _ => False)) (F0 m 12 ls []) := by
      intro n
      induction n with
      | zero => intro v2_2 v3_3 ov2_2 ov3_3 ls hf; exact (lp_0 hf).elim
      | succ n ih =>
        intro v2_2 v3_3 ov2_2 ov3_3 ls hf hl hE
        replace hf := lp_s hf
        dsimp only [fX1_countRoads_L12] at hf
        refine lv_iload_n hx hb dX1_countRoads_12 rfl (lv_at hl 3 rfl) ?_
        refine lv_aload_n hx hb dX1_countRoads_13 rfl (lv_at hl 0 rfl) ?_
        refine va_get (ci := 1) (v := .int cCnt) (C := RX1) (T := TX1) (N := 6) hx hb hts hiX1 hown hK hP 1 rfl rfl 4 (by decide) (hts _ (List.mem_of_getElem? (i := 1) rfl)) (fun _ h9 => h9) rfl dX1_countRoads_14 ?_
        refine lv_icmp_ge (tgt := 39) hx hb dX1_countRoads_17 (by decide) (fun hc => ?_) (fun hc => ?_)
        · replace hf := (if_pos hc).symm.trans hf
          cases hf
          exact hE _ (lv_sub hl [0, 1, 2, 3] rfl)
        · replace hf := (if_neg hc).symm.trans hf
          refine lv_aload_n hx hb dX1_countRoads_20 rfl (lv_at hl 0 rfl) ?_
          refine va_get (ci := 1) (v := .ref (ad 2)) (C := RX1) (T := TX1) (N := 6) hx hb hts hiX1 hown hK hP 1 rfl rfl 0 (by decide) (hts _ (List.mem_of_getElem? (i := 2) rfl)) (fun _ h9 => h9) rfl dX1_countRoads_21 ?_
          refine lv_iload_n hx hb dX1_countRoads_24 rfl (lv_at hl 3 rfl) ?_
          obtain ⟨hg, hf⟩ := og hf
          refine va_iald hx hb hK hP 2 0 rfl rfl (gI_in hg) dX1_countRoads_25 ?_
          refine lv_iload_n hx hb dX1_countRoads_26 rfl (lv_at hl 1 rfl) ?_
          have hJ33 : ∀ (v2_4 : Int32) (ls : Array Slot), fX1_countRoads_J33 v3_3 (lp (fX1_countRoads_L12 cCnt cRts p0) n) v2_4 = some (ov2_2, ov3_3) → lv_has ls 4 [(0, .ref (ad 1)), (1, .int p0), (2, .int v2_4), (3, .int v3_3)] → W p l e (rmN 0 0) s m args below meth c s.heap [] 0 0 (MQ below (SI rv) args s 0 0 (fun _ => False)) (F0 m 33 ls []) := by
            intro v2_4 ls hf hl
            unfold fX1_countRoads_J33 at hf
            refine lv_iinc (v := (v3_3 + (1 : Int32))) (lv' := [(3, .int (v3_3 + (1 : Int32))), (0, .ref (ad 1)), (1, .int p0), (2, .int v2_4)]) hx hb dX1_countRoads_33 hl (k := 3) rfl rfl (by decide) rfl (fun ls hl => ?_)
            refine lv_goto (tgt := 12) hx hb dX1_countRoads_36 (by decide) ?_
            exact ih _ _ _ _ _ hf (lv_sub hl [1, 2, 3, 0] rfl) hE
          refine lv_icmp_ne (tgt := 33) hx hb dX1_countRoads_27 (by decide) (fun hc => ?_) (fun hc => ?_)
          · replace hf := (if_neg hc).symm.trans hf
            exact hJ33 _ _ hf (lv_sub hl [0, 1, 2, 3] rfl)
          · replace hf := (if_pos hc).symm.trans hf
            refine lv_iinc (v := (v2_2 + (1 : Int32))) (lv' := [(2, .int (v2_2 + (1 : Int32))), (0, .ref (ad 1)), (1, .int p0), (3, .int v3_3)]) hx hb dX1_countRoads_30 hl (k := 2) rfl rfl (by decide) rfl (fun ls hl => ?_)
            exact hJ33 _ _ hf (lv_sub hl [1, 2, 0, 3] rfl)
    obtain ⟨⟨ov2_2, ov3_3⟩, hq, hf⟩ := ob hf
    try dsimp only at hf
    refine hL12 FU _ _ ov2_2 ov3_3 ls hq (lv_sub hl [2, 3, 1, 0] rfl) (fun ls hl => ?_)
    refine lv_iload_n hx hb dX1_countRoads_39 rfl (lv_at hl 2 rfl) ?_
    exact re_i hx hb hr hlk dX1_countRoads_40 hf
  refine lv_if_ne (tgt := 8) hx hb dX1_countRoads_1 (by decide) (fun hc => ?_) (fun hc => ?_)
  · replace hf := (if_neg hc).symm.trans hf
    refine lv_iconst (v := (1 : Int32)) hx hb dX1_countRoads_8 (by decide) ?_
    exact hJ9 _ _ hf (lv_sub hl [0, 1] rfl)
  · replace hf := (if_pos hc).symm.trans hf
    refine lv_iconst (v := (0 : Int32)) hx hb dX1_countRoads_4 (by decide) ?_
    refine lv_goto (tgt := 9) hx hb dX1_countRoads_5 (by decide) ?_
    exact hJ9 _ _ hf (lv_sub hl [0, 1] rfl)

def fX1_aspect (cCnt : Int32) (cRts : Nat → Int32) (cLns : Nat → Int32) (cOpn : Nat → Int32) (p0 : Int32) (p1 : Int32) : Option (Int32) :=
  ((fX1_has cCnt p0).bind fun r_1 => (if r_1 = 0 then (some (-1 : Int32)) else (if p1 = (0 : Int32) then (if gI p0 60 then (some (cRts (p0).toNatClampNeg)) else none) else (if p1 = (1 : Int32) then (if gI p0 60 then (some (cLns (p0).toNatClampNeg)) else none) else (if p1 = (2 : Int32) then (if gI p0 60 then (if (cOpn (p0).toNatClampNeg) = 0 then (some (0 : Int32)) else (some (1 : Int32))) else none) else ((fX1_countRoads cCnt cRts p0).bind fun r_2 => (some r_2)))))))
set_option maxRecDepth 100000 in
set_option maxHeartbeats 4000000 in
theorem ctX1_aspect (l : Launch) (D : va_G) (cI cB cZ : ClassId) (ad : Nat → Nat) (cBad cFul cCnt cOpc cStp cTsz cRcn cPlc cFlt cVil cLsz : Int32) (cRts cLns cOpn cGps cTrl cWgt cRch cByt cWds cFst cSnd cSgn : Nat → Int32) (p0 : Int32) (p1 : Int32) (rv : Int32) (hf : fX1_aspect cCnt cRts cLns cOpn p0 p1 = some rv) : Met l yX1_aspect wsX1_aspect (rmN 1 23) (PR D (tyL cI cB cZ) (wC cI cB cZ ad cBad cFul cCnt cOpc cStp cTsz cRcn cPlc cFlt cVil cLsz cRts cLns cOpn cGps cTrl cWgt cRch cByt cWds cFst cSnd cSgn) [.ref (ad 1), .int p0, .int p1]) (SI rv) 0 0 (fun _ => False) := by
  refine mk_met cX1_aspect 3 (some .int) (by decide) rfl (Nat.le_of_ble_eq_true rfl) ?_
  intro p e s m args below meth c ls hx hb hr hlk hml hown hts hPK hl
  obtain ⟨hP, hK⟩ := hPK
  replace hl : lv_has ls 3 [(0, .ref (ad 1)), (1, .int p0), (2, .int p1)] := hl
  replace hown : s.vm.findClass RX1 = some m.cls := hown
  have hiX1 : ∀ w ∈ wsX10, w ∈ wsX1_aspect := fun w h => List.mem_cons_of_mem _ (List.mem_append_right _ h)
  unfold fX1_aspect at hf
  refine lv_aload_n hx hb dX1_aspect_0 rfl (lv_at hl 0 rfl) ?_
  refine lv_iload_n hx hb dX1_aspect_1 rfl (lv_at hl 1 rfl) ?_
  obtain ⟨r_1, hq, hf⟩ := ob hf
  try dsimp only at hf
  refine rcV 1 1 (As := [.int p0]) (rest := []) ⟨hx, hb, hml, hown, hts⟩ (ctX1_has l D cI cB cZ ad cBad cFul cCnt cOpc cStp cTsz cRcn cPlc cFlt cVil cLsz cRts cLns cOpn cGps cTrl cWgt cRch cByt cWds cFst cSnd cSgn p0 r_1 hq) (cwV 1 hts gX1_aspect_X1_has rfl rfl rfl (by decide +kernel) ⟨Nat.le_of_ble_eq_true rfl, Nat.le_of_ble_eq_true rfl⟩) hK hP rfl rfl rfl hl.1 rfl (Nat.le_of_ble_eq_true rfl) dX1_aspect_2 ⟨Nat.zero_le _, Nat.zero_le _⟩ ?_
  refine lv_if_ne (tgt := 10) hx hb dX1_aspect_5 (by decide) (fun hc => ?_) (fun hc => ?_)
  · replace hf := (if_neg hc).symm.trans hf
    refine lv_iload_n hx hb dX1_aspect_10 rfl (lv_at hl 2 rfl) ?_
    by_cases hc0 : p1 = (0 : Int32)
    · replace hf := (if_pos hc0).symm.trans hf
      refine lv_tableIn (tgt := 36) hx hb dX1_aspect_11 (by rw [hc0]; decide) (by rw [hc0]; decide) (by rw [hc0]; rfl) (by decide) ?_
      refine lv_aload_n hx hb dX1_aspect_36 rfl (lv_at hl 0 rfl) ?_
      refine va_get (ci := 1) (v := .ref (ad 2)) (C := RX1) (T := TX1) (N := 6) hx hb hts hiX1 hown hK hP 1 rfl rfl 0 (by decide) (hts _ (List.mem_of_getElem? (i := 1) rfl)) (fun _ h9 => h9) rfl dX1_aspect_37 ?_
      refine lv_iload_n hx hb dX1_aspect_40 rfl (lv_at hl 1 rfl) ?_
      obtain ⟨hg, hf⟩ := og hf
      refine va_iald hx hb hK hP 2 0 rfl rfl (gI_in hg) dX1_aspect_41 ?_
      exact re_i hx hb hr hlk dX1_aspect_42 hf
    replace hf := (if_neg hc0).symm.trans hf
    by_cases hc1 : p1 = (1 : Int32)
    · replace hf := (if_pos hc1).symm.trans hf
      refine lv_tableIn (tgt := 43) hx hb dX1_aspect_11 (by rw [hc1]; decide) (by rw [hc1]; decide) (by rw [hc1]; rfl) (by decide) ?_
      refine lv_aload_n hx hb dX1_aspect_43 rfl (lv_at hl 0 rfl) ?_
      refine va_get (ci := 1) (v := .ref (ad 3)) (C := RX1) (T := TX1) (N := 6) hx hb hts hiX1 hown hK hP 1 rfl rfl 1 (by decide) (hts _ (List.mem_of_getElem? (i := 2) rfl)) (fun _ h9 => h9) rfl dX1_aspect_44 ?_
      refine lv_iload_n hx hb dX1_aspect_47 rfl (lv_at hl 1 rfl) ?_
      obtain ⟨hg, hf⟩ := og hf
      refine va_iald hx hb hK hP 3 0 rfl rfl (gI_in hg) dX1_aspect_48 ?_
      exact re_i hx hb hr hlk dX1_aspect_49 hf
    replace hf := (if_neg hc1).symm.trans hf
    by_cases hc2 : p1 = (2 : Int32)
    · replace hf := (if_pos hc2).symm.trans hf
      refine lv_tableIn (tgt := 50) hx hb dX1_aspect_11 (by rw [hc2]; decide) (by rw [hc2]; decide) (by rw [hc2]; rfl) (by decide) ?_
      refine lv_aload_n hx hb dX1_aspect_50 rfl (lv_at hl 0 rfl) ?_
      refine va_get (ci := 1) (v := .ref (ad 4)) (C := RX1) (T := TX1) (N := 6) hx hb hts hiX1 hown hK hP 1 rfl rfl 2 (by decide) (hts _ (List.mem_of_getElem? (i := 3) rfl)) (fun _ h9 => h9) rfl dX1_aspect_51 ?_
      refine lv_iload_n hx hb dX1_aspect_54 rfl (lv_at hl 1 rfl) ?_
      obtain ⟨hg, hf⟩ := og hf
      refine va_zald hx hb hK hP 4 2 rfl rfl (gI_in hg) dX1_aspect_55 ?_
      refine lv_if_eq (tgt := 63) hx hb dX1_aspect_56 (by decide) (fun hc => ?_) (fun hc => ?_)
      · replace hf := (if_pos hc).symm.trans hf
        refine lv_iconst (v := (0 : Int32)) hx hb dX1_aspect_63 (by decide) ?_
        exact re_i hx hb hr hlk dX1_aspect_64 hf
      · replace hf := (if_neg hc).symm.trans hf
        refine lv_iconst (v := (1 : Int32)) hx hb dX1_aspect_59 (by decide) ?_
        refine lv_goto (tgt := 64) hx hb dX1_aspect_60 (by decide) ?_
        exact re_i hx hb hr hlk dX1_aspect_64 hf
    replace hf := (if_neg hc2).symm.trans hf
    refine lv_tableOut (tgt := 65) hx hb dX1_aspect_11 (by have e0 := ne_ti (z := 0) hc0 (by decide); have e1 := ne_ti (z := 1) hc1 (by decide); have e2 := ne_ti (z := 2) hc2 (by decide); omega) (by decide) ?_
    refine lv_aload_n hx hb dX1_aspect_65 rfl (lv_at hl 0 rfl) ?_
    refine lv_iload_n hx hb dX1_aspect_66 rfl (lv_at hl 1 rfl) ?_
    obtain ⟨r_2, hq, hf⟩ := ob hf
    try dsimp only at hf
    refine rcV 1 1 (As := [.int p0]) (rest := []) ⟨hx, hb, hml, hown, hts⟩ (ctX1_countRoads l D cI cB cZ ad cBad cFul cCnt cOpc cStp cTsz cRcn cPlc cFlt cVil cLsz cRts cLns cOpn cGps cTrl cWgt cRch cByt cWds cFst cSnd cSgn p0 r_2 hq) (cwV 1 hts gX1_aspect_X1_countRoads rfl rfl rfl (by decide +kernel) ⟨Nat.le_of_ble_eq_true rfl, Nat.le_of_ble_eq_true rfl⟩) hK hP rfl rfl rfl hl.1 rfl (Nat.le_of_ble_eq_true rfl) dX1_aspect_67 ⟨Nat.zero_le _, Nat.zero_le _⟩ ?_
    exact re_i hx hb hr hlk dX1_aspect_70 hf
  · replace hf := (if_pos hc).symm.trans hf
    refine lv_iconst (v := (-1 : Int32)) hx hb dX1_aspect_8 (by decide) ?_
    exact re_i hx hb hr hlk dX1_aspect_9 hf
