def fX4_tellNearest (cCnt : Int32) (cLsz : Int32) (cOpn : Nat → Int32) (cGps : Nat → Int32) (cSgn : Nat → Int32) (p0 : Int32) : Option (Int32 × (Nat → Int32)) :=
  ((fX0_closest cCnt cOpn cGps p0).bind fun r_1 => (if r_1 = (-1 : Int32) then ((fX2_put cLsz cSgn (45 : Int32)).bind fun (qcLsz_9, qcSgn_10) => (some (qcLsz_9, qcSgn_10))) else ((fX2_putNumber cLsz cSgn r_1).bind fun (qcLsz_2, qcSgn_3) => ((fX2_put qcLsz_2 qcSgn_3 (64 : Int32)).bind fun (qcLsz_4, qcSgn_5) => ((fX1_gap cGps p0 r_1).bind fun r_6 => ((fX2_putNumber qcLsz_4 qcSgn_5 r_6).bind fun (qcLsz_7, qcSgn_8) => (some (qcLsz_7, qcSgn_8))))))))
set_option maxRecDepth 100000 in
set_option maxHeartbeats 4000000 in
theorem ctX4_tellNearest (l : Launch) (D : va_G) (cI cB cZ : ClassId) (ad : Nat → Nat) (A : Nat → Prop) (hAD : AD A ad 20) (cBad cFul cCnt cOpc cStp cTsz cRcn cPlc cFlt cVil cLsz : Int32) (cRts cLns cOpn cGps cTrl cWgt cRch cByt cWds cFst cSnd cSgn : Nat → Int32) (p0 : Int32) (zcLsz : Int32) (zcSgn : Nat → Int32) (hf : fX4_tellNearest cCnt cLsz cOpn cGps cSgn p0 = some (zcLsz, zcSgn)) : Met l yX4_tellNearest wsX4_tellNearest (rmN 2 47) (PR D (tyL cI cB cZ) (wC cI cB cZ ad cBad cFul cCnt cOpc cStp cTsz cRcn cPlc cFlt cVil cLsz cRts cLns cOpn cGps cTrl cWgt cRch cByt cWds cFst cSnd cSgn) [.ref (ad 19), .int p0]) (QV D (wC cI cB cZ ad cBad cFul cCnt cOpc cStp cTsz cRcn cPlc cFlt cVil zcLsz cRts cLns cOpn cGps cTrl cWgt cRch cByt cWds cFst cSnd zcSgn) A) 0 0 A := by
  refine mk_met cX4_tellNearest 3 none (by decide) rfl (Nat.le_of_ble_eq_true rfl) ?_
  intro p e s m args below meth c ls hx hb hr hlk hml hown hts hPK hl
  obtain ⟨hP, hK⟩ := hPK
  replace hl : lv_has ls 3 [(0, .ref (ad 19)), (1, .int p0)] := hl
  replace hown : s.vm.findClass RX4 = some m.cls := hown
  have hiX4 : ∀ w ∈ wsX40, w ∈ wsX4_tellNearest := fun w h => List.mem_cons_of_mem _ (List.mem_append_left _ (List.mem_append_left _ (List.mem_append_left _ (List.mem_append_right _ h))))
  have hS : va_S A s.heap s.heap [] := va_S.rf
  unfold fX4_tellNearest at hf
  refine lv_aload_n hx hb dX4_tellNearest_0 rfl (lv_at hl 0 rfl) ?_
  refine va_get (ci := 4) (v := .ref (ad 9)) (C := RX4) (T := TX4) (N := 4) hx hb hts hiX4 hown hK hP 19 rfl rfl 2 (by decide) (hts _ (List.mem_of_getElem? (i := 1) rfl)) (fun _ h9 => h9) rfl dX4_tellNearest_1 ?_
  refine lv_iload_n hx hb dX4_tellNearest_4 rfl (lv_at hl 1 rfl) ?_
  obtain ⟨r_1, hq, hf⟩ := ob hf
  try dsimp only at hf
  refine rcV 9 0 (As := [.int p0]) (rest := []) ⟨hx, hb, hml, hown, hts⟩ (ctX0_closest l D cI cB cZ ad cBad cFul cCnt cOpc cStp cTsz cRcn cPlc cFlt cVil cLsz cRts cLns cOpn cGps cTrl cWgt cRch cByt cWds cFst cSnd cSgn p0 r_1 hq) (cwV 1 hts gX4_tellNearest_X0_closest rfl rfl rfl (by decide +kernel) ⟨Nat.le_of_ble_eq_true rfl, Nat.le_of_ble_eq_true rfl⟩) hK hP rfl rfl rfl hl.1 rfl (Nat.le_of_ble_eq_true rfl) dX4_tellNearest_5 ⟨Nat.zero_le _, Nat.zero_le _⟩ ?_
  refine lv_istore_n (lv' := [(2, .int r_1), (0, .ref (ad 19)), (1, .int p0)]) hx hb dX4_tellNearest_8 rfl hl (by decide) rfl (fun ls hl => ?_)
  refine lv_iload_n hx hb dX4_tellNearest_9 rfl (lv_at hl 0 rfl) ?_
  refine lv_iconst (v := (-1 : Int32)) hx hb dX4_tellNearest_10 (by decide) ?_
  refine lv_icmp_ne (tgt := 24) hx hb dX4_tellNearest_11 (by decide) (fun hc => ?_) (fun hc => ?_)
  · replace hf := (if_neg hc).symm.trans hf
    refine lv_aload_n hx hb dX4_tellNearest_24 rfl (lv_at hl 1 rfl) ?_
    refine va_get (ci := 4) (v := .ref (ad 17)) (C := RX4) (T := TX4) (N := 4) hx hb hts hiX4 hown hK hP 19 rfl rfl 3 (by decide) (hts _ (List.mem_of_getElem? (i := 2) rfl)) (fun _ h9 => h9) rfl dX4_tellNearest_25 ?_
    refine lv_iload_n hx hb dX4_tellNearest_28 rfl (lv_at hl 0 rfl) ?_
    obtain ⟨⟨qcLsz_2, qcSgn_3⟩, hq, hf⟩ := ob hf
    try dsimp only at hf
    refine mcVv 17 2 (As := [.int r_1]) (rest := []) ⟨hx, hb, hml, hown, hts⟩ (ctX2_putNumber l D cI cB cZ ad A hAD cBad cFul cCnt cOpc cStp cTsz cRcn cPlc cFlt cVil cLsz cRts cLns cOpn cGps cTrl cWgt cRch cByt cWds cFst cSnd cSgn r_1 qcLsz_2 qcSgn_3 hq) (cwV 1 hts gX4_tellNearest_X2_putNumber rfl rfl rfl (by decide +kernel) ⟨Nat.le_of_ble_eq_true rfl, Nat.le_of_ble_eq_true rfl⟩) hK hP hS rfl rfl rfl hl.1 rfl (Nat.le_of_ble_eq_true rfl) dX4_tellNearest_29 ⟨Nat.zero_le _, Nat.zero_le _⟩ (fun H locs hP hS => ?_)
    refine lv_aload_n hx hb dX4_tellNearest_32 rfl (lv_at hl 1 rfl) ?_
    refine va_get (ci := 4) (v := .ref (ad 17)) (C := RX4) (T := TX4) (N := 4) hx hb hts hiX4 hown hK hP 19 rfl rfl 3 (by decide) (hts _ (List.mem_of_getElem? (i := 2) rfl)) (fun _ h9 => h9) rfl dX4_tellNearest_33 ?_
    refine lv_bipush (v := (64 : Int32)) hx hb dX4_tellNearest_36 (by decide) ?_
    obtain ⟨⟨qcLsz_4, qcSgn_5⟩, hq, hf⟩ := ob hf
    try dsimp only at hf
    refine mcVv 17 2 (As := [.int (64 : Int32)]) (rest := []) ⟨hx, hb, hml, hown, hts⟩ (ctX2_put l D cI cB cZ ad A hAD cBad cFul cCnt cOpc cStp cTsz cRcn cPlc cFlt cVil qcLsz_2 cRts cLns cOpn cGps cTrl cWgt cRch cByt cWds cFst cSnd qcSgn_3 (64 : Int32) qcLsz_4 qcSgn_5 hq) (cwV 1 hts gX4_tellNearest_X2_put rfl rfl rfl (by decide +kernel) ⟨Nat.le_of_ble_eq_true rfl, Nat.le_of_ble_eq_true rfl⟩) hK hP hS rfl rfl rfl hl.1 rfl (Nat.le_of_ble_eq_true rfl) dX4_tellNearest_38 ⟨Nat.zero_le _, Nat.zero_le _⟩ (fun H locs hP hS => ?_)
    refine lv_aload_n hx hb dX4_tellNearest_41 rfl (lv_at hl 1 rfl) ?_
    refine va_get (ci := 4) (v := .ref (ad 17)) (C := RX4) (T := TX4) (N := 4) hx hb hts hiX4 hown hK hP 19 rfl rfl 3 (by decide) (hts _ (List.mem_of_getElem? (i := 2) rfl)) (fun _ h9 => h9) rfl dX4_tellNearest_42 ?_
    refine lv_aload_n hx hb dX4_tellNearest_45 rfl (lv_at hl 1 rfl) ?_
    refine va_get (ci := 4) (v := .ref (ad 1)) (C := RX4) (T := TX4) (N := 4) hx hb hts hiX4 hown hK hP 19 rfl rfl 0 (by decide) (hts _ (List.mem_of_getElem? (i := 3) rfl)) (fun _ h9 => h9) rfl dX4_tellNearest_46 ?_
    refine lv_iload_n hx hb dX4_tellNearest_49 rfl (lv_at hl 2 rfl) ?_
    refine lv_iload_n hx hb dX4_tellNearest_50 rfl (lv_at hl 0 rfl) ?_
    obtain ⟨r_6, hq, hf⟩ := ob hf
    try dsimp only at hf
    refine rcV 1 1 (As := [.int p0, .int r_1]) (rest := [.ref (ad 17)]) ⟨hx, hb, hml, hown, hts⟩ (ctX1_gap l D cI cB cZ ad cBad cFul cCnt cOpc cStp cTsz cRcn cPlc cFlt cVil qcLsz_4 cRts cLns cOpn cGps cTrl cWgt cRch cByt cWds cFst cSnd qcSgn_5 p0 r_1 r_6 hq) (cwV 2 hts gX4_tellNearest_X1_gap rfl rfl rfl (by decide +kernel) ⟨Nat.le_of_ble_eq_true rfl, Nat.le_of_ble_eq_true rfl⟩) hK hP rfl rfl rfl hl.1 rfl (Nat.le_of_ble_eq_true rfl) dX4_tellNearest_51 ⟨Nat.zero_le _, Nat.zero_le _⟩ ?_
    obtain ⟨⟨qcLsz_7, qcSgn_8⟩, hq, hf⟩ := ob hf
    try dsimp only at hf
    refine mcVv 17 2 (As := [.int r_6]) (rest := []) ⟨hx, hb, hml, hown, hts⟩ (ctX2_putNumber l D cI cB cZ ad A hAD cBad cFul cCnt cOpc cStp cTsz cRcn cPlc cFlt cVil qcLsz_4 cRts cLns cOpn cGps cTrl cWgt cRch cByt cWds cFst cSnd qcSgn_5 r_6 qcLsz_7 qcSgn_8 hq) (cwV 1 hts gX4_tellNearest_X2_putNumber rfl rfl rfl (by decide +kernel) ⟨Nat.le_of_ble_eq_true rfl, Nat.le_of_ble_eq_true rfl⟩) hK hP hS rfl rfl rfl hl.1 rfl (Nat.le_of_ble_eq_true rfl) dX4_tellNearest_54 ⟨Nat.zero_le _, Nat.zero_le _⟩ (fun H locs hP hS => ?_)
    obtain ⟨e0, hz1⟩ := Prod.mk.inj (Option.some.inj hf)
    subst e0
    subst hz1
    exact rm_v hx hb hr hlk hP hS dX4_tellNearest_57
  · replace hf := (if_pos hc).symm.trans hf
    refine lv_aload_n hx hb dX4_tellNearest_14 rfl (lv_at hl 1 rfl) ?_
    refine va_get (ci := 4) (v := .ref (ad 17)) (C := RX4) (T := TX4) (N := 4) hx hb hts hiX4 hown hK hP 19 rfl rfl 3 (by decide) (hts _ (List.mem_of_getElem? (i := 2) rfl)) (fun _ h9 => h9) rfl dX4_tellNearest_15 ?_
    refine lv_bipush (v := (45 : Int32)) hx hb dX4_tellNearest_18 (by decide) ?_
    obtain ⟨⟨qcLsz_9, qcSgn_10⟩, hq, hf⟩ := ob hf
    try dsimp only at hf
    refine mcVv 17 2 (As := [.int (45 : Int32)]) (rest := []) ⟨hx, hb, hml, hown, hts⟩ (ctX2_put l D cI cB cZ ad A hAD cBad cFul cCnt cOpc cStp cTsz cRcn cPlc cFlt cVil cLsz cRts cLns cOpn cGps cTrl cWgt cRch cByt cWds cFst cSnd cSgn (45 : Int32) qcLsz_9 qcSgn_10 hq) (cwV 1 hts gX4_tellNearest_X2_put rfl rfl rfl (by decide +kernel) ⟨Nat.le_of_ble_eq_true rfl, Nat.le_of_ble_eq_true rfl⟩) hK hP hS rfl rfl rfl hl.1 rfl (Nat.le_of_ble_eq_true rfl) dX4_tellNearest_20 ⟨Nat.zero_le _, Nat.zero_le _⟩ (fun H locs hP hS => ?_)
    obtain ⟨e0, hz1⟩ := Prod.mk.inj (Option.some.inj hf)
    subst e0
    subst hz1
    exact rm_v hx hb hr hlk hP hS dX4_tellNearest_23

def fX4_tellWay_J35 (qcTrl_2 : Nat → Int32) (v3_3 : Int32) (kk : (Int32 × Int32 × (Nat → Int32)) → Option (Int32 × Int32 × (Nat → Int32))) (wcLsz_6 : Int32) (wcSgn_7 : Nat → Int32) : Option (Int32 × Int32 × (Nat → Int32)) :=
  (if gI v3_3 60 then ((fX2_putNumber wcLsz_6 wcSgn_7 (qcTrl_2 (v3_3).toNatClampNeg)).bind fun (qcLsz_8, qcSgn_9) => (kk ((v3_3 + (1 : Int32)), qcLsz_8, qcSgn_9))) else none)
def fX4_tellWay_L11 (qcStp_1 : Int32) (qcTrl_2 : Nat → Int32) (kk : (Int32 × Int32 × (Nat → Int32)) → Option (Int32 × Int32 × (Nat → Int32))) (ww : Int32 × Int32 × (Nat → Int32)) : Option (Int32 × Int32 × (Nat → Int32)) :=
  match ww with
  | (v3_3, wcLsz_4, wcSgn_5) => (if qcStp_1 ≤ v3_3 then (some (v3_3, wcLsz_4, wcSgn_5)) else (if v3_3 ≤ 0 then (fX4_tellWay_J35 qcTrl_2 v3_3 kk wcLsz_4 wcSgn_5) else ((fX2_put wcLsz_4 wcSgn_5 (62 : Int32)).bind fun (qcLsz_10, qcSgn_11) => (fX4_tellWay_J35 qcTrl_2 v3_3 kk qcLsz_10 qcSgn_11))))
def fX4_tellWay (cCnt : Int32) (cStp : Int32) (cLsz : Int32) (cRts : Nat → Int32) (cTrl : Nat → Int32) (cSgn : Nat → Int32) (p0 : Int32) (p1 : Int32) : Option (Int32 × Int32 × (Nat → Int32) × (Nat → Int32)) :=
  ((fX6_walk cCnt cStp cRts cTrl p0 p1).bind fun (qcStp_1, qcTrl_2) => ((lp (fX4_tellWay_L11 qcStp_1 qcTrl_2) FU ((0 : Int32), cLsz, cSgn)).bind fun (ov3_3, owcLsz_4, owcSgn_5) => (some (qcStp_1, owcLsz_4, qcTrl_2, owcSgn_5))))
set_option maxRecDepth 100000 in
set_option maxHeartbeats 4000000 in
theorem ctX4_tellWay (l : Launch) (D : va_G) (cI cB cZ : ClassId) (ad : Nat → Nat) (A : Nat → Prop) (hAD : AD A ad 20) (cBad cFul cCnt cOpc cStp cTsz cRcn cPlc cFlt cVil cLsz : Int32) (cRts cLns cOpn cGps cTrl cWgt cRch cByt cWds cFst cSnd cSgn : Nat → Int32) (p0 : Int32) (p1 : Int32) (zcStp : Int32) (zcLsz : Int32) (zcTrl : Nat → Int32) (zcSgn : Nat → Int32) (hf : fX4_tellWay cCnt cStp cLsz cRts cTrl cSgn p0 p1 = some (zcStp, zcLsz, zcTrl, zcSgn)) : Met l yX4_tellWay wsX4_tellWay (rmN 2 48) (PR D (tyL cI cB cZ) (wC cI cB cZ ad cBad cFul cCnt cOpc cStp cTsz cRcn cPlc cFlt cVil cLsz cRts cLns cOpn cGps cTrl cWgt cRch cByt cWds cFst cSnd cSgn) [.ref (ad 19), .int p0, .int p1]) (QV D (wC cI cB cZ ad cBad cFul cCnt cOpc zcStp cTsz cRcn cPlc cFlt cVil zcLsz cRts cLns cOpn cGps zcTrl cWgt cRch cByt cWds cFst cSnd zcSgn) A) 0 0 A := by
  refine mk_met cX4_tellWay 4 none (by decide) rfl (Nat.le_of_ble_eq_true rfl) ?_
  intro p e s m args below meth c ls hx hb hr hlk hml hown hts hPK hl
  obtain ⟨hP, hK⟩ := hPK
  replace hl : lv_has ls 4 [(0, .ref (ad 19)), (1, .int p0), (2, .int p1)] := hl
  replace hown : s.vm.findClass RX4 = some m.cls := hown
  have hiX4 : ∀ w ∈ wsX40, w ∈ wsX4_tellWay := fun w h => List.mem_cons_of_mem _ (List.mem_append_left _ (List.mem_append_left _ (List.mem_append_left _ (List.mem_append_right _ h))))
  have hiX6 : ∀ w ∈ wsX60, w ∈ wsX4_tellWay := fun w h => List.mem_cons_of_mem _ (List.mem_append_left _ (List.mem_append_left _ (List.mem_append_right _ h)))
  have hS : va_S A s.heap s.heap [] := va_S.rf
  unfold fX4_tellWay at hf
  refine lv_aload_n hx hb dX4_tellWay_0 rfl (lv_at hl 0 rfl) ?_
  refine va_get (ci := 4) (v := .ref (ad 6)) (C := RX4) (T := TX4) (N := 4) hx hb hts hiX4 hown hK hP 19 rfl rfl 1 (by decide) (hts _ (List.mem_of_getElem? (i := 1) rfl)) (fun _ h9 => h9) rfl dX4_tellWay_1 ?_
  refine lv_iload_n hx hb dX4_tellWay_4 rfl (lv_at hl 1 rfl) ?_
  refine lv_iload_n hx hb dX4_tellWay_5 rfl (lv_at hl 2 rfl) ?_
  obtain ⟨⟨qcStp_1, qcTrl_2⟩, hq, hf⟩ := ob hf
  try dsimp only at hf
  refine mcVv 6 6 (As := [.int p0, .int p1]) (rest := []) ⟨hx, hb, hml, hown, hts⟩ (ctX6_walk l D cI cB cZ ad A hAD cBad cFul cCnt cOpc cStp cTsz cRcn cPlc cFlt cVil cLsz cRts cLns cOpn cGps cTrl cWgt cRch cByt cWds cFst cSnd cSgn p0 p1 qcStp_1 qcTrl_2 hq) (cwV 2 hts gX4_tellWay_X6_walk rfl rfl rfl (by decide +kernel) ⟨Nat.le_of_ble_eq_true rfl, Nat.le_of_ble_eq_true rfl⟩) hK hP hS rfl rfl rfl hl.1 rfl (Nat.le_of_ble_eq_true rfl) dX4_tellWay_6 ⟨Nat.zero_le _, Nat.zero_le _⟩ (fun H locs hP hS => ?_)
  refine lv_iconst (v := (0 : Int32)) hx hb dX4_tellWay_9 (by decide) ?_
  refine lv_istore_n (lv' := [(3, .int (0 : Int32)), (0, .ref (ad 19)), (1, .int p0), (2, .int p1)]) hx hb dX4_tellWay_10 rfl hl (by decide) rfl (fun ls hl => ?_)
  have hL11 : ∀ (n : Nat) (v3_3 : Int32) (wcLsz_4 : Int32) (wcSgn_5 : Nat → Int32) (ov3_3 : Int32) (owcLsz_4 : Int32) (owcSgn_5 : Nat → Int32) (H : Heap) (locs : List Loc) (ls : Array Slot), lp (fX4_tellWay_L11 qcStp_1 qcTrl_2) n (v3_3, wcLsz_4, wcSgn_5) = some (ov3_3, owcLsz_4, owcSgn_5) → va_P D vwCl (wC cI cB cZ ad cBad cFul cCnt cOpc qcStp_1 cTsz cRcn cPlc cFlt cVil wcLsz_4 cRts cLns cOpn cGps qcTrl_2 cWgt cRch cByt cWds cFst cSnd wcSgn_5) H → va_S A s.heap H locs → lv_has ls 4 [(0, .ref (ad 19)), (1, .int p0), (2, .int p1), (3, .int v3_3)] → (∀ (H : Heap) (locs : List Loc) (ls : Array Slot), va_P D vwCl (wC cI cB cZ ad cBad cFul cCnt cOpc qcStp_1 cTsz cRcn cPlc cFlt cVil owcLsz_4 cRts cLns cOpn cGps qcTrl_2 cWgt cRch cByt cWds cFst cSnd owcSgn_5) H → va_S A s.heap H locs → lv_has ls 4 [(0, .ref (ad 19)), (1, .int p0), (2, .int p1), (3, .int ov3_3)] → W p l e (rmN 2 48) s m args below meth c H locs 0 0 (MQ below (QV D (wC cI cB cZ ad cBad cFul cCnt cOpc zcStp cTsz cRcn cPlc cFlt cVil zcLsz cRts cLns cOpn cGps zcTrl cWgt cRch cByt cWds cFst cSnd zcSgn) A) args s 0 0 A) (F0 m 57 ls [])) → W p l e (rmN 2 48) s m args below meth c H locs 0 0 (MQ below (QV D (wC cI cB cZ ad cBad cFul cCnt cOpc zcStp cTsz cRcn cPlc cFlt cVil zcLsz cRts cLns cOpn cGps zcTrl cWgt cRch cByt cWds cFst cSnd zcSgn) A) args s 0 0 A) (F0 m 11 ls []) := by
    intro n
    induction n with
    | zero => intro v3_3 wcLsz_4 wcSgn_5 ov3_3 owcLsz_4 owcSgn_5 H locs ls hf; exact (lp_0 hf).elim
    | succ n ih =>
      intro v3_3 wcLsz_4 wcSgn_5 ov3_3 owcLsz_4 owcSgn_5 H locs ls hf hP hS hl hE
      replace hf := lp_s hf
      dsimp only [fX4_tellWay_L11] at hf
      refine lv_iload_n hx hb dX4_tellWay_11 rfl (lv_at hl 3 rfl) ?_
      refine lv_aload_n hx hb dX4_tellWay_12 rfl (lv_at hl 0 rfl) ?_
      refine va_get (ci := 4) (v := .ref (ad 6)) (C := RX4) (T := TX4) (N := 4) hx hb hts hiX4 hown hK hP 19 rfl rfl 1 (by decide) (hts _ (List.mem_of_getElem? (i := 1) rfl)) (fun _ h9 => h9) rfl dX4_tellWay_13 ?_
      refine va_get (ci := 6) (v := .int qcStp_1) (C := RX6) (T := TX6) (N := 4) hx hb hts hiX6 hown hK hP 6 rfl rfl 2 (by decide) (hts _ (List.mem_of_getElem? (i := 2) rfl)) (fun _ h9 => h9) rfl dX4_tellWay_16 ?_
      refine lv_icmp_ge (tgt := 57) hx hb dX4_tellWay_19 (by decide) (fun hc => ?_) (fun hc => ?_)
      · replace hf := (if_pos hc).symm.trans hf
        cases hf
        exact hE _ _ _ hP hS (lv_sub hl [0, 1, 2, 3] rfl)
      · replace hf := (if_neg hc).symm.trans hf
        refine lv_iload_n hx hb dX4_tellWay_22 rfl (lv_at hl 3 rfl) ?_
        have hJ35 : ∀ (wcLsz_6 : Int32) (wcSgn_7 : Nat → Int32) (H : Heap) (locs : List Loc) (ls : Array Slot), fX4_tellWay_J35 qcTrl_2 v3_3 (lp (fX4_tellWay_L11 qcStp_1 qcTrl_2) n) wcLsz_6 wcSgn_7 = some (ov3_3, owcLsz_4, owcSgn_5) → va_P D vwCl (wC cI cB cZ ad cBad cFul cCnt cOpc qcStp_1 cTsz cRcn cPlc cFlt cVil wcLsz_6 cRts cLns cOpn cGps qcTrl_2 cWgt cRch cByt cWds cFst cSnd wcSgn_7) H → va_S A s.heap H locs → lv_has ls 4 [(0, .ref (ad 19)), (1, .int p0), (2, .int p1), (3, .int v3_3)] → W p l e (rmN 2 48) s m args below meth c H locs 0 0 (MQ below (QV D (wC cI cB cZ ad cBad cFul cCnt cOpc zcStp cTsz cRcn cPlc cFlt cVil zcLsz cRts cLns cOpn cGps zcTrl cWgt cRch cByt cWds cFst cSnd zcSgn) A) args s 0 0 A) (F0 m 35 ls []) := by
          intro wcLsz_6 wcSgn_7 H locs ls hf hP hS hl
          unfold fX4_tellWay_J35 at hf
          refine lv_aload_n hx hb dX4_tellWay_35 rfl (lv_at hl 0 rfl) ?_
          refine va_get (ci := 4) (v := .ref (ad 17)) (C := RX4) (T := TX4) (N := 4) hx hb hts hiX4 hown hK hP 19 rfl rfl 3 (by decide) (hts _ (List.mem_of_getElem? (i := 3) rfl)) (fun _ h9 => h9) rfl dX4_tellWay_36 ?_
          refine lv_aload_n hx hb dX4_tellWay_39 rfl (lv_at hl 0 rfl) ?_
          refine va_get (ci := 4) (v := .ref (ad 6)) (C := RX4) (T := TX4) (N := 4) hx hb hts hiX4 hown hK hP 19 rfl rfl 1 (by decide) (hts _ (List.mem_of_getElem? (i := 1) rfl)) (fun _ h9 => h9) rfl dX4_tellWay_40 ?_
          refine va_get (ci := 6) (v := .ref (ad 7)) (C := RX6) (T := TX6) (N := 4) hx hb hts hiX6 hown hK hP 6 rfl rfl 1 (by decide) (hts _ (List.mem_of_getElem? (i := 4) rfl)) (fun _ h9 => h9) rfl dX4_tellWay_43 ?_
          refine lv_iload_n hx hb dX4_tellWay_46 rfl (lv_at hl 3 rfl) ?_
          obtain ⟨hg, hf⟩ := og hf
          refine va_iald hx hb hK hP 7 0 rfl rfl (gI_in hg) dX4_tellWay_47 ?_
          obtain ⟨⟨qcLsz_8, qcSgn_9⟩, hq, hf⟩ := ob hf
          try dsimp only at hf
          refine mcVv 17 2 (As := [.int (qcTrl_2 (v3_3).toNatClampNeg)]) (rest := []) ⟨hx, hb, hml, hown, hts⟩ (ctX2_putNumber l D cI cB cZ ad A hAD cBad cFul cCnt cOpc qcStp_1 cTsz cRcn cPlc cFlt cVil wcLsz_6 cRts cLns cOpn cGps qcTrl_2 cWgt cRch cByt cWds cFst cSnd wcSgn_7 (qcTrl_2 (v3_3).toNatClampNeg) qcLsz_8 qcSgn_9 hq) (cwV 1 hts gX4_tellWay_X2_putNumber rfl rfl rfl (by decide +kernel) ⟨Nat.le_of_ble_eq_true rfl, Nat.le_of_ble_eq_true rfl⟩) hK hP hS rfl rfl rfl hl.1 rfl (Nat.le_of_ble_eq_true rfl) dX4_tellWay_48 ⟨Nat.zero_le _, Nat.zero_le _⟩ (fun H locs hP hS => ?_)
          refine lv_iinc (v := (v3_3 + (1 : Int32))) (lv' := [(3, .int (v3_3 + (1 : Int32))), (0, .ref (ad 19)), (1, .int p0), (2, .int p1)]) hx hb dX4_tellWay_51 hl (k := 3) rfl rfl (by decide) rfl (fun ls hl => ?_)
          refine lv_goto (tgt := 11) hx hb dX4_tellWay_54 (by decide) ?_
          exact ih _ _ _ _ _ _ _ _ _ hf hP hS (lv_sub hl [1, 2, 3, 0] rfl) hE
        refine lv_if_le (tgt := 35) hx hb dX4_tellWay_23 (by decide) (fun hc => ?_) (fun hc => ?_)
        · replace hf := (if_pos hc).symm.trans hf
          exact hJ35 _ _ _ _ _ hf hP hS (lv_sub hl [0, 1, 2, 3] rfl)
        · replace hf := (if_neg hc).symm.trans hf
          refine lv_aload_n hx hb dX4_tellWay_26 rfl (lv_at hl 0 rfl) ?_
          refine va_get (ci := 4) (v := .ref (ad 17)) (C := RX4) (T := TX4) (N := 4) hx hb hts hiX4 hown hK hP 19 rfl rfl 3 (by decide) (hts _ (List.mem_of_getElem? (i := 3) rfl)) (fun _ h9 => h9) rfl dX4_tellWay_27 ?_
          refine lv_bipush (v := (62 : Int32)) hx hb dX4_tellWay_30 (by decide) ?_
          obtain ⟨⟨qcLsz_10, qcSgn_11⟩, hq, hf⟩ := ob hf
          try dsimp only at hf
          refine mcVv 17 2 (As := [.int (62 : Int32)]) (rest := []) ⟨hx, hb, hml, hown, hts⟩ (ctX2_put l D cI cB cZ ad A hAD cBad cFul cCnt cOpc qcStp_1 cTsz cRcn cPlc cFlt cVil wcLsz_4 cRts cLns cOpn cGps qcTrl_2 cWgt cRch cByt cWds cFst cSnd wcSgn_5 (62 : Int32) qcLsz_10 qcSgn_11 hq) (cwV 1 hts gX4_tellWay_X2_put rfl rfl rfl (by decide +kernel) ⟨Nat.le_of_ble_eq_true rfl, Nat.le_of_ble_eq_true rfl⟩) hK hP hS rfl rfl rfl hl.1 rfl (Nat.le_of_ble_eq_true rfl) dX4_tellWay_32 ⟨Nat.zero_le _, Nat.zero_le _⟩ (fun H locs hP hS => ?_)
          exact hJ35 _ _ _ _ _ hf hP hS (lv_sub hl [0, 1, 2, 3] rfl)
  obtain ⟨⟨ov3_3, owcLsz_4, owcSgn_5⟩, hq, hf⟩ := ob hf
  try dsimp only at hf
  refine hL11 FU _ _ _ ov3_3 owcLsz_4 owcSgn_5 _ _ ls hq hP hS (lv_sub hl [1, 2, 3, 0] rfl) (fun H locs ls hP hS hl => ?_)
  obtain ⟨e0, hz1⟩ := Prod.mk.inj (Option.some.inj hf)
  obtain ⟨e1, hz2⟩ := Prod.mk.inj hz1
  obtain ⟨e2, hz3⟩ := Prod.mk.inj hz2
  subst e0
  subst e1
  subst e2
  subst hz3
  exact rm_v hx hb hr hlk hP hS dX4_tellWay_57

def fX4_tellAll_J70 (v2_4 : Int32) (kk : (Int32 × Int32 × Int32 × (Nat → Int32)) → Option (Int32 × Int32 × Int32 × (Nat → Int32))) (v1_7 : Int32) (wcLsz_8 : Int32) (wcSgn_9 : Nat → Int32) : Option (Int32 × Int32 × Int32 × (Nat → Int32)) :=
  (kk (v1_7, (v2_4 + (1 : Int32)), wcLsz_8, wcSgn_9))
def fX4_tellAll_J59 (v1_3 : Int32) (v2_4 : Int32) (kk : (Int32 × Int32 × Int32 × (Nat → Int32)) → Option (Int32 × Int32 × Int32 × (Nat → Int32))) (wcLsz_10 : Int32) (wcSgn_11 : Nat → Int32) : Option (Int32 × Int32 × Int32 × (Nat → Int32)) :=
  ((fX2_putNumber wcLsz_10 wcSgn_11 v2_4).bind fun (qcLsz_12, qcSgn_13) => (fX4_tellAll_J70 v2_4 kk (v1_3 + (1 : Int32)) qcLsz_12 qcSgn_13))
def fX4_tellAll_L23 (cCnt : Int32) (cOpn : Nat → Int32) (kk : (Int32 × Int32 × Int32 × (Nat → Int32)) → Option (Int32 × Int32 × Int32 × (Nat → Int32))) (ww : Int32 × Int32 × Int32 × (Nat → Int32)) : Option (Int32 × Int32 × Int32 × (Nat → Int32)) :=
  match ww with
  | (v1_3, v2_4, wcLsz_5, wcSgn_6) => (if cCnt ≤ v2_4 then (some (v1_3, v2_4, wcLsz_5, wcSgn_6)) else (if gI v2_4 60 then (if (cOpn (v2_4).toNatClampNeg) = 0 then (fX4_tellAll_J70 v2_4 kk v1_3 wcLsz_5 wcSgn_6) else (if v1_3 ≤ 0 then (fX4_tellAll_J59 v1_3 v2_4 kk wcLsz_5 wcSgn_6) else ((fX2_put wcLsz_5 wcSgn_6 (44 : Int32)).bind fun (qcLsz_14, qcSgn_15) => (fX4_tellAll_J59 v1_3 v2_4 kk qcLsz_14 qcSgn_15)))) else none))
def fX4_tellAll_J19 (cCnt : Int32) (cOpn : Nat → Int32) (wcLsz_1 : Int32) (wcSgn_2 : Nat → Int32) : Option (Int32 × (Nat → Int32)) :=
  ((lp (fX4_tellAll_L23 cCnt cOpn) FU ((0 : Int32), (0 : Int32), wcLsz_1, wcSgn_2)).bind fun (ov1_3, ov2_4, owcLsz_5, owcSgn_6) => (some (owcLsz_5, owcSgn_6)))
def fX4_tellAll (cCnt : Int32) (cOpc : Int32) (cLsz : Int32) (cOpn : Nat → Int32) (cSgn : Nat → Int32)  : Option (Int32 × (Nat → Int32)) :=
  (if cOpc = 0 then ((fX2_put cLsz cSgn (45 : Int32)).bind fun (qcLsz_16, qcSgn_17) => (fX4_tellAll_J19 cCnt cOpn qcLsz_16 qcSgn_17)) else (fX4_tellAll_J19 cCnt cOpn cLsz cSgn))
set_option maxRecDepth 100000 in
set_option maxHeartbeats 4000000 in
theorem ctX4_tellAll (l : Launch) (D : va_G) (cI cB cZ : ClassId) (ad : Nat → Nat) (A : Nat → Prop) (hAD : AD A ad 20) (cBad cFul cCnt cOpc cStp cTsz cRcn cPlc cFlt cVil cLsz : Int32) (cRts cLns cOpn cGps cTrl cWgt cRch cByt cWds cFst cSnd cSgn : Nat → Int32)  (zcLsz : Int32) (zcSgn : Nat → Int32) (hf : fX4_tellAll cCnt cOpc cLsz cOpn cSgn = some (zcLsz, zcSgn)) : Met l yX4_tellAll wsX4_tellAll (rmN 2 44) (PR D (tyL cI cB cZ) (wC cI cB cZ ad cBad cFul cCnt cOpc cStp cTsz cRcn cPlc cFlt cVil cLsz cRts cLns cOpn cGps cTrl cWgt cRch cByt cWds cFst cSnd cSgn) [.ref (ad 19)]) (QV D (wC cI cB cZ ad cBad cFul cCnt cOpc cStp cTsz cRcn cPlc cFlt cVil zcLsz cRts cLns cOpn cGps cTrl cWgt cRch cByt cWds cFst cSnd zcSgn) A) 0 0 A := by
  refine mk_met cX4_tellAll 3 none (by decide) rfl (Nat.le_of_ble_eq_true rfl) ?_
  intro p e s m args below meth c ls hx hb hr hlk hml hown hts hPK hl
  obtain ⟨hP, hK⟩ := hPK
  replace hl : lv_has ls 3 [(0, .ref (ad 19))] := hl
  replace hown : s.vm.findClass RX4 = some m.cls := hown
  have hiX1 : ∀ w ∈ wsX10, w ∈ wsX4_tellAll := fun w h => List.mem_cons_of_mem _ (List.mem_append_left _ (List.mem_append_right _ h))
  have hiX4 : ∀ w ∈ wsX40, w ∈ wsX4_tellAll := fun w h => List.mem_cons_of_mem _ (List.mem_append_left _ (List.mem_append_left _ (List.mem_append_right _ h)))
  have hS : va_S A s.heap s.heap [] := va_S.rf
  unfold fX4_tellAll at hf
  refine lv_aload_n hx hb dX4_tellAll_0 rfl (lv_at hl 0 rfl) ?_
  refine va_get (ci := 4) (v := .ref (ad 1)) (C := RX4) (T := TX4) (N := 4) hx hb hts hiX4 hown hK hP 19 rfl rfl 0 (by decide) (hts _ (List.mem_of_getElem? (i := 1) rfl)) (fun _ h9 => h9) rfl dX4_tellAll_1 ?_
  refine va_get (ci := 1) (v := .int cOpc) (C := RX1) (T := TX1) (N := 6) hx hb hts hiX1 hown hK hP 1 rfl rfl 5 (by decide) (hts _ (List.mem_of_getElem? (i := 2) rfl)) (fun _ h9 => h9) rfl dX4_tellAll_4 ?_
  have hJ19 : ∀ (wcLsz_1 : Int32) (wcSgn_2 : Nat → Int32) (H : Heap) (locs : List Loc) (ls : Array Slot), fX4_tellAll_J19 cCnt cOpn wcLsz_1 wcSgn_2 = some (zcLsz, zcSgn) → va_P D vwCl (wC cI cB cZ ad cBad cFul cCnt cOpc cStp cTsz cRcn cPlc cFlt cVil wcLsz_1 cRts cLns cOpn cGps cTrl cWgt cRch cByt cWds cFst cSnd wcSgn_2) H → va_S A s.heap H locs → lv_has ls 3 [(0, .ref (ad 19))] → W p l e (rmN 2 44) s m args below meth c H locs 0 0 (MQ below (QV D (wC cI cB cZ ad cBad cFul cCnt cOpc cStp cTsz cRcn cPlc cFlt cVil zcLsz cRts cLns cOpn cGps cTrl cWgt cRch cByt cWds cFst cSnd zcSgn) A) args s 0 0 A) (F0 m 19 ls []) := by
    intro wcLsz_1 wcSgn_2 H locs ls hf hP hS hl
    unfold fX4_tellAll_J19 at hf
    refine lv_iconst (v := (0 : Int32)) hx hb dX4_tellAll_19 (by decide) ?_
    refine lv_istore_n (lv' := [(1, .int (0 : Int32)), (0, .ref (ad 19))]) hx hb dX4_tellAll_20 rfl hl (by decide) rfl (fun ls hl => ?_)
    refine lv_iconst (v := (0 : Int32)) hx hb dX4_tellAll_21 (by decide) ?_
    refine lv_istore_n (lv' := [(2, .int (0 : Int32)), (1, .int (0 : Int32)), (0, .ref (ad 19))]) hx hb dX4_tellAll_22 rfl hl (by decide) rfl (fun ls hl => ?_)
    have hL23 : ∀ (n : Nat) (v1_3 : Int32) (v2_4 : Int32) (wcLsz_5 : Int32) (wcSgn_6 : Nat → Int32) (ov1_3 : Int32) (ov2_4 : Int32) (owcLsz_5 : Int32) (owcSgn_6 : Nat → Int32) (H : Heap) (locs : List Loc) (ls : Array Slot), lp (fX4_tellAll_L23 cCnt cOpn) n (v1_3, v2_4, wcLsz_5, wcSgn_6) = some (ov1_3, ov2_4, owcLsz_5, owcSgn_6) → va_P D vwCl (wC cI cB cZ ad cBad cFul cCnt cOpc cStp cTsz cRcn cPlc cFlt cVil wcLsz_5 cRts cLns cOpn cGps cTrl cWgt cRch cByt cWds cFst cSnd wcSgn_6) H → va_S A s.heap H locs → lv_has ls 3 [(0, .ref (ad 19)), (1, .int v1_3), (2, .int v2_4)] → (∀ (H : Heap) (locs : List Loc) (ls : Array Slot), va_P D vwCl (wC cI cB cZ ad cBad cFul cCnt cOpc cStp cTsz cRcn cPlc cFlt cVil owcLsz_5 cRts cLns cOpn cGps cTrl cWgt cRch cByt cWds cFst cSnd owcSgn_6) H → va_S A s.heap H locs → lv_has ls 3 [(0, .ref (ad 19)), (1, .int ov1_3), (2, .int ov2_4)] → W p l e (rmN 2 44) s m args below meth c H locs 0 0 (MQ below (QV D (wC cI cB cZ ad cBad cFul cCnt cOpc cStp cTsz cRcn cPlc cFlt cVil zcLsz cRts cLns cOpn cGps cTrl cWgt cRch cByt cWds cFst cSnd zcSgn) A) args s 0 0 A) (F0 m 76 ls [])) → W p l e (rmN 2 44) s m args below meth c H locs 0 0 (MQ below (QV D (wC cI cB cZ ad cBad cFul cCnt cOpc cStp cTsz cRcn cPlc cFlt cVil zcLsz cRts cLns cOpn cGps cTrl cWgt cRch cByt cWds cFst cSnd zcSgn) A) args s 0 0 A) (F0 m 23 ls []) := by
      intro n
      induction n with
      | zero => intro v1_3 v2_4 wcLsz_5 wcSgn_6 ov1_3 ov2_4 owcLsz_5 owcSgn_6 H locs ls hf; exact (lp_0 hf).elim
      | succ n ih =>
        intro v1_3 v2_4 wcLsz_5 wcSgn_6 ov1_3 ov2_4 owcLsz_5 owcSgn_6 H locs ls hf hP hS hl hE
        replace hf := lp_s hf
        dsimp only [fX4_tellAll_L23] at hf
        refine lv_iload_n hx hb dX4_tellAll_23 rfl (lv_at hl 2 rfl) ?_
        refine lv_aload_n hx hb dX4_tellAll_24 rfl (lv_at hl 0 rfl) ?_
        refine va_get (ci := 4) (v := .ref (ad 1)) (C := RX4) (T := TX4) (N := 4) hx hb hts hiX4 hown hK hP 19 rfl rfl 0 (by decide) (hts _ (List.mem_of_getElem? (i := 1) rfl)) (fun _ h9 => h9) rfl dX4_tellAll_25 ?_
        refine va_get (ci := 1) (v := .int cCnt) (C := RX1) (T := TX1) (N := 6) hx hb hts hiX1 hown hK hP 1 rfl rfl 4 (by decide) (hts _ (List.mem_of_getElem? (i := 4) rfl)) (fun _ h9 => h9) rfl dX4_tellAll_28 ?_
        refine lv_icmp_ge (tgt := 76) hx hb dX4_tellAll_31 (by decide) (fun hc => ?_) (fun hc => ?_)
        · replace hf := (if_pos hc).symm.trans hf
          cases hf
          exact hE _ _ _ hP hS (lv_sub hl [0, 1, 2] rfl)
        · replace hf := (if_neg hc).symm.trans hf
          refine lv_aload_n hx hb dX4_tellAll_34 rfl (lv_at hl 0 rfl) ?_
          refine va_get (ci := 4) (v := .ref (ad 1)) (C := RX4) (T := TX4) (N := 4) hx hb hts hiX4 hown hK hP 19 rfl rfl 0 (by decide) (hts _ (List.mem_of_getElem? (i := 1) rfl)) (fun _ h9 => h9) rfl dX4_tellAll_35 ?_
          refine va_get (ci := 1) (v := .ref (ad 4)) (C := RX1) (T := TX1) (N := 6) hx hb hts hiX1 hown hK hP 1 rfl rfl 2 (by decide) (hts _ (List.mem_of_getElem? (i := 5) rfl)) (fun _ h9 => h9) rfl dX4_tellAll_38 ?_
          refine lv_iload_n hx hb dX4_tellAll_41 rfl (lv_at hl 2 rfl) ?_
          obtain ⟨hg, hf⟩ := og hf
          refine va_zald hx hb hK hP 4 2 rfl rfl (gI_in hg) dX4_tellAll_42 ?_
          have hJ70 : ∀ (v1_7 : Int32) (wcLsz_8 : Int32) (wcSgn_9 : Nat → Int32) (H : Heap) (locs : List Loc) (ls : Array Slot), fX4_tellAll_J70 v2_4 (lp (fX4_tellAll_L23 cCnt cOpn) n) v1_7 wcLsz_8 wcSgn_9 = some (ov1_3, ov2_4, owcLsz_5, owcSgn_6) → va_P D vwCl (wC cI cB cZ ad cBad cFul cCnt cOpc cStp cTsz cRcn cPlc cFlt cVil wcLsz_8 cRts cLns cOpn cGps cTrl cWgt cRch cByt cWds cFst cSnd wcSgn_9) H → va_S A s.heap H locs → lv_has ls 3 [(0, .ref (ad 19)), (1, .int v1_7), (2, .int v2_4)] → W p l e (rmN 2 44) s m args below meth c H locs 0 0 (MQ below (QV D (wC cI cB cZ ad cBad cFul cCnt cOpc cStp cTsz cRcn cPlc cFlt cVil zcLsz cRts cLns cOpn cGps cTrl cWgt cRch cByt cWds cFst cSnd zcSgn) A) args s 0 0 A) (F0 m 70 ls []) := by
            intro v1_7 wcLsz_8 wcSgn_9 H locs ls hf hP hS hl
            unfold fX4_tellAll_J70 at hf
            refine lv_iinc (v := (v2_4 + (1 : Int32))) (lv' := [(2, .int (v2_4 + (1 : Int32))), (0, .ref (ad 19)), (1, .int v1_7)]) hx hb dX4_tellAll_70 hl (k := 2) rfl rfl (by decide) rfl (fun ls hl => ?_)
            refine lv_goto (tgt := 23) hx hb dX4_tellAll_73 (by decide) ?_
            exact ih _ _ _ _ _ _ _ _ _ _ _ hf hP hS (lv_sub hl [1, 2, 0] rfl) hE
          refine lv_if_eq (tgt := 70) hx hb dX4_tellAll_43 (by decide) (fun hc => ?_) (fun hc => ?_)
          · replace hf := (if_pos hc).symm.trans hf
            exact hJ70 _ _ _ _ _ _ hf hP hS (lv_sub hl [0, 1, 2] rfl)
          · replace hf := (if_neg hc).symm.trans hf
            refine lv_iload_n hx hb dX4_tellAll_46 rfl (lv_at hl 1 rfl) ?_
            have hJ59 : ∀ (wcLsz_10 : Int32) (wcSgn_11 : Nat → Int32) (H : Heap) (locs : List Loc) (ls : Array Slot), fX4_tellAll_J59 v1_3 v2_4 (lp (fX4_tellAll_L23 cCnt cOpn) n) wcLsz_10 wcSgn_11 = some (ov1_3, ov2_4, owcLsz_5, owcSgn_6) → va_P D vwCl (wC cI cB cZ ad cBad cFul cCnt cOpc cStp cTsz cRcn cPlc cFlt cVil wcLsz_10 cRts cLns cOpn cGps cTrl cWgt cRch cByt cWds cFst cSnd wcSgn_11) H → va_S A s.heap H locs → lv_has ls 3 [(0, .ref (ad 19)), (1, .int v1_3), (2, .int v2_4)] → W p l e (rmN 2 44) s m args below meth c H locs 0 0 (MQ below (QV D (wC cI cB cZ ad cBad cFul cCnt cOpc cStp cTsz cRcn cPlc cFlt cVil zcLsz cRts cLns cOpn cGps cTrl cWgt cRch cByt cWds cFst cSnd zcSgn) A) args s 0 0 A) (F0 m 59 ls []) := by
              intro wcLsz_10 wcSgn_11 H locs ls hf hP hS hl
              unfold fX4_tellAll_J59 at hf
              refine lv_aload_n hx hb dX4_tellAll_59 rfl (lv_at hl 0 rfl) ?_
              refine va_get (ci := 4) (v := .ref (ad 17)) (C := RX4) (T := TX4) (N := 4) hx hb hts hiX4 hown hK hP 19 rfl rfl 3 (by decide) (hts _ (List.mem_of_getElem? (i := 3) rfl)) (fun _ h9 => h9) rfl dX4_tellAll_60 ?_
              refine lv_iload_n hx hb dX4_tellAll_63 rfl (lv_at hl 2 rfl) ?_
              obtain ⟨⟨qcLsz_12, qcSgn_13⟩, hq, hf⟩ := ob hf
              try dsimp only at hf
              refine mcVv 17 2 (As := [.int v2_4]) (rest := []) ⟨hx, hb, hml, hown, hts⟩ (ctX2_putNumber l D cI cB cZ ad A hAD cBad cFul cCnt cOpc cStp cTsz cRcn cPlc cFlt cVil wcLsz_10 cRts cLns cOpn cGps cTrl cWgt cRch cByt cWds cFst cSnd wcSgn_11 v2_4 qcLsz_12 qcSgn_13 hq) (cwV 1 hts gX4_tellAll_X2_putNumber rfl rfl rfl (by decide +kernel) ⟨Nat.le_of_ble_eq_true rfl, Nat.le_of_ble_eq_true rfl⟩) hK hP hS rfl rfl rfl hl.1 rfl (Nat.le_of_ble_eq_true rfl) dX4_tellAll_64 ⟨Nat.zero_le _, Nat.zero_le _⟩ (fun H locs hP hS => ?_)
              refine lv_iinc (v := (v1_3 + (1 : Int32))) (lv' := [(1, .int (v1_3 + (1 : Int32))), (0, .ref (ad 19)), (2, .int v2_4)]) hx hb dX4_tellAll_67 hl (k := 1) rfl rfl (by decide) rfl (fun ls hl => ?_)
              exact hJ70 _ _ _ _ _ _ hf hP hS (lv_sub hl [1, 0, 2] rfl)
            refine lv_if_le (tgt := 59) hx hb dX4_tellAll_47 (by decide) (fun hc => ?_) (fun hc => ?_)
            · replace hf := (if_pos hc).symm.trans hf
              exact hJ59 _ _ _ _ _ hf hP hS (lv_sub hl [0, 1, 2] rfl)
            · replace hf := (if_neg hc).symm.trans hf
              refine lv_aload_n hx hb dX4_tellAll_50 rfl (lv_at hl 0 rfl) ?_
              refine va_get (ci := 4) (v := .ref (ad 17)) (C := RX4) (T := TX4) (N := 4) hx hb hts hiX4 hown hK hP 19 rfl rfl 3 (by decide) (hts _ (List.mem_of_getElem? (i := 3) rfl)) (fun _ h9 => h9) rfl dX4_tellAll_51 ?_
              refine lv_bipush (v := (44 : Int32)) hx hb dX4_tellAll_54 (by decide) ?_
              obtain ⟨⟨qcLsz_14, qcSgn_15⟩, hq, hf⟩ := ob hf
              try dsimp only at hf
              refine mcVv 17 2 (As := [.int (44 : Int32)]) (rest := []) ⟨hx, hb, hml, hown, hts⟩ (ctX2_put l D cI cB cZ ad A hAD cBad cFul cCnt cOpc cStp cTsz cRcn cPlc cFlt cVil wcLsz_5 cRts cLns cOpn cGps cTrl cWgt cRch cByt cWds cFst cSnd wcSgn_6 (44 : Int32) qcLsz_14 qcSgn_15 hq) (cwV 1 hts gX4_tellAll_X2_put rfl rfl rfl (by decide +kernel) ⟨Nat.le_of_ble_eq_true rfl, Nat.le_of_ble_eq_true rfl⟩) hK hP hS rfl rfl rfl hl.1 rfl (Nat.le_of_ble_eq_true rfl) dX4_tellAll_56 ⟨Nat.zero_le _, Nat.zero_le _⟩ (fun H locs hP hS => ?_)
              exact hJ59 _ _ _ _ _ hf hP hS (lv_sub hl [0, 1, 2] rfl)
    obtain ⟨⟨ov1_3, ov2_4, owcLsz_5, owcSgn_6⟩, hq, hf⟩ := ob hf
    try dsimp only at hf
    refine hL23 FU _ _ _ _ ov1_3 ov2_4 owcLsz_5 owcSgn_6 _ _ ls hq hP hS (lv_sub hl [2, 1, 0] rfl) (fun H locs ls hP hS hl => ?_)
    obtain ⟨e0, hz1⟩ := Prod.mk.inj (Option.some.inj hf)
    subst e0
    subst hz1
    exact rm_v hx hb hr hlk hP hS dX4_tellAll_76
  refine lv_if_ne (tgt := 19) hx hb dX4_tellAll_7 (by decide) (fun hc => ?_) (fun hc => ?_)
  · replace hf := (if_neg hc).symm.trans hf
    exact hJ19 _ _ _ _ _ hf hP hS (lv_sub hl [0] rfl)
  · replace hf := (if_pos hc).symm.trans hf
    refine lv_aload_n hx hb dX4_tellAll_10 rfl (lv_at hl 0 rfl) ?_
    refine va_get (ci := 4) (v := .ref (ad 17)) (C := RX4) (T := TX4) (N := 4) hx hb hts hiX4 hown hK hP 19 rfl rfl 3 (by decide) (hts _ (List.mem_of_getElem? (i := 3) rfl)) (fun _ h9 => h9) rfl dX4_tellAll_11 ?_
    refine lv_bipush (v := (45 : Int32)) hx hb dX4_tellAll_14 (by decide) ?_
    obtain ⟨⟨qcLsz_16, qcSgn_17⟩, hq, hf⟩ := ob hf
    try dsimp only at hf
    refine mcVv 17 2 (As := [.int (45 : Int32)]) (rest := []) ⟨hx, hb, hml, hown, hts⟩ (ctX2_put l D cI cB cZ ad A hAD cBad cFul cCnt cOpc cStp cTsz cRcn cPlc cFlt cVil cLsz cRts cLns cOpn cGps cTrl cWgt cRch cByt cWds cFst cSnd cSgn (45 : Int32) qcLsz_16 qcSgn_17 hq) (cwV 1 hts gX4_tellAll_X2_put rfl rfl rfl (by decide +kernel) ⟨Nat.le_of_ble_eq_true rfl, Nat.le_of_ble_eq_true rfl⟩) hK hP hS rfl rfl rfl hl.1 rfl (Nat.le_of_ble_eq_true rfl) dX4_tellAll_16 ⟨Nat.zero_le _, Nat.zero_le _⟩ (fun H locs hP hS => ?_)
    exact hJ19 _ _ _ _ _ hf hP hS (lv_sub hl [0] rfl)

def fX4_tell (cCnt : Int32) (cOpc : Int32) (cStp : Int32) (cLsz : Int32) (cRts : Nat → Int32) (cLns : Nat → Int32) (cOpn : Nat → Int32) (cGps : Nat → Int32) (cTrl : Nat → Int32) (cSgn : Nat → Int32) (p0 : Int32) (p1 : Int32) (p2 : Int32) : Option (Int32 × Int32 × Int32 × Int32 × (Nat → Int32) × (Nat → Int32) × (Nat → Int32) × (Nat → Int32) × (Nat → Int32) × (Nat → Int32)) :=
  (if p0 = (0 : Int32) then ((fX1_settle cCnt cRts cLns cOpn cGps p1 p2).bind fun (r_1, qcCnt_2, qcRts_3, qcLns_4, qcOpn_5, qcGps_6) => ((fX2_putNumber cLsz cSgn r_1).bind fun (qcLsz_7, qcSgn_8) => (some (qcCnt_2, cOpc, cStp, qcLsz_7, qcRts_3, qcLns_4, qcOpn_5, qcGps_6, cTrl, qcSgn_8)))) else (if p0 = (1 : Int32) then ((fX1_setDepot cCnt cOpc cOpn p1 (1 : Int32)).bind fun (r_9, qcOpc_10, qcOpn_11) => ((fX2_putNumber cLsz cSgn r_9).bind fun (qcLsz_12, qcSgn_13) => (some (cCnt, qcOpc_10, cStp, qcLsz_12, cRts, cLns, qcOpn_11, cGps, cTrl, qcSgn_13)))) else (if p0 = (2 : Int32) then ((fX1_setDepot cCnt cOpc cOpn p1 (0 : Int32)).bind fun (r_14, qcOpc_15, qcOpn_16) => ((fX2_putNumber cLsz cSgn r_14).bind fun (qcLsz_17, qcSgn_18) => (some (cCnt, qcOpc_15, cStp, qcLsz_17, cRts, cLns, qcOpn_16, cGps, cTrl, qcSgn_18)))) else (if p0 = (3 : Int32) then ((fX1_setRoad cCnt cRts cLns cGps p1 p2).bind fun (r_19, qcLns_20, qcGps_21) => ((fX2_putNumber cLsz cSgn r_19).bind fun (qcLsz_22, qcSgn_23) => (some (cCnt, cOpc, cStp, qcLsz_22, cRts, qcLns_20, cOpn, qcGps_21, cTrl, qcSgn_23)))) else (if p0 = (4 : Int32) then ((fX4_tellNearest cCnt cLsz cOpn cGps cSgn p1).bind fun (qcLsz_24, qcSgn_25) => (some (cCnt, cOpc, cStp, qcLsz_24, cRts, cLns, cOpn, cGps, cTrl, qcSgn_25))) else (if p0 = (5 : Int32) then ((fX1_gap cGps p1 p2).bind fun r_26 => ((fX2_putNumber cLsz cSgn r_26).bind fun (qcLsz_27, qcSgn_28) => (some (cCnt, cOpc, cStp, qcLsz_27, cRts, cLns, cOpn, cGps, cTrl, qcSgn_28)))) else (if p0 = (6 : Int32) then ((fX4_tellWay cCnt cStp cLsz cRts cTrl cSgn p1 p2).bind fun (qcStp_29, qcLsz_30, qcTrl_31, qcSgn_32) => (some (cCnt, cOpc, qcStp_29, qcLsz_30, cRts, cLns, cOpn, cGps, qcTrl_31, qcSgn_32))) else (if p0 = (7 : Int32) then ((fX0_countWithin cCnt cOpn cGps p1 p2).bind fun r_33 => ((fX2_putNumber cLsz cSgn r_33).bind fun (qcLsz_34, qcSgn_35) => (some (cCnt, cOpc, cStp, qcLsz_34, cRts, cLns, cOpn, cGps, cTrl, qcSgn_35)))) else (if p0 = (8 : Int32) then ((fX4_tellAll cCnt cOpc cLsz cOpn cSgn).bind fun (qcLsz_36, qcSgn_37) => (some (cCnt, cOpc, cStp, qcLsz_36, cRts, cLns, cOpn, cGps, cTrl, qcSgn_37))) else ((fX0_total cCnt cOpn cGps p1).bind fun r_38 => ((fX2_putNumber cLsz cSgn r_38).bind fun (qcLsz_39, qcSgn_40) => (some (cCnt, cOpc, cStp, qcLsz_39, cRts, cLns, cOpn, cGps, cTrl, qcSgn_40)))))))))))))
set_option maxRecDepth 100000 in
set_option maxHeartbeats 4000000 in
theorem ctX4_tell (l : Launch) (D : va_G) (cI cB cZ : ClassId) (ad : Nat → Nat) (A : Nat → Prop) (hAD : AD A ad 20) (cBad cFul cCnt cOpc cStp cTsz cRcn cPlc cFlt cVil cLsz : Int32) (cRts cLns cOpn cGps cTrl cWgt cRch cByt cWds cFst cSnd cSgn : Nat → Int32) (p0 : Int32) (p1 : Int32) (p2 : Int32) (zcCnt : Int32) (zcOpc : Int32) (zcStp : Int32) (zcLsz : Int32) (zcRts : Nat → Int32) (zcLns : Nat → Int32) (zcOpn : Nat → Int32) (zcGps : Nat → Int32) (zcTrl : Nat → Int32) (zcSgn : Nat → Int32) (hf : fX4_tell cCnt cOpc cStp cLsz cRts cLns cOpn cGps cTrl cSgn p0 p1 p2 = some (zcCnt, zcOpc, zcStp, zcLsz, zcRts, zcLns, zcOpn, zcGps, zcTrl, zcSgn)) : Met l yX4_tell wsX4_tell (rmN 3 71) (PR D (tyL cI cB cZ) (wC cI cB cZ ad cBad cFul cCnt cOpc cStp cTsz cRcn cPlc cFlt cVil cLsz cRts cLns cOpn cGps cTrl cWgt cRch cByt cWds cFst cSnd cSgn) [.ref (ad 19), .int p0, .int p1, .int p2]) (QV D (wC cI cB cZ ad cBad cFul zcCnt zcOpc zcStp cTsz cRcn cPlc cFlt cVil zcLsz zcRts zcLns zcOpn zcGps zcTrl cWgt cRch cByt cWds cFst cSnd zcSgn) A) 0 0 A := by
  refine mk_met cX4_tell 4 none (by decide) rfl (Nat.le_of_ble_eq_true rfl) ?_
  intro p e s m args below meth c ls hx hb hr hlk hml hown hts hPK hl
  obtain ⟨hP, hK⟩ := hPK
  replace hl : lv_has ls 4 [(0, .ref (ad 19)), (1, .int p0), (2, .int p1), (3, .int p2)] := hl
  replace hown : s.vm.findClass RX4 = some m.cls := hown
  have hiX4 : ∀ w ∈ wsX40, w ∈ wsX4_tell := fun w h => List.mem_cons_of_mem _ (List.mem_append_left _ (List.mem_append_left _ (List.mem_append_left _ (List.mem_append_left _ (List.mem_append_right _ h)))))
  have hS : va_S A s.heap s.heap [] := va_S.rf
  unfold fX4_tell at hf
  refine lv_iload_n hx hb dX4_tell_0 rfl (lv_at hl 1 rfl) ?_
  by_cases hc0 : p0 = (0 : Int32)
  · replace hf := (if_pos hc0).symm.trans hf
    refine lv_tableIn (tgt := 52) hx hb dX4_tell_1 (by rw [hc0]; decide) (by rw [hc0]; decide) (by rw [hc0]; rfl) (by decide) ?_
    refine lv_aload_n hx hb dX4_tell_52 rfl (lv_at hl 0 rfl) ?_
    refine va_get (ci := 4) (v := .ref (ad 17)) (C := RX4) (T := TX4) (N := 4) hx hb hts hiX4 hown hK hP 19 rfl rfl 3 (by decide) (hts _ (List.mem_of_getElem? (i := 1) rfl)) (fun _ h9 => h9) rfl dX4_tell_53 ?_
    refine lv_aload_n hx hb dX4_tell_56 rfl (lv_at hl 0 rfl) ?_
    refine va_get (ci := 4) (v := .ref (ad 1)) (C := RX4) (T := TX4) (N := 4) hx hb hts hiX4 hown hK hP 19 rfl rfl 0 (by decide) (hts _ (List.mem_of_getElem? (i := 2) rfl)) (fun _ h9 => h9) rfl dX4_tell_57 ?_
    refine lv_iload_n hx hb dX4_tell_60 rfl (lv_at hl 2 rfl) ?_
    refine lv_iload_n hx hb dX4_tell_61 rfl (lv_at hl 3 rfl) ?_
    obtain ⟨⟨r_1, qcCnt_2, qcRts_3, qcLns_4, qcOpn_5, qcGps_6⟩, hq, hf⟩ := ob hf
    try dsimp only at hf
    refine mcVi 1 1 (As := [.int p1, .int p2]) (rest := [.ref (ad 17)]) ⟨hx, hb, hml, hown, hts⟩ (ctX1_settle l D cI cB cZ ad A hAD cBad cFul cCnt cOpc cStp cTsz cRcn cPlc cFlt cVil cLsz cRts cLns cOpn cGps cTrl cWgt cRch cByt cWds cFst cSnd cSgn p1 p2 r_1 qcCnt_2 qcRts_3 qcLns_4 qcOpn_5 qcGps_6 hq) (cwV 2 hts gX4_tell_X1_settle rfl rfl rfl (by decide +kernel) ⟨Nat.le_of_ble_eq_true rfl, Nat.le_of_ble_eq_true rfl⟩) hK hP hS rfl rfl rfl hl.1 rfl (Nat.le_of_ble_eq_true rfl) dX4_tell_62 ⟨Nat.zero_le _, Nat.zero_le _⟩ (fun H locs hP hS => ?_)
    obtain ⟨⟨qcLsz_7, qcSgn_8⟩, hq, hf⟩ := ob hf
    try dsimp only at hf
    refine mcVv 17 2 (As := [.int r_1]) (rest := []) ⟨hx, hb, hml, hown, hts⟩ (ctX2_putNumber l D cI cB cZ ad A hAD cBad cFul qcCnt_2 cOpc cStp cTsz cRcn cPlc cFlt cVil cLsz qcRts_3 qcLns_4 qcOpn_5 qcGps_6 cTrl cWgt cRch cByt cWds cFst cSnd cSgn r_1 qcLsz_7 qcSgn_8 hq) (cwV 1 hts gX4_tell_X2_putNumber rfl rfl rfl (by decide +kernel) ⟨Nat.le_of_ble_eq_true rfl, Nat.le_of_ble_eq_true rfl⟩) hK hP hS rfl rfl rfl hl.1 rfl (Nat.le_of_ble_eq_true rfl) dX4_tell_65 ⟨Nat.zero_le _, Nat.zero_le _⟩ (fun H locs hP hS => ?_)
    refine lv_goto (tgt := 205) hx hb dX4_tell_68 (by decide) ?_
    obtain ⟨e0, hz1⟩ := Prod.mk.inj (Option.some.inj hf)
    obtain ⟨e1, hz2⟩ := Prod.mk.inj hz1
    obtain ⟨e2, hz3⟩ := Prod.mk.inj hz2
    obtain ⟨e3, hz4⟩ := Prod.mk.inj hz3
    obtain ⟨e4, hz5⟩ := Prod.mk.inj hz4
    obtain ⟨e5, hz6⟩ := Prod.mk.inj hz5
    obtain ⟨e6, hz7⟩ := Prod.mk.inj hz6
    obtain ⟨e7, hz8⟩ := Prod.mk.inj hz7
    obtain ⟨e8, hz9⟩ := Prod.mk.inj hz8
    subst e0
    subst e1
    subst e2
    subst e3
    subst e4
    subst e5
    subst e6
    subst e7
    subst e8
    subst hz9
    exact rm_v hx hb hr hlk hP hS dX4_tell_205
  replace hf := (if_neg hc0).symm.trans hf
  by_cases hc1 : p0 = (1 : Int32)
  · replace hf := (if_pos hc1).symm.trans hf
    refine lv_tableIn (tgt := 71) hx hb dX4_tell_1 (by rw [hc1]; decide) (by rw [hc1]; decide) (by rw [hc1]; rfl) (by decide) ?_
    refine lv_aload_n hx hb dX4_tell_71 rfl (lv_at hl 0 rfl) ?_
    refine va_get (ci := 4) (v := .ref (ad 17)) (C := RX4) (T := TX4) (N := 4) hx hb hts hiX4 hown hK hP 19 rfl rfl 3 (by decide) (hts _ (List.mem_of_getElem? (i := 1) rfl)) (fun _ h9 => h9) rfl dX4_tell_72 ?_
    refine lv_aload_n hx hb dX4_tell_75 rfl (lv_at hl 0 rfl) ?_
    refine va_get (ci := 4) (v := .ref (ad 1)) (C := RX4) (T := TX4) (N := 4) hx hb hts hiX4 hown hK hP 19 rfl rfl 0 (by decide) (hts _ (List.mem_of_getElem? (i := 2) rfl)) (fun _ h9 => h9) rfl dX4_tell_76 ?_
    refine lv_iload_n hx hb dX4_tell_79 rfl (lv_at hl 2 rfl) ?_
    refine lv_iconst (v := (1 : Int32)) hx hb dX4_tell_80 (by decide) ?_
    obtain ⟨⟨r_9, qcOpc_10, qcOpn_11⟩, hq, hf⟩ := ob hf
    try dsimp only at hf
    refine mcVi 1 1 (As := [.int p1, .int (1 : Int32)]) (rest := [.ref (ad 17)]) ⟨hx, hb, hml, hown, hts⟩ (ctX1_setDepot l D cI cB cZ ad A hAD cBad cFul cCnt cOpc cStp cTsz cRcn cPlc cFlt cVil cLsz cRts cLns cOpn cGps cTrl cWgt cRch cByt cWds cFst cSnd cSgn p1 (1 : Int32) r_9 qcOpc_10 qcOpn_11 hq) (cwV 2 hts gX4_tell_X1_setDepot rfl rfl rfl (by decide +kernel) ⟨Nat.le_of_ble_eq_true rfl, Nat.le_of_ble_eq_true rfl⟩) hK hP hS rfl rfl rfl hl.1 rfl (Nat.le_of_ble_eq_true rfl) dX4_tell_81 ⟨Nat.zero_le _, Nat.zero_le _⟩ (fun H locs hP hS => ?_)
    obtain ⟨⟨qcLsz_12, qcSgn_13⟩, hq, hf⟩ := ob hf
    try dsimp only at hf
    refine mcVv 17 2 (As := [.int r_9]) (rest := []) ⟨hx, hb, hml, hown, hts⟩ (ctX2_putNumber l D cI cB cZ ad A hAD cBad cFul cCnt qcOpc_10 cStp cTsz cRcn cPlc cFlt cVil cLsz cRts cLns qcOpn_11 cGps cTrl cWgt cRch cByt cWds cFst cSnd cSgn r_9 qcLsz_12 qcSgn_13 hq) (cwV 1 hts gX4_tell_X2_putNumber rfl rfl rfl (by decide +kernel) ⟨Nat.le_of_ble_eq_true rfl, Nat.le_of_ble_eq_true rfl⟩) hK hP hS rfl rfl rfl hl.1 rfl (Nat.le_of_ble_eq_true rfl) dX4_tell_84 ⟨Nat.zero_le _, Nat.zero_le _⟩ (fun H locs hP hS => ?_)
    refine lv_goto (tgt := 205) hx hb dX4_tell_87 (by decide) ?_
    obtain ⟨e0, hz1⟩ := Prod.mk.inj (Option.some.inj hf)
    obtain ⟨e1, hz2⟩ := Prod.mk.inj hz1
    obtain ⟨e2, hz3⟩ := Prod.mk.inj hz2
    obtain ⟨e3, hz4⟩ := Prod.mk.inj hz3
    obtain ⟨e4, hz5⟩ := Prod.mk.inj hz4
    obtain ⟨e5, hz6⟩ := Prod.mk.inj hz5
    obtain ⟨e6, hz7⟩ := Prod.mk.inj hz6
    obtain ⟨e7, hz8⟩ := Prod.mk.inj hz7
    obtain ⟨e8, hz9⟩ := Prod.mk.inj hz8
    subst e0
    subst e1
    subst e2
    subst e3
    subst e4
    subst e5
    subst e6
    subst e7
    subst e8
    subst hz9
    exact rm_v hx hb hr hlk hP hS dX4_tell_205
  replace hf := (if_neg hc1).symm.trans hf
  by_cases hc2 : p0 = (2 : Int32)
  · replace hf := (if_pos hc2).symm.trans hf
    refine lv_tableIn (tgt := 90) hx hb dX4_tell_1 (by rw [hc2]; decide) (by rw [hc2]; decide) (by rw [hc2]; rfl) (by decide) ?_
    refine lv_aload_n hx hb dX4_tell_90 rfl (lv_at hl 0 rfl) ?_
    refine va_get (ci := 4) (v := .ref (ad 17)) (C := RX4) (T := TX4) (N := 4) hx hb hts hiX4 hown hK hP 19 rfl rfl 3 (by decide) (hts _ (List.mem_of_getElem? (i := 1) rfl)) (fun _ h9 => h9) rfl dX4_tell_91 ?_
    refine lv_aload_n hx hb dX4_tell_94 rfl (lv_at hl 0 rfl) ?_
    refine va_get (ci := 4) (v := .ref (ad 1)) (C := RX4) (T := TX4) (N := 4) hx hb hts hiX4 hown hK hP 19 rfl rfl 0 (by decide) (hts _ (List.mem_of_getElem? (i := 2) rfl)) (fun _ h9 => h9) rfl dX4_tell_95 ?_
    refine lv_iload_n hx hb dX4_tell_98 rfl (lv_at hl 2 rfl) ?_
    refine lv_iconst (v := (0 : Int32)) hx hb dX4_tell_99 (by decide) ?_
    obtain ⟨⟨r_14, qcOpc_15, qcOpn_16⟩, hq, hf⟩ := ob hf
    try dsimp only at hf
    refine mcVi 1 1 (As := [.int p1, .int (0 : Int32)]) (rest := [.ref (ad 17)]) ⟨hx, hb, hml, hown, hts⟩ (ctX1_setDepot l D cI cB cZ ad A hAD cBad cFul cCnt cOpc cStp cTsz cRcn cPlc cFlt cVil cLsz cRts cLns cOpn cGps cTrl cWgt cRch cByt cWds cFst cSnd cSgn p1 (0 : Int32) r_14 qcOpc_15 qcOpn_16 hq) (cwV 2 hts gX4_tell_X1_setDepot rfl rfl rfl (by decide +kernel) ⟨Nat.le_of_ble_eq_true rfl, Nat.le_of_ble_eq_true rfl⟩) hK hP hS rfl rfl rfl hl.1 rfl (Nat.le_of_ble_eq_true rfl) dX4_tell_100 ⟨Nat.zero_le _, Nat.zero_le _⟩ (fun H locs hP hS => ?_)
    obtain ⟨⟨qcLsz_17, qcSgn_18⟩, hq, hf⟩ := ob hf
    try dsimp only at hf
    refine mcVv 17 2 (As := [.int r_14]) (rest := []) ⟨hx, hb, hml, hown, hts⟩ (ctX2_putNumber l D cI cB cZ ad A hAD cBad cFul cCnt qcOpc_15 cStp cTsz cRcn cPlc cFlt cVil cLsz cRts cLns qcOpn_16 cGps cTrl cWgt cRch cByt cWds cFst cSnd cSgn r_14 qcLsz_17 qcSgn_18 hq) (cwV 1 hts gX4_tell_X2_putNumber rfl rfl rfl (by decide +kernel) ⟨Nat.le_of_ble_eq_true rfl, Nat.le_of_ble_eq_true rfl⟩) hK hP hS rfl rfl rfl hl.1 rfl (Nat.le_of_ble_eq_true rfl) dX4_tell_103 ⟨Nat.zero_le _, Nat.zero_le _⟩ (fun H locs hP hS => ?_)
    refine lv_goto (tgt := 205) hx hb dX4_tell_106 (by decide) ?_
    obtain ⟨e0, hz1⟩ := Prod.mk.inj (Option.some.inj hf)
    obtain ⟨e1, hz2⟩ := Prod.mk.inj hz1
    obtain ⟨e2, hz3⟩ := Prod.mk.inj hz2
    obtain ⟨e3, hz4⟩ := Prod.mk.inj hz3
    obtain ⟨e4, hz5⟩ := Prod.mk.inj hz4
    obtain ⟨e5, hz6⟩ := Prod.mk.inj hz5
    obtain ⟨e6, hz7⟩ := Prod.mk.inj hz6
    obtain ⟨e7, hz8⟩ := Prod.mk.inj hz7
    obtain ⟨e8, hz9⟩ := Prod.mk.inj hz8
    subst e0
    subst e1
    subst e2
    subst e3
    subst e4
    subst e5
    subst e6
    subst e7
    subst e8
    subst hz9
    exact rm_v hx hb hr hlk hP hS dX4_tell_205
  replace hf := (if_neg hc2).symm.trans hf
  by_cases hc3 : p0 = (3 : Int32)
  · replace hf := (if_pos hc3).symm.trans hf
    refine lv_tableIn (tgt := 109) hx hb dX4_tell_1 (by rw [hc3]; decide) (by rw [hc3]; decide) (by rw [hc3]; rfl) (by decide) ?_
    refine lv_aload_n hx hb dX4_tell_109 rfl (lv_at hl 0 rfl) ?_
    refine va_get (ci := 4) (v := .ref (ad 17)) (C := RX4) (T := TX4) (N := 4) hx hb hts hiX4 hown hK hP 19 rfl rfl 3 (by decide) (hts _ (List.mem_of_getElem? (i := 1) rfl)) (fun _ h9 => h9) rfl dX4_tell_110 ?_
    refine lv_aload_n hx hb dX4_tell_113 rfl (lv_at hl 0 rfl) ?_
    refine va_get (ci := 4) (v := .ref (ad 1)) (C := RX4) (T := TX4) (N := 4) hx hb hts hiX4 hown hK hP 19 rfl rfl 0 (by decide) (hts _ (List.mem_of_getElem? (i := 2) rfl)) (fun _ h9 => h9) rfl dX4_tell_114 ?_
    refine lv_iload_n hx hb dX4_tell_117 rfl (lv_at hl 2 rfl) ?_
    refine lv_iload_n hx hb dX4_tell_118 rfl (lv_at hl 3 rfl) ?_
    obtain ⟨⟨r_19, qcLns_20, qcGps_21⟩, hq, hf⟩ := ob hf
    try dsimp only at hf
    refine mcVi 1 1 (As := [.int p1, .int p2]) (rest := [.ref (ad 17)]) ⟨hx, hb, hml, hown, hts⟩ (ctX1_setRoad l D cI cB cZ ad A hAD cBad cFul cCnt cOpc cStp cTsz cRcn cPlc cFlt cVil cLsz cRts cLns cOpn cGps cTrl cWgt cRch cByt cWds cFst cSnd cSgn p1 p2 r_19 qcLns_20 qcGps_21 hq) (cwV 2 hts gX4_tell_X1_setRoad rfl rfl rfl (by decide +kernel) ⟨Nat.le_of_ble_eq_true rfl, Nat.le_of_ble_eq_true rfl⟩) hK hP hS rfl rfl rfl hl.1 rfl (Nat.le_of_ble_eq_true rfl) dX4_tell_119 ⟨Nat.zero_le _, Nat.zero_le _⟩ (fun H locs hP hS => ?_)
    obtain ⟨⟨qcLsz_22, qcSgn_23⟩, hq, hf⟩ := ob hf
    try dsimp only at hf
    refine mcVv 17 2 (As := [.int r_19]) (rest := []) ⟨hx, hb, hml, hown, hts⟩ (ctX2_putNumber l D cI cB cZ ad A hAD cBad cFul cCnt cOpc cStp cTsz cRcn cPlc cFlt cVil cLsz cRts qcLns_20 cOpn qcGps_21 cTrl cWgt cRch cByt cWds cFst cSnd cSgn r_19 qcLsz_22 qcSgn_23 hq) (cwV 1 hts gX4_tell_X2_putNumber rfl rfl rfl (by decide +kernel) ⟨Nat.le_of_ble_eq_true rfl, Nat.le_of_ble_eq_true rfl⟩) hK hP hS rfl rfl rfl hl.1 rfl (Nat.le_of_ble_eq_true rfl) dX4_tell_122 ⟨Nat.zero_le _, Nat.zero_le _⟩ (fun H locs hP hS => ?_)
    refine lv_goto (tgt := 205) hx hb dX4_tell_125 (by decide) ?_
    obtain ⟨e0, hz1⟩ := Prod.mk.inj (Option.some.inj hf)
    obtain ⟨e1, hz2⟩ := Prod.mk.inj hz1
    obtain ⟨e2, hz3⟩ := Prod.mk.inj hz2
    obtain ⟨e3, hz4⟩ := Prod.mk.inj hz3
    obtain ⟨e4, hz5⟩ := Prod.mk.inj hz4
    obtain ⟨e5, hz6⟩ := Prod.mk.inj hz5
    obtain ⟨e6, hz7⟩ := Prod.mk.inj hz6
    obtain ⟨e7, hz8⟩ := Prod.mk.inj hz7
    obtain ⟨e8, hz9⟩ := Prod.mk.inj hz8
    subst e0
    subst e1
    subst e2
    subst e3
    subst e4
    subst e5
    subst e6
    subst e7
    subst e8
    subst hz9
    exact rm_v hx hb hr hlk hP hS dX4_tell_205
  replace hf := (if_neg hc3).symm.trans hf
  by_cases hc4 : p0 = (4 : Int32)
  · replace hf := (if_pos hc4).symm.trans hf
    refine lv_tableIn (tgt := 128) hx hb dX4_tell_1 (by rw [hc4]; decide) (by rw [hc4]; decide) (by rw [hc4]; rfl) (by decide) ?_
    refine lv_aload_n hx hb dX4_tell_128 rfl (lv_at hl 0 rfl) ?_
    refine lv_iload_n hx hb dX4_tell_129 rfl (lv_at hl 2 rfl) ?_
    obtain ⟨⟨qcLsz_24, qcSgn_25⟩, hq, hf⟩ := ob hf
    try dsimp only at hf
    refine mcVv 19 4 (As := [.int p1]) (rest := []) ⟨hx, hb, hml, hown, hts⟩ (ctX4_tellNearest l D cI cB cZ ad A hAD cBad cFul cCnt cOpc cStp cTsz cRcn cPlc cFlt cVil cLsz cRts cLns cOpn cGps cTrl cWgt cRch cByt cWds cFst cSnd cSgn p1 qcLsz_24 qcSgn_25 hq) (cwV 1 hts gX4_tell_X4_tellNearest rfl rfl rfl (by decide +kernel) ⟨Nat.le_of_ble_eq_true rfl, Nat.le_of_ble_eq_true rfl⟩) hK hP hS rfl rfl rfl hl.1 rfl (Nat.le_of_ble_eq_true rfl) dX4_tell_130 ⟨Nat.zero_le _, Nat.zero_le _⟩ (fun H locs hP hS => ?_)
    refine lv_goto (tgt := 205) hx hb dX4_tell_133 (by decide) ?_
    obtain ⟨e0, hz1⟩ := Prod.mk.inj (Option.some.inj hf)
    obtain ⟨e1, hz2⟩ := Prod.mk.inj hz1
    obtain ⟨e2, hz3⟩ := Prod.mk.inj hz2
    obtain ⟨e3, hz4⟩ := Prod.mk.inj hz3
    obtain ⟨e4, hz5⟩ := Prod.mk.inj hz4
    obtain ⟨e5, hz6⟩ := Prod.mk.inj hz5
    obtain ⟨e6, hz7⟩ := Prod.mk.inj hz6
    obtain ⟨e7, hz8⟩ := Prod.mk.inj hz7
    obtain ⟨e8, hz9⟩ := Prod.mk.inj hz8
    subst e0
    subst e1
    subst e2
    subst e3
    subst e4
    subst e5
    subst e6
    subst e7
    subst e8
    subst hz9
    exact rm_v hx hb hr hlk hP hS dX4_tell_205
  replace hf := (if_neg hc4).symm.trans hf
  by_cases hc5 : p0 = (5 : Int32)
  · replace hf := (if_pos hc5).symm.trans hf
    refine lv_tableIn (tgt := 136) hx hb dX4_tell_1 (by rw [hc5]; decide) (by rw [hc5]; decide) (by rw [hc5]; rfl) (by decide) ?_
    refine lv_aload_n hx hb dX4_tell_136 rfl (lv_at hl 0 rfl) ?_
    refine va_get (ci := 4) (v := .ref (ad 17)) (C := RX4) (T := TX4) (N := 4) hx hb hts hiX4 hown hK hP 19 rfl rfl 3 (by decide) (hts _ (List.mem_of_getElem? (i := 1) rfl)) (fun _ h9 => h9) rfl dX4_tell_137 ?_
    refine lv_aload_n hx hb dX4_tell_140 rfl (lv_at hl 0 rfl) ?_
    refine va_get (ci := 4) (v := .ref (ad 1)) (C := RX4) (T := TX4) (N := 4) hx hb hts hiX4 hown hK hP 19 rfl rfl 0 (by decide) (hts _ (List.mem_of_getElem? (i := 2) rfl)) (fun _ h9 => h9) rfl dX4_tell_141 ?_
    refine lv_iload_n hx hb dX4_tell_144 rfl (lv_at hl 2 rfl) ?_
    refine lv_iload_n hx hb dX4_tell_145 rfl (lv_at hl 3 rfl) ?_
    obtain ⟨r_26, hq, hf⟩ := ob hf
    try dsimp only at hf
    refine rcV 1 1 (As := [.int p1, .int p2]) (rest := [.ref (ad 17)]) ⟨hx, hb, hml, hown, hts⟩ (ctX1_gap l D cI cB cZ ad cBad cFul cCnt cOpc cStp cTsz cRcn cPlc cFlt cVil cLsz cRts cLns cOpn cGps cTrl cWgt cRch cByt cWds cFst cSnd cSgn p1 p2 r_26 hq) (cwV 2 hts gX4_tell_X1_gap rfl rfl rfl (by decide +kernel) ⟨Nat.le_of_ble_eq_true rfl, Nat.le_of_ble_eq_true rfl⟩) hK hP rfl rfl rfl hl.1 rfl (Nat.le_of_ble_eq_true rfl) dX4_tell_146 ⟨Nat.zero_le _, Nat.zero_le _⟩ ?_
    obtain ⟨⟨qcLsz_27, qcSgn_28⟩, hq, hf⟩ := ob hf
    try dsimp only at hf
    refine mcVv 17 2 (As := [.int r_26]) (rest := []) ⟨hx, hb, hml, hown, hts⟩ (ctX2_putNumber l D cI cB cZ ad A hAD cBad cFul cCnt cOpc cStp cTsz cRcn cPlc cFlt cVil cLsz cRts cLns cOpn cGps cTrl cWgt cRch cByt cWds cFst cSnd cSgn r_26 qcLsz_27 qcSgn_28 hq) (cwV 1 hts gX4_tell_X2_putNumber rfl rfl rfl (by decide +kernel) ⟨Nat.le_of_ble_eq_true rfl, Nat.le_of_ble_eq_true rfl⟩) hK hP hS rfl rfl rfl hl.1 rfl (Nat.le_of_ble_eq_true rfl) dX4_tell_149 ⟨Nat.zero_le _, Nat.zero_le _⟩ (fun H locs hP hS => ?_)
    refine lv_goto (tgt := 205) hx hb dX4_tell_152 (by decide) ?_
    obtain ⟨e0, hz1⟩ := Prod.mk.inj (Option.some.inj hf)
    obtain ⟨e1, hz2⟩ := Prod.mk.inj hz1
    obtain ⟨e2, hz3⟩ := Prod.mk.inj hz2
    obtain ⟨e3, hz4⟩ := Prod.mk.inj hz3
    obtain ⟨e4, hz5⟩ := Prod.mk.inj hz4
    obtain ⟨e5, hz6⟩ := Prod.mk.inj hz5
    obtain ⟨e6, hz7⟩ := Prod.mk.inj hz6
    obtain ⟨e7, hz8⟩ := Prod.mk.inj hz7
    obtain ⟨e8, hz9⟩ := Prod.mk.inj hz8
    subst e0
    subst e1
    subst e2
    subst e3
    subst e4
    subst e5
    subst e6
    subst e7
    subst e8
    subst hz9
    exact rm_v hx hb hr hlk hP hS dX4_tell_205
  replace hf := (if_neg hc5).symm.trans hf
  by_cases hc6 : p0 = (6 : Int32)
  · replace hf := (if_pos hc6).symm.trans hf
    refine lv_tableIn (tgt := 155) hx hb dX4_tell_1 (by rw [hc6]; decide) (by rw [hc6]; decide) (by rw [hc6]; rfl) (by decide) ?_
    refine lv_aload_n hx hb dX4_tell_155 rfl (lv_at hl 0 rfl) ?_
    refine lv_iload_n hx hb dX4_tell_156 rfl (lv_at hl 2 rfl) ?_
    refine lv_iload_n hx hb dX4_tell_157 rfl (lv_at hl 3 rfl) ?_
    obtain ⟨⟨qcStp_29, qcLsz_30, qcTrl_31, qcSgn_32⟩, hq, hf⟩ := ob hf
    try dsimp only at hf
    refine mcVv 19 4 (As := [.int p1, .int p2]) (rest := []) ⟨hx, hb, hml, hown, hts⟩ (ctX4_tellWay l D cI cB cZ ad A hAD cBad cFul cCnt cOpc cStp cTsz cRcn cPlc cFlt cVil cLsz cRts cLns cOpn cGps cTrl cWgt cRch cByt cWds cFst cSnd cSgn p1 p2 qcStp_29 qcLsz_30 qcTrl_31 qcSgn_32 hq) (cwV 2 hts gX4_tell_X4_tellWay rfl rfl rfl (by decide +kernel) ⟨Nat.le_of_ble_eq_true rfl, Nat.le_of_ble_eq_true rfl⟩) hK hP hS rfl rfl rfl hl.1 rfl (Nat.le_of_ble_eq_true rfl) dX4_tell_158 ⟨Nat.zero_le _, Nat.zero_le _⟩ (fun H locs hP hS => ?_)
    refine lv_goto (tgt := 205) hx hb dX4_tell_161 (by decide) ?_
    obtain ⟨e0, hz1⟩ := Prod.mk.inj (Option.some.inj hf)
    obtain ⟨e1, hz2⟩ := Prod.mk.inj hz1
    obtain ⟨e2, hz3⟩ := Prod.mk.inj hz2
    obtain ⟨e3, hz4⟩ := Prod.mk.inj hz3
    obtain ⟨e4, hz5⟩ := Prod.mk.inj hz4
    obtain ⟨e5, hz6⟩ := Prod.mk.inj hz5
    obtain ⟨e6, hz7⟩ := Prod.mk.inj hz6
    obtain ⟨e7, hz8⟩ := Prod.mk.inj hz7
    obtain ⟨e8, hz9⟩ := Prod.mk.inj hz8
    subst e0
    subst e1
    subst e2
    subst e3
    subst e4
    subst e5
    subst e6
    subst e7
    subst e8
    subst hz9
    exact rm_v hx hb hr hlk hP hS dX4_tell_205
  replace hf := (if_neg hc6).symm.trans hf
  by_cases hc7 : p0 = (7 : Int32)
  · replace hf := (if_pos hc7).symm.trans hf
    refine lv_tableIn (tgt := 164) hx hb dX4_tell_1 (by rw [hc7]; decide) (by rw [hc7]; decide) (by rw [hc7]; rfl) (by decide) ?_
    refine lv_aload_n hx hb dX4_tell_164 rfl (lv_at hl 0 rfl) ?_
    refine va_get (ci := 4) (v := .ref (ad 17)) (C := RX4) (T := TX4) (N := 4) hx hb hts hiX4 hown hK hP 19 rfl rfl 3 (by decide) (hts _ (List.mem_of_getElem? (i := 1) rfl)) (fun _ h9 => h9) rfl dX4_tell_165 ?_
    refine lv_aload_n hx hb dX4_tell_168 rfl (lv_at hl 0 rfl) ?_
    refine va_get (ci := 4) (v := .ref (ad 9)) (C := RX4) (T := TX4) (N := 4) hx hb hts hiX4 hown hK hP 19 rfl rfl 2 (by decide) (hts _ (List.mem_of_getElem? (i := 3) rfl)) (fun _ h9 => h9) rfl dX4_tell_169 ?_
    refine lv_iload_n hx hb dX4_tell_172 rfl (lv_at hl 2 rfl) ?_
    refine lv_iload_n hx hb dX4_tell_173 rfl (lv_at hl 3 rfl) ?_
    obtain ⟨r_33, hq, hf⟩ := ob hf
    try dsimp only at hf
    refine rcV 9 0 (As := [.int p1, .int p2]) (rest := [.ref (ad 17)]) ⟨hx, hb, hml, hown, hts⟩ (ctX0_countWithin l D cI cB cZ ad cBad cFul cCnt cOpc cStp cTsz cRcn cPlc cFlt cVil cLsz cRts cLns cOpn cGps cTrl cWgt cRch cByt cWds cFst cSnd cSgn p1 p2 r_33 hq) (cwV 2 hts gX4_tell_X0_countWithin rfl rfl rfl (by decide +kernel) ⟨Nat.le_of_ble_eq_true rfl, Nat.le_of_ble_eq_true rfl⟩) hK hP rfl rfl rfl hl.1 rfl (Nat.le_of_ble_eq_true rfl) dX4_tell_174 ⟨Nat.zero_le _, Nat.zero_le _⟩ ?_
    obtain ⟨⟨qcLsz_34, qcSgn_35⟩, hq, hf⟩ := ob hf
    try dsimp only at hf
    refine mcVv 17 2 (As := [.int r_33]) (rest := []) ⟨hx, hb, hml, hown, hts⟩ (ctX2_putNumber l D cI cB cZ ad A hAD cBad cFul cCnt cOpc cStp cTsz cRcn cPlc cFlt cVil cLsz cRts cLns cOpn cGps cTrl cWgt cRch cByt cWds cFst cSnd cSgn r_33 qcLsz_34 qcSgn_35 hq) (cwV 1 hts gX4_tell_X2_putNumber rfl rfl rfl (by decide +kernel) ⟨Nat.le_of_ble_eq_true rfl, Nat.le_of_ble_eq_true rfl⟩) hK hP hS rfl rfl rfl hl.1 rfl (Nat.le_of_ble_eq_true rfl) dX4_tell_177 ⟨Nat.zero_le _, Nat.zero_le _⟩ (fun H locs hP hS => ?_)
    refine lv_goto (tgt := 205) hx hb dX4_tell_180 (by decide) ?_
    obtain ⟨e0, hz1⟩ := Prod.mk.inj (Option.some.inj hf)
    obtain ⟨e1, hz2⟩ := Prod.mk.inj hz1
    obtain ⟨e2, hz3⟩ := Prod.mk.inj hz2
    obtain ⟨e3, hz4⟩ := Prod.mk.inj hz3
    obtain ⟨e4, hz5⟩ := Prod.mk.inj hz4
    obtain ⟨e5, hz6⟩ := Prod.mk.inj hz5
    obtain ⟨e6, hz7⟩ := Prod.mk.inj hz6
    obtain ⟨e7, hz8⟩ := Prod.mk.inj hz7
    obtain ⟨e8, hz9⟩ := Prod.mk.inj hz8
    subst e0
    subst e1
    subst e2
    subst e3
    subst e4
    subst e5
    subst e6
    subst e7
    subst e8
    subst hz9
    exact rm_v hx hb hr hlk hP hS dX4_tell_205
  replace hf := (if_neg hc7).symm.trans hf
  by_cases hc8 : p0 = (8 : Int32)
  · replace hf := (if_pos hc8).symm.trans hf
    refine lv_tableIn (tgt := 183) hx hb dX4_tell_1 (by rw [hc8]; decide) (by rw [hc8]; decide) (by rw [hc8]; rfl) (by decide) ?_
    refine lv_aload_n hx hb dX4_tell_183 rfl (lv_at hl 0 rfl) ?_
    obtain ⟨⟨qcLsz_36, qcSgn_37⟩, hq, hf⟩ := ob hf
    try dsimp only at hf
    refine mcVv 19 4 (As := []) (rest := []) ⟨hx, hb, hml, hown, hts⟩ (ctX4_tellAll l D cI cB cZ ad A hAD cBad cFul cCnt cOpc cStp cTsz cRcn cPlc cFlt cVil cLsz cRts cLns cOpn cGps cTrl cWgt cRch cByt cWds cFst cSnd cSgn  qcLsz_36 qcSgn_37 hq) (cwV 0 hts gX4_tell_X4_tellAll rfl rfl rfl (by decide +kernel) ⟨Nat.le_of_ble_eq_true rfl, Nat.le_of_ble_eq_true rfl⟩) hK hP hS rfl rfl rfl hl.1 rfl (Nat.le_of_ble_eq_true rfl) dX4_tell_184 ⟨Nat.zero_le _, Nat.zero_le _⟩ (fun H locs hP hS => ?_)
    refine lv_goto (tgt := 205) hx hb dX4_tell_187 (by decide) ?_
    obtain ⟨e0, hz1⟩ := Prod.mk.inj (Option.some.inj hf)
    obtain ⟨e1, hz2⟩ := Prod.mk.inj hz1
    obtain ⟨e2, hz3⟩ := Prod.mk.inj hz2
    obtain ⟨e3, hz4⟩ := Prod.mk.inj hz3
    obtain ⟨e4, hz5⟩ := Prod.mk.inj hz4
    obtain ⟨e5, hz6⟩ := Prod.mk.inj hz5
    obtain ⟨e6, hz7⟩ := Prod.mk.inj hz6
    obtain ⟨e7, hz8⟩ := Prod.mk.inj hz7
    obtain ⟨e8, hz9⟩ := Prod.mk.inj hz8
    subst e0
    subst e1
    subst e2
    subst e3
    subst e4
    subst e5
    subst e6
    subst e7
    subst e8
    subst hz9
    exact rm_v hx hb hr hlk hP hS dX4_tell_205
  replace hf := (if_neg hc8).symm.trans hf
  refine lv_tableOut (tgt := 190) hx hb dX4_tell_1 (by have e0 := ne_ti (z := 0) hc0 (by decide); have e1 := ne_ti (z := 1) hc1 (by decide); have e2 := ne_ti (z := 2) hc2 (by decide); have e3 := ne_ti (z := 3) hc3 (by decide); have e4 := ne_ti (z := 4) hc4 (by decide); have e5 := ne_ti (z := 5) hc5 (by decide); have e6 := ne_ti (z := 6) hc6 (by decide); have e7 := ne_ti (z := 7) hc7 (by decide); have e8 := ne_ti (z := 8) hc8 (by decide); omega) (by decide) ?_
  refine lv_aload_n hx hb dX4_tell_190 rfl (lv_at hl 0 rfl) ?_
  refine va_get (ci := 4) (v := .ref (ad 17)) (C := RX4) (T := TX4) (N := 4) hx hb hts hiX4 hown hK hP 19 rfl rfl 3 (by decide) (hts _ (List.mem_of_getElem? (i := 1) rfl)) (fun _ h9 => h9) rfl dX4_tell_191 ?_
  refine lv_aload_n hx hb dX4_tell_194 rfl (lv_at hl 0 rfl) ?_
  refine va_get (ci := 4) (v := .ref (ad 9)) (C := RX4) (T := TX4) (N := 4) hx hb hts hiX4 hown hK hP 19 rfl rfl 2 (by decide) (hts _ (List.mem_of_getElem? (i := 3) rfl)) (fun _ h9 => h9) rfl dX4_tell_195 ?_
  refine lv_iload_n hx hb dX4_tell_198 rfl (lv_at hl 2 rfl) ?_
  obtain ⟨r_38, hq, hf⟩ := ob hf
  try dsimp only at hf
  refine rcV 9 0 (As := [.int p1]) (rest := [.ref (ad 17)]) ⟨hx, hb, hml, hown, hts⟩ (ctX0_total l D cI cB cZ ad cBad cFul cCnt cOpc cStp cTsz cRcn cPlc cFlt cVil cLsz cRts cLns cOpn cGps cTrl cWgt cRch cByt cWds cFst cSnd cSgn p1 r_38 hq) (cwV 1 hts gX4_tell_X0_total rfl rfl rfl (by decide +kernel) ⟨Nat.le_of_ble_eq_true rfl, Nat.le_of_ble_eq_true rfl⟩) hK hP rfl rfl rfl hl.1 rfl (Nat.le_of_ble_eq_true rfl) dX4_tell_199 ⟨Nat.zero_le _, Nat.zero_le _⟩ ?_
  obtain ⟨⟨qcLsz_39, qcSgn_40⟩, hq, hf⟩ := ob hf
  try dsimp only at hf
  refine mcVv 17 2 (As := [.int r_38]) (rest := []) ⟨hx, hb, hml, hown, hts⟩ (ctX2_putNumber l D cI cB cZ ad A hAD cBad cFul cCnt cOpc cStp cTsz cRcn cPlc cFlt cVil cLsz cRts cLns cOpn cGps cTrl cWgt cRch cByt cWds cFst cSnd cSgn r_38 qcLsz_39 qcSgn_40 hq) (cwV 1 hts gX4_tell_X2_putNumber rfl rfl rfl (by decide +kernel) ⟨Nat.le_of_ble_eq_true rfl, Nat.le_of_ble_eq_true rfl⟩) hK hP hS rfl rfl rfl hl.1 rfl (Nat.le_of_ble_eq_true rfl) dX4_tell_202 ⟨Nat.zero_le _, Nat.zero_le _⟩ (fun H locs hP hS => ?_)
  obtain ⟨e0, hz1⟩ := Prod.mk.inj (Option.some.inj hf)
  obtain ⟨e1, hz2⟩ := Prod.mk.inj hz1
  obtain ⟨e2, hz3⟩ := Prod.mk.inj hz2
  obtain ⟨e3, hz4⟩ := Prod.mk.inj hz3
  obtain ⟨e4, hz5⟩ := Prod.mk.inj hz4
  obtain ⟨e5, hz6⟩ := Prod.mk.inj hz5
  obtain ⟨e6, hz7⟩ := Prod.mk.inj hz6
  obtain ⟨e7, hz8⟩ := Prod.mk.inj hz7
  obtain ⟨e8, hz9⟩ := Prod.mk.inj hz8
  subst e0
  subst e1
  subst e2
  subst e3
  subst e4
  subst e5
  subst e6
  subst e7
  subst e8
  subst hz9
  exact rm_v hx hb hr hlk hP hS dX4_tell_205
