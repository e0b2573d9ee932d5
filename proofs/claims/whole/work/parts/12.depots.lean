def fX0_closest_J61 (v4_3 : Int32) (kk : (Int32 × Int32 × Int32) → Option (Int32 × Int32 × Int32)) (v2_4 : Int32) (v3_5 : Int32) : Option (Int32 × Int32 × Int32) :=
  (kk (v2_4, v3_5, (v4_3 + (1 : Int32))))
def fX0_closest_L8 (cCnt : Int32) (cOpn : Nat → Int32) (cGps : Nat → Int32) (p0 : Int32) (kk : (Int32 × Int32 × Int32) → Option (Int32 × Int32 × Int32)) (ww : Int32 × Int32 × Int32) : Option (Int32 × Int32 × Int32) :=
  match ww with
  | (v2_1, v3_2, v4_3) => (if cCnt ≤ v4_3 then (some (v2_1, v3_2, v4_3)) else (if gI v4_3 60 then (if (cOpn (v4_3).toNatClampNeg) = 0 then (fX0_closest_J61 v4_3 kk v2_1 v3_2) else ((fX1_gap cGps p0 v4_3).bind fun r_6 => (if v3_2 ≤ r_6 then (fX0_closest_J61 v4_3 kk v2_1 v3_2) else ((fX1_gap cGps p0 v4_3).bind fun r_7 => (fX0_closest_J61 v4_3 kk v4_3 r_7))))) else none))
def fX0_closest (cCnt : Int32) (cOpn : Nat → Int32) (cGps : Nat → Int32) (p0 : Int32) : Option (Int32) :=
  ((lp (fX0_closest_L8 cCnt cOpn cGps p0) FU ((-1 : Int32), (1000000 : Int32), (0 : Int32))).bind fun (ov2_1, ov3_2, ov4_3) => (some ov2_1))
set_option maxRecDepth 100000 in
set_option maxHeartbeats 4000000 in
theorem ctX0_closest (l : Launch) (D : va_G) (cI cB cZ : ClassId) (ad : Nat → Nat) (cBad cFul cCnt cOpc cStp cTsz cRcn cPlc cFlt cVil cLsz : Int32) (cRts cLns cOpn cGps cTrl cWgt cRch cByt cWds cFst cSnd cSgn : Nat → Int32) (p0 : Int32) (rv : Int32) (hf : fX0_closest cCnt cOpn cGps p0 = some rv) : Met l yX0_closest wsX0_closest (rmN 1 23) (PR D (tyL cI cB cZ) (wC cI cB cZ ad cBad cFul cCnt cOpc cStp cTsz cRcn cPlc cFlt cVil cLsz cRts cLns cOpn cGps cTrl cWgt cRch cByt cWds cFst cSnd cSgn) [.ref (ad 9), .int p0]) (SI rv) 0 0 (fun _ => False) := by
  refine mk_met cX0_closest 5 (some .int) (by decide) rfl (Nat.le_of_ble_eq_true rfl) ?_
  intro p e s m args below meth c ls hx hb hr hlk hml hown hts hPK hl
  obtain ⟨hP, hK⟩ := hPK
  replace hl : lv_has ls 5 [(0, .ref (ad 9)), (1, .int p0)] := hl
  replace hown : s.vm.findClass RX0 = some m.cls := hown
  have hiX0 : ∀ w ∈ wsX00, w ∈ wsX0_closest := fun w h => List.mem_cons_of_mem _ (List.mem_append_left _ (List.mem_append_right _ h))
  have hiX1 : ∀ w ∈ wsX10, w ∈ wsX0_closest := fun w h => List.mem_cons_of_mem _ (List.mem_append_right _ h)
  unfold fX0_closest at hf
  refine lv_iconst (v := (-1 : Int32)) hx hb dX0_closest_0 (by decide) ?_
  refine lv_istore_n (lv' := [(2, .int (-1 : Int32)), (0, .ref (ad 9)), (1, .int p0)]) hx hb dX0_closest_1 rfl hl (by decide) rfl (fun ls hl => ?_)
  refine lv_ldc (v := (1000000 : Int32)) hx hb hown (hts _ (List.mem_of_getElem? (i := 1) rfl)) dX0_closest_2 ?_
  refine lv_istore_n (lv' := [(3, .int (1000000 : Int32)), (2, .int (-1 : Int32)), (0, .ref (ad 9)), (1, .int p0)]) hx hb dX0_closest_4 rfl hl (by decide) rfl (fun ls hl => ?_)
  refine lv_iconst (v := (0 : Int32)) hx hb dX0_closest_5 (by decide) ?_
  refine lv_istore (lv' := [(4, .int (0 : Int32)), (3, .int (1000000 : Int32)), (2, .int (-1 : Int32)), (0, .ref (ad 9)), (1, .int p0)]) hx hb dX0_closest_6 hl (by decide) rfl (fun ls hl => ?_)
  have hL8 : ∀ (n : Nat) (v2_1 : Int32) (v3_2 : Int32) (v4_3 : Int32) (ov2_1 : Int32) (ov3_2 : Int32) (ov4_3 : Int32) (ls : Array Slot), lp (fX0_closest_L8 cCnt cOpn cGps p0) n (v2_1, v3_2, v4_3) = some (ov2_1, ov3_2, ov4_3) → lv_has ls 5 [(0, .ref (ad 9)), (1, .int p0), (2, .int v2_1), (3, .int v3_2), (4, .int v4_3)] → (∀ (ls : Array Slot), lv_has ls 5 [(0, .ref (ad 9)), (1, .int p0), (2, .int ov2_1), (3, .int ov3_2), (4, .int ov4_3)] → W p l e (rmN 1 23) s m args below meth c s.heap [] 0 0 (MQ below (SI rv) args s 0 0 (fun _ => False)) (F0 m 67 ls [])) → W p l e (rmN 1 23) s m args below meth c s.heap [] 0 0 (MQ below (SI rv) args s 0 0 (fun _ => False)) (F0 m 8 ls []) := by
    intro n
    induction n with
    | zero => intro v2_1 v3_2 v4_3 ov2_1 ov3_2 ov4_3 ls hf; exact (lp_0 hf).elim
    | succ n ih =>
      intro v2_1 v3_2 v4_3 ov2_1 ov3_2 ov4_3 ls hf hl hE
      replace hf := lp_s hf
      dsimp only [fX0_closest_L8] at hf
      refine lv_iload hx hb dX0_closest_8 (lv_at hl 4 rfl) ?_
      refine lv_aload_n hx hb dX0_closest_10 rfl (lv_at hl 0 rfl) ?_
      refine va_get (ci := 0) (v := .ref (ad 1)) (C := RX0) (T := TX0) (N := 2) hx hb hts hiX0 hown hK hP 9 rfl rfl 0 (by decide) (hts _ (List.mem_of_getElem? (i := 2) rfl)) (fun _ h9 => h9) rfl dX0_closest_11 ?_
      refine va_get (ci := 1) (v := .int cCnt) (C := RX1) (T := TX1) (N := 6) hx hb hts hiX1 hown hK hP 1 rfl rfl 4 (by decide) (hts _ (List.mem_of_getElem? (i := 3) rfl)) (fun _ h9 => h9) rfl dX0_closest_14 ?_
      refine lv_icmp_ge (tgt := 67) hx hb dX0_closest_17 (by decide) (fun hc => ?_) (fun hc => ?_)
      · replace hf := (if_pos hc).symm.trans hf
        cases hf
        exact hE _ (lv_sub hl [0, 1, 2, 3, 4] rfl)
      · replace hf := (if_neg hc).symm.trans hf
        refine lv_aload_n hx hb dX0_closest_20 rfl (lv_at hl 0 rfl) ?_
        refine va_get (ci := 0) (v := .ref (ad 1)) (C := RX0) (T := TX0) (N := 2) hx hb hts hiX0 hown hK hP 9 rfl rfl 0 (by decide) (hts _ (List.mem_of_getElem? (i := 2) rfl)) (fun _ h9 => h9) rfl dX0_closest_21 ?_
        refine va_get (ci := 1) (v := .ref (ad 4)) (C := RX1) (T := TX1) (N := 6) hx hb hts hiX1 hown hK hP 1 rfl rfl 2 (by decide) (hts _ (List.mem_of_getElem? (i := 4) rfl)) (fun _ h9 => h9) rfl dX0_closest_24 ?_
        refine lv_iload hx hb dX0_closest_27 (lv_at hl 4 rfl) ?_
        obtain ⟨hg, hf⟩ := og hf
        refine va_zald hx hb hK hP 4 2 rfl rfl (gI_in hg) dX0_closest_29 ?_
        have hJ61 : ∀ (v2_4 : Int32) (v3_5 : Int32) (ls : Array Slot), fX0_closest_J61 v4_3 (lp (fX0_closest_L8 cCnt cOpn cGps p0) n) v2_4 v3_5 = some (ov2_1, ov3_2, ov4_3) → lv_has ls 5 [(0, .ref (ad 9)), (1, .int p0), (2, .int v2_4), (3, .int v3_5), (4, .int v4_3)] → W p l e (rmN 1 23) s m args below meth c s.heap [] 0 0 (MQ below (SI rv) args s 0 0 (fun _ => False)) (F0 m 61 ls []) := by
          intro v2_4 v3_5 ls hf hl
          unfold fX0_closest_J61 at hf
          refine lv_iinc (v := (v4_3 + (1 : Int32))) (lv' := [(4, .int (v4_3 + (1 : Int32))), (0, .ref (ad 9)), (1, .int p0), (2, .int v2_4), (3, .int v3_5)]) hx hb dX0_closest_61 hl (k := 4) rfl rfl (by decide) rfl (fun ls hl => ?_)
          refine lv_goto (tgt := 8) hx hb dX0_closest_64 (by decide) ?_
          exact ih _ _ _ _ _ _ _ hf (lv_sub hl [1, 2, 3, 4, 0] rfl) hE
        refine lv_if_eq (tgt := 61) hx hb dX0_closest_30 (by decide) (fun hc => ?_) (fun hc => ?_)
        · replace hf := (if_pos hc).symm.trans hf
          exact hJ61 _ _ _ hf (lv_sub hl [0, 1, 2, 3, 4] rfl)
        · replace hf := (if_neg hc).symm.trans hf
          refine lv_aload_n hx hb dX0_closest_33 rfl (lv_at hl 0 rfl) ?_
          refine va_get (ci := 0) (v := .ref (ad 1)) (C := RX0) (T := TX0) (N := 2) hx hb hts hiX0 hown hK hP 9 rfl rfl 0 (by decide) (hts _ (List.mem_of_getElem? (i := 2) rfl)) (fun _ h9 => h9) rfl dX0_closest_34 ?_
          refine lv_iload_n hx hb dX0_closest_37 rfl (lv_at hl 1 rfl) ?_
          refine lv_iload hx hb dX0_closest_38 (lv_at hl 4 rfl) ?_
          obtain ⟨r_6, hq, hf⟩ := ob hf
          try dsimp only at hf
          refine rcV 1 1 (As := [.int p0, .int v4_3]) (rest := []) ⟨hx, hb, hml, hown, hts⟩ (ctX1_gap l D cI cB cZ ad cBad cFul cCnt cOpc cStp cTsz cRcn cPlc cFlt cVil cLsz cRts cLns cOpn cGps cTrl cWgt cRch cByt cWds cFst cSnd cSgn p0 v4_3 r_6 hq) (cwV 2 hts gX0_closest_X1_gap rfl rfl rfl (by decide +kernel) ⟨Nat.le_of_ble_eq_true rfl, Nat.le_of_ble_eq_true rfl⟩) hK hP rfl rfl rfl hl.1 rfl (Nat.le_of_ble_eq_true rfl) dX0_closest_40 ⟨Nat.zero_le _, Nat.zero_le _⟩ ?_
          refine lv_iload_n hx hb dX0_closest_43 rfl (lv_at hl 3 rfl) ?_
          refine lv_icmp_ge (tgt := 61) hx hb dX0_closest_44 (by decide) (fun hc => ?_) (fun hc => ?_)
          · replace hf := (if_pos hc).symm.trans hf
            exact hJ61 _ _ _ hf (lv_sub hl [0, 1, 2, 3, 4] rfl)
          · replace hf := (if_neg hc).symm.trans hf
            refine lv_aload_n hx hb dX0_closest_47 rfl (lv_at hl 0 rfl) ?_
            refine va_get (ci := 0) (v := .ref (ad 1)) (C := RX0) (T := TX0) (N := 2) hx hb hts hiX0 hown hK hP 9 rfl rfl 0 (by decide) (hts _ (List.mem_of_getElem? (i := 2) rfl)) (fun _ h9 => h9) rfl dX0_closest_48 ?_
            refine lv_iload_n hx hb dX0_closest_51 rfl (lv_at hl 1 rfl) ?_
            refine lv_iload hx hb dX0_closest_52 (lv_at hl 4 rfl) ?_
            obtain ⟨r_7, hq, hf⟩ := ob hf
            try dsimp only at hf
            refine rcV 1 1 (As := [.int p0, .int v4_3]) (rest := []) ⟨hx, hb, hml, hown, hts⟩ (ctX1_gap l D cI cB cZ ad cBad cFul cCnt cOpc cStp cTsz cRcn cPlc cFlt cVil cLsz cRts cLns cOpn cGps cTrl cWgt cRch cByt cWds cFst cSnd cSgn p0 v4_3 r_7 hq) (cwV 2 hts gX0_closest_X1_gap rfl rfl rfl (by decide +kernel) ⟨Nat.le_of_ble_eq_true rfl, Nat.le_of_ble_eq_true rfl⟩) hK hP rfl rfl rfl hl.1 rfl (Nat.le_of_ble_eq_true rfl) dX0_closest_54 ⟨Nat.zero_le _, Nat.zero_le _⟩ ?_
            refine lv_istore_n (lv' := [(3, .int r_7), (0, .ref (ad 9)), (1, .int p0), (2, .int v2_1), (4, .int v4_3)]) hx hb dX0_closest_57 rfl hl (by decide) rfl (fun ls hl => ?_)
            refine lv_iload hx hb dX0_closest_58 (lv_at hl 4 rfl) ?_
            refine lv_istore_n (lv' := [(2, .int v4_3), (3, .int r_7), (0, .ref (ad 9)), (1, .int p0), (4, .int v4_3)]) hx hb dX0_closest_60 rfl hl (by decide) rfl (fun ls hl => ?_)
            exact hJ61 _ _ _ hf (lv_sub hl [2, 3, 0, 1, 4] rfl)
  obtain ⟨⟨ov2_1, ov3_2, ov4_3⟩, hq, hf⟩ := ob hf
  try dsimp only at hf
  refine hL8 FU _ _ _ ov2_1 ov3_2 ov4_3 ls hq (lv_sub hl [3, 4, 2, 1, 0] rfl) (fun ls hl => ?_)
  refine lv_iload_n hx hb dX0_closest_67 rfl (lv_at hl 2 rfl) ?_
  exact re_i hx hb hr hlk dX0_closest_68 hf

def fX0_countBefore_J76 (v5_3 : Int32) (kk : (Int32 × Int32) → Option (Int32 × Int32)) (v3_5 : Int32) : Option (Int32 × Int32) :=
  (kk (v3_5, (v5_3 + (1 : Int32))))
def fX0_countBefore_J73 (v3_2 : Int32) (v5_3 : Int32) (kk : (Int32 × Int32) → Option (Int32 × Int32)) : Option (Int32 × Int32) :=
  (fX0_countBefore_J76 v5_3 kk (v3_2 + (1 : Int32)))
def fX0_countBefore_L16 (cCnt : Int32) (cOpn : Nat → Int32) (cGps : Nat → Int32) (p0 : Int32) (p1 : Int32) (r_1 : Int32) (kk : (Int32 × Int32) → Option (Int32 × Int32)) (ww : Int32 × Int32) : Option (Int32 × Int32) :=
  match ww with
  | (v3_2, v5_3) => (if cCnt ≤ v5_3 then (some (v3_2, v5_3)) else ((fX1_gap cGps p0 v5_3).bind fun r_4 => (if gI v5_3 60 then (if (cOpn (v5_3).toNatClampNeg) = 0 then (fX0_countBefore_J76 v5_3 kk v3_2) else (if r_4 < r_1 then (fX0_countBefore_J73 v3_2 v5_3 kk) else (if r_4 = r_1 then (if p1 ≤ v5_3 then (fX0_countBefore_J76 v5_3 kk v3_2) else (fX0_countBefore_J73 v3_2 v5_3 kk)) else (fX0_countBefore_J76 v5_3 kk v3_2)))) else none)))
def fX0_countBefore (cCnt : Int32) (cOpn : Nat → Int32) (cGps : Nat → Int32) (p0 : Int32) (p1 : Int32) : Option (Int32) :=
  ((fX1_gap cGps p0 p1).bind fun r_1 => ((lp (fX0_countBefore_L16 cCnt cOpn cGps p0 p1 r_1) FU ((0 : Int32), (0 : Int32))).bind fun (ov3_2, ov5_3) => (some ov3_2)))
set_option maxRecDepth 100000 in
set_option maxHeartbeats 4000000 in
theorem ctX0_countBefore (l : Launch) (D : va_G) (cI cB cZ : ClassId) (ad : Nat → Nat) (cBad cFul cCnt cOpc cStp cTsz cRcn cPlc cFlt cVil cLsz : Int32) (cRts cLns cOpn cGps cTrl cWgt cRch cByt cWds cFst cSnd cSgn : Nat → Int32) (p0 : Int32) (p1 : Int32) (rv : Int32) (hf : fX0_countBefore cCnt cOpn cGps p0 p1 = some rv) : Met l yX0_countBefore wsX0_countBefore (rmN 1 23) (PR D (tyL cI cB cZ) (wC cI cB cZ ad cBad cFul cCnt cOpc cStp cTsz cRcn cPlc cFlt cVil cLsz cRts cLns cOpn cGps cTrl cWgt cRch cByt cWds cFst cSnd cSgn) [.ref (ad 9), .int p0, .int p1]) (SI rv) 0 0 (fun _ => False) := by
  refine mk_met cX0_countBefore 7 (some .int) (by decide) rfl (Nat.le_of_ble_eq_true rfl) ?_
  intro p e s m args below meth c ls hx hb hr hlk hml hown hts hPK hl
  obtain ⟨hP, hK⟩ := hPK
  replace hl : lv_has ls 7 [(0, .ref (ad 9)), (1, .int p0), (2, .int p1)] := hl
  replace hown : s.vm.findClass RX0 = some m.cls := hown
  have hiX0 : ∀ w ∈ wsX00, w ∈ wsX0_countBefore := fun w h => List.mem_cons_of_mem _ (List.mem_append_left _ (List.mem_append_right _ h))
  have hiX1 : ∀ w ∈ wsX10, w ∈ wsX0_countBefore := fun w h => List.mem_cons_of_mem _ (List.mem_append_right _ h)
  unfold fX0_countBefore at hf
  refine lv_iconst (v := (0 : Int32)) hx hb dX0_countBefore_0 (by decide) ?_
  refine lv_istore_n (lv' := [(3, .int (0 : Int32)), (0, .ref (ad 9)), (1, .int p0), (2, .int p1)]) hx hb dX0_countBefore_1 rfl hl (by decide) rfl (fun ls hl => ?_)
  refine lv_aload_n hx hb dX0_countBefore_2 rfl (lv_at hl 1 rfl) ?_
  refine va_get (ci := 0) (v := .ref (ad 1)) (C := RX0) (T := TX0) (N := 2) hx hb hts hiX0 hown hK hP 9 rfl rfl 0 (by decide) (hts _ (List.mem_of_getElem? (i := 1) rfl)) (fun _ h9 => h9) rfl dX0_countBefore_3 ?_
  refine lv_iload_n hx hb dX0_countBefore_6 rfl (lv_at hl 2 rfl) ?_
  refine lv_iload_n hx hb dX0_countBefore_7 rfl (lv_at hl 3 rfl) ?_
  obtain ⟨r_1, hq, hf⟩ := ob hf
  try dsimp only at hf
  refine rcV 1 1 (As := [.int p0, .int p1]) (rest := []) ⟨hx, hb, hml, hown, hts⟩ (ctX1_gap l D cI cB cZ ad cBad cFul cCnt cOpc cStp cTsz cRcn cPlc cFlt cVil cLsz cRts cLns cOpn cGps cTrl cWgt cRch cByt cWds cFst cSnd cSgn p0 p1 r_1 hq) (cwV 2 hts gX0_countBefore_X1_gap rfl rfl rfl (by decide +kernel) ⟨Nat.le_of_ble_eq_true rfl, Nat.le_of_ble_eq_true rfl⟩) hK hP rfl rfl rfl hl.1 rfl (Nat.le_of_ble_eq_true rfl) dX0_countBefore_8 ⟨Nat.zero_le _, Nat.zero_le _⟩ ?_
  refine lv_istore (lv' := [(4, .int r_1), (3, .int (0 : Int32)), (0, .ref (ad 9)), (1, .int p0), (2, .int p1)]) hx hb dX0_countBefore_11 hl (by decide) rfl (fun ls hl => ?_)
  refine lv_iconst (v := (0 : Int32)) hx hb dX0_countBefore_13 (by decide) ?_
  refine lv_istore (lv' := [(5, .int (0 : Int32)), (4, .int r_1), (3, .int (0 : Int32)), (0, .ref (ad 9)), (1, .int p0), (2, .int p1)]) hx hb dX0_countBefore_14 hl (by decide) rfl (fun ls hl => ?_)
  have hL16 : ∀ (n : Nat) (v3_2 : Int32) (v5_3 : Int32) (ov3_2 : Int32) (ov5_3 : Int32) (ls : Array Slot), lp (fX0_countBefore_L16 cCnt cOpn cGps p0 p1 r_1) n (v3_2, v5_3) = some (ov3_2, ov5_3) → lv_has ls 7 [(0, .ref (ad 9)), (1, .int p0), (2, .int p1), (3, .int v3_2), (4, .int r_1), (5, .int v5_3)] → (∀ (ls : Array Slot), lv_has ls 7 [(0, .ref (ad 9)), (1, .int p0), (2, .int p1), (3, .int ov3_2), (4, .int r_1), (5, .int ov5_3)] → W p l e (rmN 1 23) s m args below meth c s.heap [] 0 0 (MQ below (SI rv) args s 0 0 (fun _ => False)) (F0 m 82 ls [])) → W p l e (rmN 1 23) s m args below meth c s.heap [] 0 0 (MQ below (SI rv) args s 0 0 (fun _ => False)) (F0 m 16 ls []) := by
    intro n
    induction n with
    | zero => intro v3_2 v5_3 ov3_2 ov5_3 ls hf; exact (lp_0 hf).elim
    | succ n ih =>
      intro v3_2 v5_3 ov3_2 ov5_3 ls hf hl hE
      replace hf := lp_s hf
      dsimp only [fX0_countBefore_L16] at hf
      refine lv_iload hx hb dX0_countBefore_16 (lv_at hl 5 rfl) ?_
      refine lv_aload_n hx hb dX0_countBefore_18 rfl (lv_at hl 0 rfl) ?_
      refine va_get (ci := 0) (v := .ref (ad 1)) (C := RX0) (T := TX0) (N := 2) hx hb hts hiX0 hown hK hP 9 rfl rfl 0 (by decide) (hts _ (List.mem_of_getElem? (i := 1) rfl)) (fun _ h9 => h9) rfl dX0_countBefore_19 ?_
      refine va_get (ci := 1) (v := .int cCnt) (C := RX1) (T := TX1) (N := 6) hx hb hts hiX1 hown hK hP 1 rfl rfl 4 (by decide) (hts _ (List.mem_of_getElem? (i := 2) rfl)) (fun _ h9 => h9) rfl dX0_countBefore_22 ?_
      refine lv_icmp_ge (tgt := 82) hx hb dX0_countBefore_25 (by decide) (fun hc => ?_) (fun hc => ?_)
      · replace hf := (if_pos hc).symm.trans hf
        cases hf
        exact hE _ (lv_sub hl [0, 1, 2, 3, 4, 5] rfl)
      · replace hf := (if_neg hc).symm.trans hf
        refine lv_aload_n hx hb dX0_countBefore_28 rfl (lv_at hl 0 rfl) ?_
        refine va_get (ci := 0) (v := .ref (ad 1)) (C := RX0) (T := TX0) (N := 2) hx hb hts hiX0 hown hK hP 9 rfl rfl 0 (by decide) (hts _ (List.mem_of_getElem? (i := 1) rfl)) (fun _ h9 => h9) rfl dX0_countBefore_29 ?_
        refine lv_iload_n hx hb dX0_countBefore_32 rfl (lv_at hl 1 rfl) ?_
        refine lv_iload hx hb dX0_countBefore_33 (lv_at hl 5 rfl) ?_
        obtain ⟨r_4, hq, hf⟩ := ob hf
        try dsimp only at hf
        refine rcV 1 1 (As := [.int p0, .int v5_3]) (rest := []) ⟨hx, hb, hml, hown, hts⟩ (ctX1_gap l D cI cB cZ ad cBad cFul cCnt cOpc cStp cTsz cRcn cPlc cFlt cVil cLsz cRts cLns cOpn cGps cTrl cWgt cRch cByt cWds cFst cSnd cSgn p0 v5_3 r_4 hq) (cwV 2 hts gX0_countBefore_X1_gap rfl rfl rfl (by decide +kernel) ⟨Nat.le_of_ble_eq_true rfl, Nat.le_of_ble_eq_true rfl⟩) hK hP rfl rfl rfl hl.1 rfl (Nat.le_of_ble_eq_true rfl) dX0_countBefore_35 ⟨Nat.zero_le _, Nat.zero_le _⟩ ?_
        refine lv_istore (lv' := [(6, .int r_4), (0, .ref (ad 9)), (1, .int p0), (2, .int p1), (3, .int v3_2), (4, .int r_1), (5, .int v5_3)]) hx hb dX0_countBefore_38 hl (by decide) rfl (fun ls hl => ?_)
        refine lv_aload_n hx hb dX0_countBefore_40 rfl (lv_at hl 1 rfl) ?_
        refine va_get (ci := 0) (v := .ref (ad 1)) (C := RX0) (T := TX0) (N := 2) hx hb hts hiX0 hown hK hP 9 rfl rfl 0 (by decide) (hts _ (List.mem_of_getElem? (i := 1) rfl)) (fun _ h9 => h9) rfl dX0_countBefore_41 ?_
        refine va_get (ci := 1) (v := .ref (ad 4)) (C := RX1) (T := TX1) (N := 6) hx hb hts hiX1 hown hK hP 1 rfl rfl 2 (by decide) (hts _ (List.mem_of_getElem? (i := 3) rfl)) (fun _ h9 => h9) rfl dX0_countBefore_44 ?_
        refine lv_iload hx hb dX0_countBefore_47 (lv_at hl 6 rfl) ?_
        obtain ⟨hg, hf⟩ := og hf
        refine va_zald hx hb hK hP 4 2 rfl rfl (gI_in hg) dX0_countBefore_49 ?_
        have hJ76 : ∀ (v3_5 : Int32) (ls : Array Slot), fX0_countBefore_J76 v5_3 (lp (fX0_countBefore_L16 cCnt cOpn cGps p0 p1 r_1) n) v3_5 = some (ov3_2, ov5_3) → lv_has ls 7 [(0, .ref (ad 9)), (1, .int p0), (2, .int p1), (3, .int v3_5), (4, .int r_1), (5, .int v5_3), (6, .int r_4)] → W p l e (rmN 1 23) s m args below meth c s.heap [] 0 0 (MQ below (SI rv) args s 0 0 (fun _ => False)) (F0 m 76 ls []) := by
          intro v3_5 ls hf hl
          unfold fX0_countBefore_J76 at hf
          refine lv_iinc (v := (v5_3 + (1 : Int32))) (lv' := [(5, .int (v5_3 + (1 : Int32))), (0, .ref (ad 9)), (1, .int p0), (2, .int p1), (3, .int v3_5), (4, .int r_1), (6, .int r_4)]) hx hb dX0_countBefore_76 hl (k := 5) rfl rfl (by decide) rfl (fun ls hl => ?_)
          refine lv_goto (tgt := 16) hx hb dX0_countBefore_79 (by decide) ?_
          exact ih _ _ _ _ _ hf (lv_sub hl [1, 2, 3, 4, 5, 0] rfl) hE
        refine lv_if_eq (tgt := 76) hx hb dX0_countBefore_50 (by decide) (fun hc => ?_) (fun hc => ?_)
        · replace hf := (if_pos hc).symm.trans hf
          exact hJ76 _ _ hf (lv_sub hl [1, 2, 3, 4, 5, 6, 0] rfl)
        · replace hf := (if_neg hc).symm.trans hf
          refine lv_iload hx hb dX0_countBefore_53 (lv_at hl 0 rfl) ?_
          refine lv_iload hx hb dX0_countBefore_55 (lv_at hl 5 rfl) ?_
          have hJ73 : ∀  (ls : Array Slot), fX0_countBefore_J73 v3_2 v5_3 (lp (fX0_countBefore_L16 cCnt cOpn cGps p0 p1 r_1) n) = some (ov3_2, ov5_3) → lv_has ls 7 [(0, .ref (ad 9)), (1, .int p0), (2, .int p1), (3, .int v3_2), (4, .int r_1), (5, .int v5_3), (6, .int r_4)] → W p l e (rmN 1 23) s m args below meth c s.heap [] 0 0 (MQ below (SI rv) args s 0 0 (fun _ => False)) (F0 m 73 ls []) := by
            intro  ls hf hl
            unfold fX0_countBefore_J73 at hf
            refine lv_iinc (v := (v3_2 + (1 : Int32))) (lv' := [(3, .int (v3_2 + (1 : Int32))), (0, .ref (ad 9)), (1, .int p0), (2, .int p1), (4, .int r_1), (5, .int v5_3), (6, .int r_4)]) hx hb dX0_countBefore_73 hl (k := 3) rfl rfl (by decide) rfl (fun ls hl => ?_)
            exact hJ76 _ _ hf (lv_sub hl [1, 2, 3, 0, 4, 5, 6] rfl)
          refine lv_icmp_lt (tgt := 73) hx hb dX0_countBefore_57 (by decide) (fun hc => ?_) (fun hc => ?_)
          · replace hf := (if_pos hc).symm.trans hf
            exact hJ73  _ hf (lv_sub hl [1, 2, 3, 4, 5, 6, 0] rfl)
          · replace hf := (if_neg hc).symm.trans hf
            refine lv_iload hx hb dX0_countBefore_60 (lv_at hl 0 rfl) ?_
            refine lv_iload hx hb dX0_countBefore_62 (lv_at hl 5 rfl) ?_
            refine lv_icmp_ne (tgt := 76) hx hb dX0_countBefore_64 (by decide) (fun hc => ?_) (fun hc => ?_)
            · replace hf := (if_neg hc).symm.trans hf
              exact hJ76 _ _ hf (lv_sub hl [1, 2, 3, 4, 5, 6, 0] rfl)
            · replace hf := (if_pos hc).symm.trans hf
              refine lv_iload hx hb dX0_countBefore_67 (lv_at hl 6 rfl) ?_
              refine lv_iload_n hx hb dX0_countBefore_69 rfl (lv_at hl 3 rfl) ?_
              refine lv_icmp_ge (tgt := 76) hx hb dX0_countBefore_70 (by decide) (fun hc => ?_) (fun hc => ?_)
              · replace hf := (if_pos hc).symm.trans hf
                exact hJ76 _ _ hf (lv_sub hl [1, 2, 3, 4, 5, 6, 0] rfl)
              · replace hf := (if_neg hc).symm.trans hf
                exact hJ73  _ hf (lv_sub hl [1, 2, 3, 4, 5, 6, 0] rfl)
  obtain ⟨⟨ov3_2, ov5_3⟩, hq, hf⟩ := ob hf
  try dsimp only at hf
  refine hL16 FU _ _ ov3_2 ov5_3 ls hq (lv_sub hl [3, 4, 5, 2, 1, 0] rfl) (fun ls hl => ?_)
  refine lv_iload_n hx hb dX0_countBefore_82 rfl (lv_at hl 3 rfl) ?_
  exact re_i hx hb hr hlk dX0_countBefore_83 hf

def fX0_ranked_J37 (v3_1 : Int32) (kk : (Int32) → Option (Int32)) : Option (Int32) :=
  (kk (v3_1 + (1 : Int32)))
def fX0_ranked_L2 (cCnt : Int32) (cOpn : Nat → Int32) (cGps : Nat → Int32) (p0 : Int32) (p1 : Int32) (kk : (Int32) → Option (Int32)) (v3_1 : Int32) : Option (Int32) :=
  (if cCnt ≤ v3_1 then (some (-1 : Int32)) else (if gI v3_1 60 then (if (cOpn (v3_1).toNatClampNeg) = 0 then (fX0_ranked_J37 v3_1 kk) else ((fX0_countBefore cCnt cOpn cGps p0 v3_1).bind fun r_2 => (if r_2 = p1 then (some v3_1) else (fX0_ranked_J37 v3_1 kk)))) else none))
def fX0_ranked (cCnt : Int32) (cOpn : Nat → Int32) (cGps : Nat → Int32) (p0 : Int32) (p1 : Int32) : Option (Int32) :=
  (lp (fX0_ranked_L2 cCnt cOpn cGps p0 p1) FU (0 : Int32))
set_option maxRecDepth 100000 in
set_option maxHeartbeats 4000000 in
theorem ctX0_ranked (l : Launch) (D : va_G) (cI cB cZ : ClassId) (ad : Nat → Nat) (cBad cFul cCnt cOpc cStp cTsz cRcn cPlc cFlt cVil cLsz : Int32) (cRts cLns cOpn cGps cTrl cWgt cRch cByt cWds cFst cSnd cSgn : Nat → Int32) (p0 : Int32) (p1 : Int32) (rv : Int32) (hf : fX0_ranked cCnt cOpn cGps p0 p1 = some rv) : Met l yX0_ranked wsX0_ranked (rmN 2 49) (PR D (tyL cI cB cZ) (wC cI cB cZ ad cBad cFul cCnt cOpc cStp cTsz cRcn cPlc cFlt cVil cLsz cRts cLns cOpn cGps cTrl cWgt cRch cByt cWds cFst cSnd cSgn) [.ref (ad 9), .int p0, .int p1]) (SI rv) 0 0 (fun _ => False) := by
  refine mk_met cX0_ranked 4 (some .int) (by decide) rfl (Nat.le_of_ble_eq_true rfl) ?_
  intro p e s m args below meth c ls hx hb hr hlk hml hown hts hPK hl
  obtain ⟨hP, hK⟩ := hPK
  replace hl : lv_has ls 4 [(0, .ref (ad 9)), (1, .int p0), (2, .int p1)] := hl
  replace hown : s.vm.findClass RX0 = some m.cls := hown
  have hiX0 : ∀ w ∈ wsX00, w ∈ wsX0_ranked := fun w h => List.mem_cons_of_mem _ (List.mem_append_left _ (List.mem_append_right _ h))
  have hiX1 : ∀ w ∈ wsX10, w ∈ wsX0_ranked := fun w h => List.mem_cons_of_mem _ (List.mem_append_right _ h)
  unfold fX0_ranked at hf
  refine lv_iconst (v := (0 : Int32)) hx hb dX0_ranked_0 (by decide) ?_
  refine lv_istore_n (lv' := [(3, .int (0 : Int32)), (0, .ref (ad 9)), (1, .int p0), (2, .int p1)]) hx hb dX0_ranked_1 rfl hl (by decide) rfl (fun ls hl => ?_)
  have hL2 : ∀ (n : Nat) (v3_1 : Int32) (ls : Array Slot), lp (fX0_ranked_L2 cCnt cOpn cGps p0 p1) n v3_1 = some rv → lv_has ls 4 [(0, .ref (ad 9)), (1, .int p0), (2, .int p1), (3, .int v3_1)] → W p l e (rmN 2 49) s m args below meth c s.heap [] 0 0 (MQ below (SI rv) args s 0 0 (fun _ => False)) (F0 m 2 ls []) := by
    intro n
    induction n with
    | zero => intro v3_1 ls hf; exact (lp_0 hf).elim
    | succ n ih =>
      intro v3_1 ls hf hl
      replace hf := lp_s hf
      dsimp only [fX0_ranked_L2] at hf
      refine lv_iload_n hx hb dX0_ranked_2 rfl (lv_at hl 3 rfl) ?_
      refine lv_aload_n hx hb dX0_ranked_3 rfl (lv_at hl 0 rfl) ?_
      refine va_get (ci := 0) (v := .ref (ad 1)) (C := RX0) (T := TX0) (N := 2) hx hb hts hiX0 hown hK hP 9 rfl rfl 0 (by decide) (hts _ (List.mem_of_getElem? (i := 1) rfl)) (fun _ h9 => h9) rfl dX0_ranked_4 ?_
      refine va_get (ci := 1) (v := .int cCnt) (C := RX1) (T := TX1) (N := 6) hx hb hts hiX1 hown hK hP 1 rfl rfl 4 (by decide) (hts _ (List.mem_of_getElem? (i := 2) rfl)) (fun _ h9 => h9) rfl dX0_ranked_7 ?_
      refine lv_icmp_ge (tgt := 43) hx hb dX0_ranked_10 (by decide) (fun hc => ?_) (fun hc => ?_)
      · replace hf := (if_pos hc).symm.trans hf
        refine lv_iconst (v := (-1 : Int32)) hx hb dX0_ranked_43 (by decide) ?_
        exact re_i hx hb hr hlk dX0_ranked_44 hf
      · replace hf := (if_neg hc).symm.trans hf
        refine lv_aload_n hx hb dX0_ranked_13 rfl (lv_at hl 0 rfl) ?_
        refine va_get (ci := 0) (v := .ref (ad 1)) (C := RX0) (T := TX0) (N := 2) hx hb hts hiX0 hown hK hP 9 rfl rfl 0 (by decide) (hts _ (List.mem_of_getElem? (i := 1) rfl)) (fun _ h9 => h9) rfl dX0_ranked_14 ?_
        refine va_get (ci := 1) (v := .ref (ad 4)) (C := RX1) (T := TX1) (N := 6) hx hb hts hiX1 hown hK hP 1 rfl rfl 2 (by decide) (hts _ (List.mem_of_getElem? (i := 3) rfl)) (fun _ h9 => h9) rfl dX0_ranked_17 ?_
        refine lv_iload_n hx hb dX0_ranked_20 rfl (lv_at hl 3 rfl) ?_
        obtain ⟨hg, hf⟩ := og hf
        refine va_zald hx hb hK hP 4 2 rfl rfl (gI_in hg) dX0_ranked_21 ?_
        have hJ37 : ∀  (ls : Array Slot), fX0_ranked_J37 v3_1 (lp (fX0_ranked_L2 cCnt cOpn cGps p0 p1) n) = some rv → lv_has ls 4 [(0, .ref (ad 9)), (1, .int p0), (2, .int p1), (3, .int v3_1)] → W p l e (rmN 2 49) s m args below meth c s.heap [] 0 0 (MQ below (SI rv) args s 0 0 (fun _ => False)) (F0 m 37 ls []) := by
          intro  ls hf hl
          unfold fX0_ranked_J37 at hf
          refine lv_iinc (v := (v3_1 + (1 : Int32))) (lv' := [(3, .int (v3_1 + (1 : Int32))), (0, .ref (ad 9)), (1, .int p0), (2, .int p1)]) hx hb dX0_ranked_37 hl (k := 3) rfl rfl (by decide) rfl (fun ls hl => ?_)
          refine lv_goto (tgt := 2) hx hb dX0_ranked_40 (by decide) ?_
          exact ih _ _ hf (lv_sub hl [1, 2, 3, 0] rfl)
        refine lv_if_eq (tgt := 37) hx hb dX0_ranked_22 (by decide) (fun hc => ?_) (fun hc => ?_)
        · replace hf := (if_pos hc).symm.trans hf
          exact hJ37  _ hf (lv_sub hl [0, 1, 2, 3] rfl)
        · replace hf := (if_neg hc).symm.trans hf
          refine lv_aload_n hx hb dX0_ranked_25 rfl (lv_at hl 0 rfl) ?_
          refine lv_iload_n hx hb dX0_ranked_26 rfl (lv_at hl 1 rfl) ?_
          refine lv_iload_n hx hb dX0_ranked_27 rfl (lv_at hl 3 rfl) ?_
          obtain ⟨r_2, hq, hf⟩ := ob hf
          try dsimp only at hf
          refine rcV 9 0 (As := [.int p0, .int v3_1]) (rest := []) ⟨hx, hb, hml, hown, hts⟩ (ctX0_countBefore l D cI cB cZ ad cBad cFul cCnt cOpc cStp cTsz cRcn cPlc cFlt cVil cLsz cRts cLns cOpn cGps cTrl cWgt cRch cByt cWds cFst cSnd cSgn p0 v3_1 r_2 hq) (cwV 2 hts gX0_ranked_X0_countBefore rfl rfl rfl (by decide +kernel) ⟨Nat.le_of_ble_eq_true rfl, Nat.le_of_ble_eq_true rfl⟩) hK hP rfl rfl rfl hl.1 rfl (Nat.le_of_ble_eq_true rfl) dX0_ranked_28 ⟨Nat.zero_le _, Nat.zero_le _⟩ ?_
          refine lv_iload_n hx hb dX0_ranked_31 rfl (lv_at hl 2 rfl) ?_
          refine lv_icmp_ne (tgt := 37) hx hb dX0_ranked_32 (by decide) (fun hc => ?_) (fun hc => ?_)
          · replace hf := (if_neg hc).symm.trans hf
            exact hJ37  _ hf (lv_sub hl [0, 1, 2, 3] rfl)
          · replace hf := (if_pos hc).symm.trans hf
            refine lv_iload_n hx hb dX0_ranked_35 rfl (lv_at hl 3 rfl) ?_
            exact re_i hx hb hr hlk dX0_ranked_36 hf
  exact hL2 FU _ ls hf (lv_sub hl [1, 2, 3, 0] rfl)

def fX0_countWithin_J47 (v4_2 : Int32) (kk : (Int32 × Int32) → Option (Int32 × Int32)) (v3_3 : Int32) : Option (Int32 × Int32) :=
  (kk (v3_3, (v4_2 + (1 : Int32))))
def fX0_countWithin_L5 (cCnt : Int32) (cOpn : Nat → Int32) (cGps : Nat → Int32) (p0 : Int32) (p1 : Int32) (kk : (Int32 × Int32) → Option (Int32 × Int32)) (ww : Int32 × Int32) : Option (Int32 × Int32) :=
  match ww with
  | (v3_1, v4_2) => (if cCnt ≤ v4_2 then (some (v3_1, v4_2)) else (if gI v4_2 60 then (if (cOpn (v4_2).toNatClampNeg) = 0 then (fX0_countWithin_J47 v4_2 kk v3_1) else ((fX1_gap cGps p0 v4_2).bind fun r_4 => (if p1 < r_4 then (fX0_countWithin_J47 v4_2 kk v3_1) else (fX0_countWithin_J47 v4_2 kk (v3_1 + (1 : Int32)))))) else none))
def fX0_countWithin (cCnt : Int32) (cOpn : Nat → Int32) (cGps : Nat → Int32) (p0 : Int32) (p1 : Int32) : Option (Int32) :=
  ((lp (fX0_countWithin_L5 cCnt cOpn cGps p0 p1) FU ((0 : Int32), (0 : Int32))).bind fun (ov3_1, ov4_2) => (some ov3_1))
set_option maxRecDepth 100000 in
set_option maxHeartbeats 4000000 in
theorem ctX0_countWithin (l : Launch) (D : va_G) (cI cB cZ : ClassId) (ad : Nat → Nat) (cBad cFul cCnt cOpc cStp cTsz cRcn cPlc cFlt cVil cLsz : Int32) (cRts cLns cOpn cGps cTrl cWgt cRch cByt cWds cFst cSnd cSgn : Nat → Int32) (p0 : Int32) (p1 : Int32) (rv : Int32) (hf : fX0_countWithin cCnt cOpn cGps p0 p1 = some rv) : Met l yX0_countWithin wsX0_countWithin (rmN 1 23) (PR D (tyL cI cB cZ) (wC cI cB cZ ad cBad cFul cCnt cOpc cStp cTsz cRcn cPlc cFlt cVil cLsz cRts cLns cOpn cGps cTrl cWgt cRch cByt cWds cFst cSnd cSgn) [.ref (ad 9), .int p0, .int p1]) (SI rv) 0 0 (fun _ => False) := by
  refine mk_met cX0_countWithin 5 (some .int) (by decide) rfl (Nat.le_of_ble_eq_true rfl) ?_
  intro p e s m args below meth c ls hx hb hr hlk hml hown hts hPK hl
  obtain ⟨hP, hK⟩ := hPK
  replace hl : lv_has ls 5 [(0, .ref (ad 9)), (1, .int p0), (2, .int p1)] := hl
  replace hown : s.vm.findClass RX0 = some m.cls := hown
  have hiX0 : ∀ w ∈ wsX00, w ∈ wsX0_countWithin := fun w h => List.mem_cons_of_mem _ (List.mem_append_left _ (List.mem_append_right _ h))
  have hiX1 : ∀ w ∈ wsX10, w ∈ wsX0_countWithin := fun w h => List.mem_cons_of_mem _ (List.mem_append_right _ h)
  unfold fX0_countWithin at hf
  refine lv_iconst (v := (0 : Int32)) hx hb dX0_countWithin_0 (by decide) ?_
  refine lv_istore_n (lv' := [(3, .int (0 : Int32)), (0, .ref (ad 9)), (1, .int p0), (2, .int p1)]) hx hb dX0_countWithin_1 rfl hl (by decide) rfl (fun ls hl => ?_)
  refine lv_iconst (v := (0 : Int32)) hx hb dX0_countWithin_2 (by decide) ?_
  refine lv_istore (lv' := [(4, .int (0 : Int32)), (3, .int (0 : Int32)), (0, .ref (ad 9)), (1, .int p0), (2, .int p1)]) hx hb dX0_countWithin_3 hl (by decide) rfl (fun ls hl => ?_)
  have hL5 : ∀ (n : Nat) (v3_1 : Int32) (v4_2 : Int32) (ov3_1 : Int32) (ov4_2 : Int32) (ls : Array Slot), lp (fX0_countWithin_L5 cCnt cOpn cGps p0 p1) n (v3_1, v4_2) = some (ov3_1, ov4_2) → lv_has ls 5 [(0, .ref (ad 9)), (1, .int p0), (2, .int p1), (3, .int v3_1), (4, .int v4_2)] → (∀ (ls : Array Slot), lv_has ls 5 [(0, .ref (ad 9)), (1, .int p0), (2, .int p1), (3, .int ov3_1), (4, .int ov4_2)] → W p l e (rmN 1 23) s m args below meth c s.heap [] 0 0 (MQ below (SI rv) args s 0 0 (fun _ => False)) (F0 m 53 ls [])) → W p l e (rmN 1 23) s m args below meth c s.heap [] 0 0 (MQ below (SI rv) args s 0 0 (fun _ => False)) (F0 m 5 ls []) := by
    intro n
    induction n with
    | zero => intro v3_1 v4_2 ov3_1 ov4_2 ls hf; exact (lp_0 hf).elim
    | succ n ih =>
      intro v3_1 v4_2 ov3_1 ov4_2 ls hf hl hE
      replace hf := lp_s hf
      dsimp only [fX0_countWithin_L5] at hf
      refine lv_iload hx hb dX0_countWithin_5 (lv_at hl 4 rfl) ?_
      refine lv_aload_n hx hb dX0_countWithin_7 rfl (lv_at hl 0 rfl) ?_
      refine va_get (ci := 0) (v := .ref (ad 1)) (C := RX0) (T := TX0) (N := 2) hx hb hts hiX0 hown hK hP 9 rfl rfl 0 (by decide) (hts _ (List.mem_of_getElem? (i := 1) rfl)) (fun _ h9 => h9) rfl dX0_countWithin_8 ?_
      refine va_get (ci := 1) (v := .int cCnt) (C := RX1) (T := TX1) (N := 6) hx hb hts hiX1 hown hK hP 1 rfl rfl 4 (by decide) (hts _ (List.mem_of_getElem? (i := 2) rfl)) (fun _ h9 => h9) rfl dX0_countWithin_11 ?_
      refine lv_icmp_ge (tgt := 53) hx hb dX0_countWithin_14 (by decide) (fun hc => ?_) (fun hc => ?_)
      · replace hf := (if_pos hc).symm.trans hf
        cases hf
        exact hE _ (lv_sub hl [0, 1, 2, 3, 4] rfl)
      · replace hf := (if_neg hc).symm.trans hf
        refine lv_aload_n hx hb dX0_countWithin_17 rfl (lv_at hl 0 rfl) ?_
        refine va_get (ci := 0) (v := .ref (ad 1)) (C := RX0) (T := TX0) (N := 2) hx hb hts hiX0 hown hK hP 9 rfl rfl 0 (by decide) (hts _ (List.mem_of_getElem? (i := 1) rfl)) (fun _ h9 => h9) rfl dX0_countWithin_18 ?_
        refine va_get (ci := 1) (v := .ref (ad 4)) (C := RX1) (T := TX1) (N := 6) hx hb hts hiX1 hown hK hP 1 rfl rfl 2 (by decide) (hts _ (List.mem_of_getElem? (i := 3) rfl)) (fun _ h9 => h9) rfl dX0_countWithin_21 ?_
        refine lv_iload hx hb dX0_countWithin_24 (lv_at hl 4 rfl) ?_
        obtain ⟨hg, hf⟩ := og hf
        refine va_zald hx hb hK hP 4 2 rfl rfl (gI_in hg) dX0_countWithin_26 ?_
        have hJ47 : ∀ (v3_3 : Int32) (ls : Array Slot), fX0_countWithin_J47 v4_2 (lp (fX0_countWithin_L5 cCnt cOpn cGps p0 p1) n) v3_3 = some (ov3_1, ov4_2) → lv_has ls 5 [(0, .ref (ad 9)), (1, .int p0), (2, .int p1), (3, .int v3_3), (4, .int v4_2)] → W p l e (rmN 1 23) s m args below meth c s.heap [] 0 0 (MQ below (SI rv) args s 0 0 (fun _ => False)) (F0 m 47 ls []) := by
          intro v3_3 ls hf hl
          unfold fX0_countWithin_J47 at hf
          refine lv_iinc (v := (v4_2 + (1 : Int32))) (lv' := [(4, .int (v4_2 + (1 : Int32))), (0, .ref (ad 9)), (1, .int p0), (2, .int p1), (3, .int v3_3)]) hx hb dX0_countWithin_47 hl (k := 4) rfl rfl (by decide) rfl (fun ls hl => ?_)
          refine lv_goto (tgt := 5) hx hb dX0_countWithin_50 (by decide) ?_
          exact ih _ _ _ _ _ hf (lv_sub hl [1, 2, 3, 4, 0] rfl) hE
        refine lv_if_eq (tgt := 47) hx hb dX0_countWithin_27 (by decide) (fun hc => ?_) (fun hc => ?_)
        · replace hf := (if_pos hc).symm.trans hf
          exact hJ47 _ _ hf (lv_sub hl [0, 1, 2, 3, 4] rfl)
        · replace hf := (if_neg hc).symm.trans hf
          refine lv_aload_n hx hb dX0_countWithin_30 rfl (lv_at hl 0 rfl) ?_
          refine va_get (ci := 0) (v := .ref (ad 1)) (C := RX0) (T := TX0) (N := 2) hx hb hts hiX0 hown hK hP 9 rfl rfl 0 (by decide) (hts _ (List.mem_of_getElem? (i := 1) rfl)) (fun _ h9 => h9) rfl dX0_countWithin_31 ?_
          refine lv_iload_n hx hb dX0_countWithin_34 rfl (lv_at hl 1 rfl) ?_
          refine lv_iload hx hb dX0_countWithin_35 (lv_at hl 4 rfl) ?_
          obtain ⟨r_4, hq, hf⟩ := ob hf
          try dsimp only at hf
          refine rcV 1 1 (As := [.int p0, .int v4_2]) (rest := []) ⟨hx, hb, hml, hown, hts⟩ (ctX1_gap l D cI cB cZ ad cBad cFul cCnt cOpc cStp cTsz cRcn cPlc cFlt cVil cLsz cRts cLns cOpn cGps cTrl cWgt cRch cByt cWds cFst cSnd cSgn p0 v4_2 r_4 hq) (cwV 2 hts gX0_countWithin_X1_gap rfl rfl rfl (by decide +kernel) ⟨Nat.le_of_ble_eq_true rfl, Nat.le_of_ble_eq_true rfl⟩) hK hP rfl rfl rfl hl.1 rfl (Nat.le_of_ble_eq_true rfl) dX0_countWithin_37 ⟨Nat.zero_le _, Nat.zero_le _⟩ ?_
          refine lv_iload_n hx hb dX0_countWithin_40 rfl (lv_at hl 2 rfl) ?_
          refine lv_icmp_gt (tgt := 47) hx hb dX0_countWithin_41 (by decide) (fun hc => ?_) (fun hc => ?_)
          · replace hf := (if_pos hc).symm.trans hf
            exact hJ47 _ _ hf (lv_sub hl [0, 1, 2, 3, 4] rfl)
          · replace hf := (if_neg hc).symm.trans hf
            refine lv_iinc (v := (v3_1 + (1 : Int32))) (lv' := [(3, .int (v3_1 + (1 : Int32))), (0, .ref (ad 9)), (1, .int p0), (2, .int p1), (4, .int v4_2)]) hx hb dX0_countWithin_44 hl (k := 3) rfl rfl (by decide) rfl (fun ls hl => ?_)
            exact hJ47 _ _ hf (lv_sub hl [1, 2, 3, 0, 4] rfl)
  obtain ⟨⟨ov3_1, ov4_2⟩, hq, hf⟩ := ob hf
  try dsimp only at hf
  refine hL5 FU _ _ ov3_1 ov4_2 ls hq (lv_sub hl [2, 3, 4, 1, 0] rfl) (fun ls hl => ?_)
  refine lv_iload_n hx hb dX0_countWithin_53 rfl (lv_at hl 3 rfl) ?_
  exact re_i hx hb hr hlk dX0_countWithin_54 hf

def fX0_total_J39 (v3_2 : Int32) (kk : (Int32 × Int32) → Option (Int32 × Int32)) (v2_3 : Int32) : Option (Int32 × Int32) :=
  (kk (v2_3, (v3_2 + (1 : Int32))))
def fX0_total_L4 (cCnt : Int32) (cOpn : Nat → Int32) (cGps : Nat → Int32) (p0 : Int32) (kk : (Int32 × Int32) → Option (Int32 × Int32)) (ww : Int32 × Int32) : Option (Int32 × Int32) :=
  match ww with
  | (v2_1, v3_2) => (if cCnt ≤ v3_2 then (some (v2_1, v3_2)) else (if gI v3_2 60 then (if (cOpn (v3_2).toNatClampNeg) = 0 then (fX0_total_J39 v3_2 kk v2_1) else ((fX1_gap cGps p0 v3_2).bind fun r_4 => (fX0_total_J39 v3_2 kk (v2_1 + r_4)))) else none))
def fX0_total (cCnt : Int32) (cOpn : Nat → Int32) (cGps : Nat → Int32) (p0 : Int32) : Option (Int32) :=
  ((lp (fX0_total_L4 cCnt cOpn cGps p0) FU ((0 : Int32), (0 : Int32))).bind fun (ov2_1, ov3_2) => (some ov2_1))
set_option maxRecDepth 100000 in
set_option maxHeartbeats 4000000 in
theorem ctX0_total (l : Launch) (D : va_G) (cI cB cZ : ClassId) (ad : Nat → Nat) (cBad cFul cCnt cOpc cStp cTsz cRcn cPlc cFlt cVil cLsz : Int32) (cRts cLns cOpn cGps cTrl cWgt cRch cByt cWds cFst cSnd cSgn : Nat → Int32) (p0 : Int32) (rv : Int32) (hf : fX0_total cCnt cOpn cGps p0 = some rv) : Met l yX0_total wsX0_total (rmN 1 23) (PR D (tyL cI cB cZ) (wC cI cB cZ ad cBad cFul cCnt cOpc cStp cTsz cRcn cPlc cFlt cVil cLsz cRts cLns cOpn cGps cTrl cWgt cRch cByt cWds cFst cSnd cSgn) [.ref (ad 9), .int p0]) (SI rv) 0 0 (fun _ => False) := by
  refine mk_met cX0_total 4 (some .int) (by decide) rfl (Nat.le_of_ble_eq_true rfl) ?_
  intro p e s m args below meth c ls hx hb hr hlk hml hown hts hPK hl
  obtain ⟨hP, hK⟩ := hPK
  replace hl : lv_has ls 4 [(0, .ref (ad 9)), (1, .int p0)] := hl
  replace hown : s.vm.findClass RX0 = some m.cls := hown
  have hiX0 : ∀ w ∈ wsX00, w ∈ wsX0_total := fun w h => List.mem_cons_of_mem _ (List.mem_append_left _ (List.mem_append_right _ h))
  have hiX1 : ∀ w ∈ wsX10, w ∈ wsX0_total := fun w h => List.mem_cons_of_mem _ (List.mem_append_right _ h)
  unfold fX0_total at hf
  refine lv_iconst (v := (0 : Int32)) hx hb dX0_total_0 (by decide) ?_
  refine lv_istore_n (lv' := [(2, .int (0 : Int32)), (0, .ref (ad 9)), (1, .int p0)]) hx hb dX0_total_1 rfl hl (by decide) rfl (fun ls hl => ?_)
  refine lv_iconst (v := (0 : Int32)) hx hb dX0_total_2 (by decide) ?_
  refine lv_istore_n (lv' := [(3, .int (0 : Int32)), (2, .int (0 : Int32)), (0, .ref (ad 9)), (1, .int p0)]) hx hb dX0_total_3 rfl hl (by decide) rfl (fun ls hl => ?_)
  have hL4 : ∀ (n : Nat) (v2_1 : Int32) (v3_2 : Int32) (ov2_1 : Int32) (ov3_2 : Int32) (ls : Array Slot), lp (fX0_total_L4 cCnt cOpn cGps p0) n (v2_1, v3_2) = some (ov2_1, ov3_2) → lv_has ls 4 [(0, .ref (ad 9)), (1, .int p0), (2, .int v2_1), (3, .int v3_2)] → (∀ (ls : Array Slot), lv_has ls 4 [(0, .ref (ad 9)), (1, .int p0), (2, .int ov2_1), (3, .int ov3_2)] → W p l e (rmN 1 23) s m args below meth c s.heap [] 0 0 (MQ below (SI rv) args s 0 0 (fun _ => False)) (F0 m 45 ls [])) → W p l e (rmN 1 23) s m args below meth c s.heap [] 0 0 (MQ below (SI rv) args s 0 0 (fun _ => False)) (F0 m 4 ls []) := by
    intro n
    induction n with
    | zero => intro v2_1 v3_2 ov2_1 ov3_2 ls hf; exact (lp_0 hf).elim
    | succ n ih =>
      intro v2_1 v3_2 ov2_1 ov3_2 ls hf hl hE
      replace hf := lp_s hf
      dsimp only [fX0_total_L4] at hf
      refine lv_iload_n hx hb dX0_total_4 rfl (lv_at hl 3 rfl) ?_
      refine lv_aload_n hx hb dX0_total_5 rfl (lv_at hl 0 rfl) ?_
      refine va_get (ci := 0) (v := .ref (ad 1)) (C := RX0) (T := TX0) (N := 2) hx hb hts hiX0 hown hK hP 9 rfl rfl 0 (by decide) (hts _ (List.mem_of_getElem? (i := 1) rfl)) (fun _ h9 => h9) rfl dX0_total_6 ?_
      refine va_get (ci := 1) (v := .int cCnt) (C := RX1) (T := TX1) (N := 6) hx hb hts hiX1 hown hK hP 1 rfl rfl 4 (by decide) (hts _ (List.mem_of_getElem? (i := 2) rfl)) (fun _ h9 => h9) rfl dX0_total_9 ?_
      refine lv_icmp_ge (tgt := 45) hx hb dX0_total_12 (by decide) (fun hc => ?_) (fun hc => ?_)
      · replace hf := (if_pos hc).symm.trans hf
        cases hf
        exact hE _ (lv_sub hl [0, 1, 2, 3] rfl)
      · replace hf := (if_neg hc).symm.trans hf
        refine lv_aload_n hx hb dX0_total_15 rfl (lv_at hl 0 rfl) ?_
        refine va_get (ci := 0) (v := .ref (ad 1)) (C := RX0) (T := TX0) (N := 2) hx hb hts hiX0 hown hK hP 9 rfl rfl 0 (by decide) (hts _ (List.mem_of_getElem? (i := 1) rfl)) (fun _ h9 => h9) rfl dX0_total_16 ?_
        refine va_get (ci := 1) (v := .ref (ad 4)) (C := RX1) (T := TX1) (N := 6) hx hb hts hiX1 hown hK hP 1 rfl rfl 2 (by decide) (hts _ (List.mem_of_getElem? (i := 3) rfl)) (fun _ h9 => h9) rfl dX0_total_19 ?_
        refine lv_iload_n hx hb dX0_total_22 rfl (lv_at hl 3 rfl) ?_
        obtain ⟨hg, hf⟩ := og hf
        refine va_zald hx hb hK hP 4 2 rfl rfl (gI_in hg) dX0_total_23 ?_
        have hJ39 : ∀ (v2_3 : Int32) (ls : Array Slot), fX0_total_J39 v3_2 (lp (fX0_total_L4 cCnt cOpn cGps p0) n) v2_3 = some (ov2_1, ov3_2) → lv_has ls 4 [(0, .ref (ad 9)), (1, .int p0), (2, .int v2_3), (3, .int v3_2)] → W p l e (rmN 1 23) s m args below meth c s.heap [] 0 0 (MQ below (SI rv) args s 0 0 (fun _ => False)) (F0 m 39 ls []) := by
          intro v2_3 ls hf hl
          unfold fX0_total_J39 at hf
          refine lv_iinc (v := (v3_2 + (1 : Int32))) (lv' := [(3, .int (v3_2 + (1 : Int32))), (0, .ref (ad 9)), (1, .int p0), (2, .int v2_3)]) hx hb dX0_total_39 hl (k := 3) rfl rfl (by decide) rfl (fun ls hl => ?_)
          refine lv_goto (tgt := 4) hx hb dX0_total_42 (by decide) ?_
          exact ih _ _ _ _ _ hf (lv_sub hl [1, 2, 3, 0] rfl) hE
        refine lv_if_eq (tgt := 39) hx hb dX0_total_24 (by decide) (fun hc => ?_) (fun hc => ?_)
        · replace hf := (if_pos hc).symm.trans hf
          exact hJ39 _ _ hf (lv_sub hl [0, 1, 2, 3] rfl)
        · replace hf := (if_neg hc).symm.trans hf
          refine lv_iload_n hx hb dX0_total_27 rfl (lv_at hl 2 rfl) ?_
          refine lv_aload_n hx hb dX0_total_28 rfl (lv_at hl 0 rfl) ?_
          refine va_get (ci := 0) (v := .ref (ad 1)) (C := RX0) (T := TX0) (N := 2) hx hb hts hiX0 hown hK hP 9 rfl rfl 0 (by decide) (hts _ (List.mem_of_getElem? (i := 1) rfl)) (fun _ h9 => h9) rfl dX0_total_29 ?_
          refine lv_iload_n hx hb dX0_total_32 rfl (lv_at hl 1 rfl) ?_
          refine lv_iload_n hx hb dX0_total_33 rfl (lv_at hl 3 rfl) ?_
          obtain ⟨r_4, hq, hf⟩ := ob hf
          try dsimp only at hf
          refine rcV 1 1 (As := [.int p0, .int v3_2]) (rest := [.int v2_1]) ⟨hx, hb, hml, hown, hts⟩ (ctX1_gap l D cI cB cZ ad cBad cFul cCnt cOpc cStp cTsz cRcn cPlc cFlt cVil cLsz cRts cLns cOpn cGps cTrl cWgt cRch cByt cWds cFst cSnd cSgn p0 v3_2 r_4 hq) (cwV 2 hts gX0_total_X1_gap rfl rfl rfl (by decide +kernel) ⟨Nat.le_of_ble_eq_true rfl, Nat.le_of_ble_eq_true rfl⟩) hK hP rfl rfl rfl hl.1 rfl (Nat.le_of_ble_eq_true rfl) dX0_total_34 ⟨Nat.zero_le _, Nat.zero_le _⟩ ?_
          refine lv_iadd hx hb dX0_total_37 ?_
          refine lv_istore_n (lv' := [(2, .int (v2_1 + r_4)), (0, .ref (ad 9)), (1, .int p0), (3, .int v3_2)]) hx hb dX0_total_38 rfl hl (by decide) rfl (fun ls hl => ?_)
          exact hJ39 _ _ hf (lv_sub hl [1, 2, 0, 3] rfl)
  obtain ⟨⟨ov2_1, ov3_2⟩, hq, hf⟩ := ob hf
  try dsimp only at hf
  refine hL4 FU _ _ ov2_1 ov3_2 ls hq (lv_sub hl [2, 3, 1, 0] rfl) (fun ls hl => ?_)
  refine lv_iload_n hx hb dX0_total_45 rfl (lv_at hl 2 rfl) ?_
  exact re_i hx hb hr hlk dX0_total_46 hf

def fX0_findReaches_J43 (v1_1 : Int32) (wcRch_2 : Nat → Int32) (kk : (Int32 × (Nat → Int32)) → Option (Int32 × (Nat → Int32))) (t_4 : Int32) : Option (Int32 × (Nat → Int32)) :=
  (if gI v1_1 60 then (kk ((v1_1 + (1 : Int32)), (upd wcRch_2 (v1_1).toNatClampNeg t_4))) else none)
def fX0_findReaches_L2 (cCnt : Int32) (cOpn : Nat → Int32) (cGps : Nat → Int32) (kk : (Int32 × (Nat → Int32)) → Option (Int32 × (Nat → Int32))) (ww : Int32 × (Nat → Int32)) : Option (Int32 × (Nat → Int32)) :=
  match ww with
  | (v1_1, wcRch_2) => (if cCnt ≤ v1_1 then (some (v1_1, wcRch_2)) else ((fX0_closest cCnt cOpn cGps v1_1).bind fun r_3 => (if r_3 = (-1 : Int32) then (fX0_findReaches_J43 v1_1 wcRch_2 kk (1000000 : Int32)) else ((fX1_gap cGps v1_1 r_3).bind fun r_5 => (fX0_findReaches_J43 v1_1 wcRch_2 kk r_5)))))
def fX0_findReaches (cCnt : Int32) (cOpn : Nat → Int32) (cGps : Nat → Int32) (cRch : Nat → Int32)  : Option ((Nat → Int32)) :=
  ((lp (fX0_findReaches_L2 cCnt cOpn cGps) FU ((0 : Int32), cRch)).bind fun (ov1_1, owcRch_2) => (some owcRch_2))
set_option maxRecDepth 100000 in
set_option maxHeartbeats 4000000 in
theorem ctX0_findReaches (l : Launch) (D : va_G) (cI cB cZ : ClassId) (ad : Nat → Nat) (A : Nat → Prop) (hAD : AD A ad 20) (cBad cFul cCnt cOpc cStp cTsz cRcn cPlc cFlt cVil cLsz : Int32) (cRts cLns cOpn cGps cTrl cWgt cRch cByt cWds cFst cSnd cSgn : Nat → Int32)  (zcRch : Nat → Int32) (hf : fX0_findReaches cCnt cOpn cGps cRch = some zcRch) : Met l yX0_findReaches wsX0_findReaches (rmN 2 47) (PR D (tyL cI cB cZ) (wC cI cB cZ ad cBad cFul cCnt cOpc cStp cTsz cRcn cPlc cFlt cVil cLsz cRts cLns cOpn cGps cTrl cWgt cRch cByt cWds cFst cSnd cSgn) [.ref (ad 9)]) (QV D (wC cI cB cZ ad cBad cFul cCnt cOpc cStp cTsz cRcn cPlc cFlt cVil cLsz cRts cLns cOpn cGps cTrl cWgt zcRch cByt cWds cFst cSnd cSgn) A) 0 0 A := by
  refine mk_met cX0_findReaches 3 none (by decide) rfl (Nat.le_of_ble_eq_true rfl) ?_
  intro p e s m args below meth c ls hx hb hr hlk hml hown hts hPK hl
  obtain ⟨hP, hK⟩ := hPK
  replace hl : lv_has ls 3 [(0, .ref (ad 9))] := hl
  replace hown : s.vm.findClass RX0 = some m.cls := hown
  have hiX0 : ∀ w ∈ wsX00, w ∈ wsX0_findReaches := fun w h => List.mem_cons_of_mem _ (List.mem_append_left _ (List.mem_append_right _ h))
  have hiX1 : ∀ w ∈ wsX10, w ∈ wsX0_findReaches := fun w h => List.mem_cons_of_mem _ (List.mem_append_right _ h)
  have hS : va_S A s.heap s.heap [] := va_S.rf
  unfold fX0_findReaches at hf
  refine lv_iconst (v := (0 : Int32)) hx hb dX0_findReaches_0 (by decide) ?_
  refine lv_istore_n (lv' := [(1, .int (0 : Int32)), (0, .ref (ad 9))]) hx hb dX0_findReaches_1 rfl hl (by decide) rfl (fun ls hl => ?_)
  have hL2 : ∀ (n : Nat) (v1_1 : Int32) (wcRch_2 : Nat → Int32) (ov1_1 : Int32) (owcRch_2 : Nat → Int32) (H : Heap) (locs : List Loc) (ls : Array Slot), lp (fX0_findReaches_L2 cCnt cOpn cGps) n (v1_1, wcRch_2) = some (ov1_1, owcRch_2) → va_P D vwCl (wC cI cB cZ ad cBad cFul cCnt cOpc cStp cTsz cRcn cPlc cFlt cVil cLsz cRts cLns cOpn cGps cTrl cWgt wcRch_2 cByt cWds cFst cSnd cSgn) H → va_S A s.heap H locs → lv_has ls 3 [(0, .ref (ad 9)), (1, .int v1_1)] → (∀ (H : Heap) (locs : List Loc) (ls : Array Slot), va_P D vwCl (wC cI cB cZ ad cBad cFul cCnt cOpc cStp cTsz cRcn cPlc cFlt cVil cLsz cRts cLns cOpn cGps cTrl cWgt owcRch_2 cByt cWds cFst cSnd cSgn) H → va_S A s.heap H locs → lv_has ls 3 [(0, .ref (ad 9)), (1, .int ov1_1)] → W p l e (rmN 2 47) s m args below meth c H locs 0 0 (MQ below (QV D (wC cI cB cZ ad cBad cFul cCnt cOpc cStp cTsz cRcn cPlc cFlt cVil cLsz cRts cLns cOpn cGps cTrl cWgt zcRch cByt cWds cFst cSnd cSgn) A) args s 0 0 A) (F0 m 50 ls [])) → W p l e (rmN 2 47) s m args below meth c H locs 0 0 (MQ below (QV D (wC cI cB cZ ad cBad cFul cCnt cOpc cStp cTsz cRcn cPlc cFlt cVil cLsz cRts cLns cOpn cGps cTrl cWgt zcRch cByt cWds cFst cSnd cSgn) A) args s 0 0 A) (F0 m 2 ls []) := by
    intro n
    induction n with
    | zero => intro v1_1 wcRch_2 ov1_1 owcRch_2 H locs ls hf; exact (lp_0 hf).elim
    | succ n ih =>
      intro v1_1 wcRch_2 ov1_1 owcRch_2 H locs ls hf hP hS hl hE
      replace hf := lp_s hf
      dsimp only [fX0_findReaches_L2] at hf
      refine lv_iload_n hx hb dX0_findReaches_2 rfl (lv_at hl 1 rfl) ?_
      refine lv_aload_n hx hb dX0_findReaches_3 rfl (lv_at hl 0 rfl) ?_
      refine va_get (ci := 0) (v := .ref (ad 1)) (C := RX0) (T := TX0) (N := 2) hx hb hts hiX0 hown hK hP 9 rfl rfl 0 (by decide) (hts _ (List.mem_of_getElem? (i := 1) rfl)) (fun _ h9 => h9) rfl dX0_findReaches_4 ?_
      refine va_get (ci := 1) (v := .int cCnt) (C := RX1) (T := TX1) (N := 6) hx hb hts hiX1 hown hK hP 1 rfl rfl 4 (by decide) (hts _ (List.mem_of_getElem? (i := 2) rfl)) (fun _ h9 => h9) rfl dX0_findReaches_7 ?_
      refine lv_icmp_ge (tgt := 50) hx hb dX0_findReaches_10 (by decide) (fun hc => ?_) (fun hc => ?_)
      · replace hf := (if_pos hc).symm.trans hf
        cases hf
        exact hE _ _ _ hP hS (lv_sub hl [0, 1] rfl)
      · replace hf := (if_neg hc).symm.trans hf
        refine lv_aload_n hx hb dX0_findReaches_13 rfl (lv_at hl 0 rfl) ?_
        refine lv_iload_n hx hb dX0_findReaches_14 rfl (lv_at hl 1 rfl) ?_
        obtain ⟨r_3, hq, hf⟩ := ob hf
        try dsimp only at hf
        refine rcV 9 0 (As := [.int v1_1]) (rest := []) ⟨hx, hb, hml, hown, hts⟩ (ctX0_closest l D cI cB cZ ad cBad cFul cCnt cOpc cStp cTsz cRcn cPlc cFlt cVil cLsz cRts cLns cOpn cGps cTrl cWgt wcRch_2 cByt cWds cFst cSnd cSgn v1_1 r_3 hq) (cwV 1 hts gX0_findReaches_X0_closest rfl rfl rfl (by decide +kernel) ⟨Nat.le_of_ble_eq_true rfl, Nat.le_of_ble_eq_true rfl⟩) hK hP rfl rfl rfl hl.1 rfl (Nat.le_of_ble_eq_true rfl) dX0_findReaches_15 ⟨Nat.zero_le _, Nat.zero_le _⟩ ?_
        refine lv_istore_n (lv' := [(2, .int r_3), (0, .ref (ad 9)), (1, .int v1_1)]) hx hb dX0_findReaches_18 rfl hl (by decide) rfl (fun ls hl => ?_)
        refine lv_aload_n hx hb dX0_findReaches_19 rfl (lv_at hl 1 rfl) ?_
        refine va_get (ci := 0) (v := .ref (ad 10)) (C := RX0) (T := TX0) (N := 2) hx hb hts hiX0 hown hK hP 9 rfl rfl 1 (by decide) (hts _ (List.mem_of_getElem? (i := 3) rfl)) (fun _ h9 => h9) rfl dX0_findReaches_20 ?_
        refine lv_iload_n hx hb dX0_findReaches_23 rfl (lv_at hl 2 rfl) ?_
        refine lv_iload_n hx hb dX0_findReaches_24 rfl (lv_at hl 0 rfl) ?_
        refine lv_iconst (v := (-1 : Int32)) hx hb dX0_findReaches_25 (by decide) ?_
        have hJ43 : ∀ (t_4 : Int32) (H : Heap) (locs : List Loc) (ls : Array Slot), fX0_findReaches_J43 v1_1 wcRch_2 (lp (fX0_findReaches_L2 cCnt cOpn cGps) n) t_4 = some (ov1_1, owcRch_2) → va_P D vwCl (wC cI cB cZ ad cBad cFul cCnt cOpc cStp cTsz cRcn cPlc cFlt cVil cLsz cRts cLns cOpn cGps cTrl cWgt wcRch_2 cByt cWds cFst cSnd cSgn) H → va_S A s.heap H locs → lv_has ls 3 [(0, .ref (ad 9)), (1, .int v1_1), (2, .int r_3)] → W p l e (rmN 2 47) s m args below meth c H locs 0 0 (MQ below (QV D (wC cI cB cZ ad cBad cFul cCnt cOpc cStp cTsz cRcn cPlc cFlt cVil cLsz cRts cLns cOpn cGps cTrl cWgt zcRch cByt cWds cFst cSnd cSgn) A) args s 0 0 A) (F0 m 43 ls [.int t_4, .int v1_1, .ref (ad 10)]) := by
          intro t_4 H locs ls hf hP hS hl
          unfold fX0_findReaches_J43 at hf
          obtain ⟨hg, hf⟩ := og hf
          refine va_iast hx hb hK hP (wC_D hAD) hS 10 0 rfl rfl (gI_in hg) dX0_findReaches_43 (fun H locs hP _ hS => ?_)
          have hP : va_P D vwCl (wC cI cB cZ ad cBad cFul cCnt cOpc cStp cTsz cRcn cPlc cFlt cVil cLsz cRts cLns cOpn cGps cTrl cWgt (upd wcRch_2 (v1_1).toNatClampNeg t_4) cByt cWds cFst cSnd cSgn) H := hP
          refine lv_iinc (v := (v1_1 + (1 : Int32))) (lv' := [(1, .int (v1_1 + (1 : Int32))), (0, .ref (ad 9)), (2, .int r_3)]) hx hb dX0_findReaches_44 hl (k := 1) rfl rfl (by decide) rfl (fun ls hl => ?_)
          refine lv_goto (tgt := 2) hx hb dX0_findReaches_47 (by decide) ?_
          exact ih _ _ _ _ _ _ _ hf hP hS (lv_sub hl [1, 0] rfl) hE
        refine lv_icmp_ne (tgt := 34) hx hb dX0_findReaches_26 (by decide) (fun hc => ?_) (fun hc => ?_)
        · replace hf := (if_neg hc).symm.trans hf
          refine lv_aload_n hx hb dX0_findReaches_34 rfl (lv_at hl 1 rfl) ?_
          refine va_get (ci := 0) (v := .ref (ad 1)) (C := RX0) (T := TX0) (N := 2) hx hb hts hiX0 hown hK hP 9 rfl rfl 0 (by decide) (hts _ (List.mem_of_getElem? (i := 1) rfl)) (fun _ h9 => h9) rfl dX0_findReaches_35 ?_
          refine lv_iload_n hx hb dX0_findReaches_38 rfl (lv_at hl 2 rfl) ?_
          refine lv_iload_n hx hb dX0_findReaches_39 rfl (lv_at hl 0 rfl) ?_
          obtain ⟨r_5, hq, hf⟩ := ob hf
          try dsimp only at hf
          refine rcV 1 1 (As := [.int v1_1, .int r_3]) (rest := [.int v1_1, .ref (ad 10)]) ⟨hx, hb, hml, hown, hts⟩ (ctX1_gap l D cI cB cZ ad cBad cFul cCnt cOpc cStp cTsz cRcn cPlc cFlt cVil cLsz cRts cLns cOpn cGps cTrl cWgt wcRch_2 cByt cWds cFst cSnd cSgn v1_1 r_3 r_5 hq) (cwV 2 hts gX0_findReaches_X1_gap rfl rfl rfl (by decide +kernel) ⟨Nat.le_of_ble_eq_true rfl, Nat.le_of_ble_eq_true rfl⟩) hK hP rfl rfl rfl hl.1 rfl (Nat.le_of_ble_eq_true rfl) dX0_findReaches_40 ⟨Nat.zero_le _, Nat.zero_le _⟩ ?_
          exact hJ43 _ _ _ _ hf hP hS (lv_sub hl [1, 2, 0] rfl)
        · replace hf := (if_pos hc).symm.trans hf
          refine lv_ldc (v := (1000000 : Int32)) hx hb hown (hts _ (List.mem_of_getElem? (i := 4) rfl)) dX0_findReaches_29 ?_
          refine lv_goto (tgt := 43) hx hb dX0_findReaches_31 (by decide) ?_
          exact hJ43 _ _ _ _ hf hP hS (lv_sub hl [1, 2, 0] rfl)
  obtain ⟨⟨ov1_1, owcRch_2⟩, hq, hf⟩ := ob hf
  try dsimp only at hf
  refine hL2 FU _ _ ov1_1 owcRch_2 _ _ ls hq hP hS (lv_sub hl [1, 0] rfl) (fun H locs ls hP hS hl => ?_)
  have e0 := Option.some.inj hf
  subst e0
  exact rm_v hx hb hr hlk hP hS dX0_findReaches_50

def fX0_remotest_J62 (v4_4 : Int32) (kk : (Int32 × Int32 × Int32) → Option (Int32 × Int32 × Int32)) (v2_5 : Int32) (v3_6 : Int32) : Option (Int32 × Int32 × Int32) :=
  (kk (v2_5, v3_6, (v4_4 + (1 : Int32))))
def fX0_remotest_L28 (cCnt : Int32) (qcRch_1 : Nat → Int32) (kk : (Int32 × Int32 × Int32) → Option (Int32 × Int32 × Int32)) (ww : Int32 × Int32 × Int32) : Option (Int32 × Int32 × Int32) :=
  match ww with
  | (v2_2, v3_3, v4_4) => (if cCnt ≤ v4_4 then (some (v2_2, v3_3, v4_4)) else (if gI v4_4 60 then (if (qcRch_1 (v4_4).toNatClampNeg) ≤ v2_2 then (fX0_remotest_J62 v4_4 kk v2_2 v3_3) else (if gI v4_4 60 then (fX0_remotest_J62 v4_4 kk (qcRch_1 (v4_4).toNatClampNeg) v4_4) else none)) else none))
def fX0_remotest (cCnt : Int32) (cOpc : Int32) (cOpn : Nat → Int32) (cGps : Nat → Int32) (cRch : Nat → Int32) (p0 : Int32) : Option (Int32 × (Nat → Int32)) :=
  (if cOpc = 0 then (some ((-1 : Int32), cRch)) else ((fX0_findReaches cCnt cOpn cGps cRch).bind fun qcRch_1 => (if gI (0 : Int32) 60 then ((lp (fX0_remotest_L28 cCnt qcRch_1) FU ((qcRch_1 (0 : Int32).toNatClampNeg), (0 : Int32), (1 : Int32))).bind fun (ov2_2, ov3_3, ov4_4) => (if p0 = 0 then (some (ov2_2, qcRch_1)) else (some (ov3_3, qcRch_1)))) else none)))
set_option maxRecDepth 100000 in
set_option maxHeartbeats 4000000 in
theorem ctX0_remotest (l : Launch) (D : va_G) (cI cB cZ : ClassId) (ad : Nat → Nat) (A : Nat → Prop) (hAD : AD A ad 20) (cBad cFul cCnt cOpc cStp cTsz cRcn cPlc cFlt cVil cLsz : Int32) (cRts cLns cOpn cGps cTrl cWgt cRch cByt cWds cFst cSnd cSgn : Nat → Int32) (p0 : Int32) (rv : Int32) (zcRch : Nat → Int32) (hf : fX0_remotest cCnt cOpc cOpn cGps cRch p0 = some (rv, zcRch)) : Met l yX0_remotest wsX0_remotest (rmN 3 69) (PR D (tyL cI cB cZ) (wC cI cB cZ ad cBad cFul cCnt cOpc cStp cTsz cRcn cPlc cFlt cVil cLsz cRts cLns cOpn cGps cTrl cWgt cRch cByt cWds cFst cSnd cSgn) [.ref (ad 9), .int p0]) (QI D (wC cI cB cZ ad cBad cFul cCnt cOpc cStp cTsz cRcn cPlc cFlt cVil cLsz cRts cLns cOpn cGps cTrl cWgt zcRch cByt cWds cFst cSnd cSgn) A rv) 0 0 A := by
  refine mk_met cX0_remotest 5 (some .int) (by decide) rfl (Nat.le_of_ble_eq_true rfl) ?_
  intro p e s m args below meth c ls hx hb hr hlk hml hown hts hPK hl
  obtain ⟨hP, hK⟩ := hPK
  replace hl : lv_has ls 5 [(0, .ref (ad 9)), (1, .int p0)] := hl
  replace hown : s.vm.findClass RX0 = some m.cls := hown
  have hiX0 : ∀ w ∈ wsX00, w ∈ wsX0_remotest := fun w h => List.mem_cons_of_mem _ (List.mem_append_left _ (List.mem_append_right _ h))
  have hiX1 : ∀ w ∈ wsX10, w ∈ wsX0_remotest := fun w h => List.mem_cons_of_mem _ (List.mem_append_right _ h)
  have hS : va_S A s.heap s.heap [] := va_S.rf
  unfold fX0_remotest at hf
  refine lv_aload_n hx hb dX0_remotest_0 rfl (lv_at hl 0 rfl) ?_
  refine va_get (ci := 0) (v := .ref (ad 1)) (C := RX0) (T := TX0) (N := 2) hx hb hts hiX0 hown hK hP 9 rfl rfl 0 (by decide) (hts _ (List.mem_of_getElem? (i := 1) rfl)) (fun _ h9 => h9) rfl dX0_remotest_1 ?_
  refine va_get (ci := 1) (v := .int cOpc) (C := RX1) (T := TX1) (N := 6) hx hb hts hiX1 hown hK hP 1 rfl rfl 5 (by decide) (hts _ (List.mem_of_getElem? (i := 2) rfl)) (fun _ h9 => h9) rfl dX0_remotest_4 ?_
  refine lv_if_ne (tgt := 12) hx hb dX0_remotest_7 (by decide) (fun hc => ?_) (fun hc => ?_)
  · replace hf := (if_neg hc).symm.trans hf
    refine lv_aload_n hx hb dX0_remotest_12 rfl (lv_at hl 0 rfl) ?_
    obtain ⟨qcRch_1, hq, hf⟩ := ob hf
    try dsimp only at hf
    refine mcVv 9 0 (As := []) (rest := []) ⟨hx, hb, hml, hown, hts⟩ (ctX0_findReaches l D cI cB cZ ad A hAD cBad cFul cCnt cOpc cStp cTsz cRcn cPlc cFlt cVil cLsz cRts cLns cOpn cGps cTrl cWgt cRch cByt cWds cFst cSnd cSgn  qcRch_1 hq) (cwV 0 hts gX0_remotest_X0_findReaches rfl rfl rfl (by decide +kernel) ⟨Nat.le_of_ble_eq_true rfl, Nat.le_of_ble_eq_true rfl⟩) hK hP hS rfl rfl rfl hl.1 rfl (Nat.le_of_ble_eq_true rfl) dX0_remotest_13 ⟨Nat.zero_le _, Nat.zero_le _⟩ (fun H locs hP hS => ?_)
    refine lv_aload_n hx hb dX0_remotest_16 rfl (lv_at hl 0 rfl) ?_
    refine va_get (ci := 0) (v := .ref (ad 10)) (C := RX0) (T := TX0) (N := 2) hx hb hts hiX0 hown hK hP 9 rfl rfl 1 (by decide) (hts _ (List.mem_of_getElem? (i := 3) rfl)) (fun _ h9 => h9) rfl dX0_remotest_17 ?_
    refine lv_iconst (v := (0 : Int32)) hx hb dX0_remotest_20 (by decide) ?_
    obtain ⟨hg, hf⟩ := og hf
    refine va_iald hx hb hK hP 10 0 rfl rfl (gI_in hg) dX0_remotest_21 ?_
    refine lv_istore_n (lv' := [(2, .int (qcRch_1 (0 : Int32).toNatClampNeg)), (0, .ref (ad 9)), (1, .int p0)]) hx hb dX0_remotest_22 rfl hl (by decide) rfl (fun ls hl => ?_)
    refine lv_iconst (v := (0 : Int32)) hx hb dX0_remotest_23 (by decide) ?_
    refine lv_istore_n (lv' := [(3, .int (0 : Int32)), (2, .int (qcRch_1 (0 : Int32).toNatClampNeg)), (0, .ref (ad 9)), (1, .int p0)]) hx hb dX0_remotest_24 rfl hl (by decide) rfl (fun ls hl => ?_)
    refine lv_iconst (v := (1 : Int32)) hx hb dX0_remotest_25 (by decide) ?_
    refine lv_istore (lv' := [(4, .int (1 : Int32)), (3, .int (0 : Int32)), (2, .int (qcRch_1 (0 : Int32).toNatClampNeg)), (0, .ref (ad 9)), (1, .int p0)]) hx hb dX0_remotest_26 hl (by decide) rfl (fun ls hl => ?_)
    have hL28 : ∀ (n : Nat) (v2_2 : Int32) (v3_3 : Int32) (v4_4 : Int32) (ov2_2 : Int32) (ov3_3 : Int32) (ov4_4 : Int32) (H : Heap) (locs : List Loc) (ls : Array Slot), lp (fX0_remotest_L28 cCnt qcRch_1) n (v2_2, v3_3, v4_4) = some (ov2_2, ov3_3, ov4_4) → va_P D vwCl (wC cI cB cZ ad cBad cFul cCnt cOpc cStp cTsz cRcn cPlc cFlt cVil cLsz cRts cLns cOpn cGps cTrl cWgt qcRch_1 cByt cWds cFst cSnd cSgn) H → va_S A s.heap H locs → lv_has ls 5 [(0, .ref (ad 9)), (1, .int p0), (2, .int v2_2), (3, .int v3_3), (4, .int v4_4)] → (∀ (H : Heap) (locs : List Loc) (ls : Array Slot), va_P D vwCl (wC cI cB cZ ad cBad cFul cCnt cOpc cStp cTsz cRcn cPlc cFlt cVil cLsz cRts cLns cOpn cGps cTrl cWgt qcRch_1 cByt cWds cFst cSnd cSgn) H → va_S A s.heap H locs → lv_has ls 5 [(0, .ref (ad 9)), (1, .int p0), (2, .int ov2_2), (3, .int ov3_3), (4, .int ov4_4)] → W p l e (rmN 3 69) s m args below meth c H locs 0 0 (MQ below (QI D (wC cI cB cZ ad cBad cFul cCnt cOpc cStp cTsz cRcn cPlc cFlt cVil cLsz cRts cLns cOpn cGps cTrl cWgt zcRch cByt cWds cFst cSnd cSgn) A rv) args s 0 0 A) (F0 m 68 ls [])) → W p l e (rmN 3 69) s m args below meth c H locs 0 0 (MQ below (QI D (wC cI cB cZ ad cBad cFul cCnt cOpc cStp cTsz cRcn cPlc cFlt cVil cLsz cRts cLns cOpn cGps cTrl cWgt zcRch cByt cWds cFst cSnd cSgn) A rv) args s 0 0 A) (F0 m 28 ls []) := by
      intro n
      induction n with
      | zero => intro v2_2 v3_3 v4_4 ov2_2 ov3_3 ov4_4 H locs ls hf; exact (lp_0 hf).elim
      | succ n ih =>
        intro v2_2 v3_3 v4_4 ov2_2 ov3_3 ov4_4 H locs ls hf hP hS hl hE
        replace hf := lp_s hf
        dsimp only [fX0_remotest_L28] at hf
        refine lv_iload hx hb dX0_remotest_28 (lv_at hl 4 rfl) ?_
        refine lv_aload_n hx hb dX0_remotest_30 rfl (lv_at hl 0 rfl) ?_
        refine va_get (ci := 0) (v := .ref (ad 1)) (C := RX0) (T := TX0) (N := 2) hx hb hts hiX0 hown hK hP 9 rfl rfl 0 (by decide) (hts _ (List.mem_of_getElem? (i := 1) rfl)) (fun _ h9 => h9) rfl dX0_remotest_31 ?_
        refine va_get (ci := 1) (v := .int cCnt) (C := RX1) (T := TX1) (N := 6) hx hb hts hiX1 hown hK hP 1 rfl rfl 4 (by decide) (hts _ (List.mem_of_getElem? (i := 4) rfl)) (fun _ h9 => h9) rfl dX0_remotest_34 ?_
        refine lv_icmp_ge (tgt := 68) hx hb dX0_remotest_37 (by decide) (fun hc => ?_) (fun hc => ?_)
        · replace hf := (if_pos hc).symm.trans hf
          cases hf
          exact hE _ _ _ hP hS (lv_sub hl [0, 1, 2, 3, 4] rfl)
        · replace hf := (if_neg hc).symm.trans hf
          refine lv_aload_n hx hb dX0_remotest_40 rfl (lv_at hl 0 rfl) ?_
          refine va_get (ci := 0) (v := .ref (ad 10)) (C := RX0) (T := TX0) (N := 2) hx hb hts hiX0 hown hK hP 9 rfl rfl 1 (by decide) (hts _ (List.mem_of_getElem? (i := 3) rfl)) (fun _ h9 => h9) rfl dX0_remotest_41 ?_
          refine lv_iload hx hb dX0_remotest_44 (lv_at hl 4 rfl) ?_
          obtain ⟨hg, hf⟩ := og hf
          refine va_iald hx hb hK hP 10 0 rfl rfl (gI_in hg) dX0_remotest_46 ?_
          refine lv_iload_n hx hb dX0_remotest_47 rfl (lv_at hl 2 rfl) ?_
          have hJ62 : ∀ (v2_5 : Int32) (v3_6 : Int32) (H : Heap) (locs : List Loc) (ls : Array Slot), fX0_remotest_J62 v4_4 (lp (fX0_remotest_L28 cCnt qcRch_1) n) v2_5 v3_6 = some (ov2_2, ov3_3, ov4_4) → va_P D vwCl (wC cI cB cZ ad cBad cFul cCnt cOpc cStp cTsz cRcn cPlc cFlt cVil cLsz cRts cLns cOpn cGps cTrl cWgt qcRch_1 cByt cWds cFst cSnd cSgn) H → va_S A s.heap H locs → lv_has ls 5 [(0, .ref (ad 9)), (1, .int p0), (2, .int v2_5), (3, .int v3_6), (4, .int v4_4)] → W p l e (rmN 3 69) s m args below meth c H locs 0 0 (MQ below (QI D (wC cI cB cZ ad cBad cFul cCnt cOpc cStp cTsz cRcn cPlc cFlt cVil cLsz cRts cLns cOpn cGps cTrl cWgt zcRch cByt cWds cFst cSnd cSgn) A rv) args s 0 0 A) (F0 m 62 ls []) := by
            intro v2_5 v3_6 H locs ls hf hP hS hl
            unfold fX0_remotest_J62 at hf
            refine lv_iinc (v := (v4_4 + (1 : Int32))) (lv' := [(4, .int (v4_4 + (1 : Int32))), (0, .ref (ad 9)), (1, .int p0), (2, .int v2_5), (3, .int v3_6)]) hx hb dX0_remotest_62 hl (k := 4) rfl rfl (by decide) rfl (fun ls hl => ?_)
            refine lv_goto (tgt := 28) hx hb dX0_remotest_65 (by decide) ?_
            exact ih _ _ _ _ _ _ _ _ _ hf hP hS (lv_sub hl [1, 2, 3, 4, 0] rfl) hE
          refine lv_icmp_le (tgt := 62) hx hb dX0_remotest_48 (by decide) (fun hc => ?_) (fun hc => ?_)
          · replace hf := (if_pos hc).symm.trans hf
            exact hJ62 _ _ _ _ _ hf hP hS (lv_sub hl [0, 1, 2, 3, 4] rfl)
          · replace hf := (if_neg hc).symm.trans hf
            refine lv_aload_n hx hb dX0_remotest_51 rfl (lv_at hl 0 rfl) ?_
            refine va_get (ci := 0) (v := .ref (ad 10)) (C := RX0) (T := TX0) (N := 2) hx hb hts hiX0 hown hK hP 9 rfl rfl 1 (by decide) (hts _ (List.mem_of_getElem? (i := 3) rfl)) (fun _ h9 => h9) rfl dX0_remotest_52 ?_
            refine lv_iload hx hb dX0_remotest_55 (lv_at hl 4 rfl) ?_
            obtain ⟨hg, hf⟩ := og hf
            refine va_iald hx hb hK hP 10 0 rfl rfl (gI_in hg) dX0_remotest_57 ?_
            refine lv_istore_n (lv' := [(2, .int (qcRch_1 (v4_4).toNatClampNeg)), (0, .ref (ad 9)), (1, .int p0), (3, .int v3_3), (4, .int v4_4)]) hx hb dX0_remotest_58 rfl hl (by decide) rfl (fun ls hl => ?_)
            refine lv_iload hx hb dX0_remotest_59 (lv_at hl 4 rfl) ?_
            refine lv_istore_n (lv' := [(3, .int v4_4), (2, .int (qcRch_1 (v4_4).toNatClampNeg)), (0, .ref (ad 9)), (1, .int p0), (4, .int v4_4)]) hx hb dX0_remotest_61 rfl hl (by decide) rfl (fun ls hl => ?_)
            exact hJ62 _ _ _ _ _ hf hP hS (lv_sub hl [2, 3, 1, 0, 4] rfl)
    obtain ⟨⟨ov2_2, ov3_3, ov4_4⟩, hq, hf⟩ := ob hf
    try dsimp only at hf
    refine hL28 FU _ _ _ ov2_2 ov3_3 ov4_4 _ _ ls hq hP hS (lv_sub hl [3, 4, 2, 1, 0] rfl) (fun H locs ls hP hS hl => ?_)
    refine lv_iload_n hx hb dX0_remotest_68 rfl (lv_at hl 1 rfl) ?_
    refine lv_if_ne (tgt := 76) hx hb dX0_remotest_69 (by decide) (fun hc => ?_) (fun hc => ?_)
    · replace hf := (if_neg hc).symm.trans hf
      refine lv_iload_n hx hb dX0_remotest_76 rfl (lv_at hl 3 rfl) ?_
      obtain ⟨e0, hz1⟩ := Prod.mk.inj (Option.some.inj hf)
      subst e0
      subst hz1
      exact rm_i hx hb hr hlk hP hS dX0_remotest_77
    · replace hf := (if_pos hc).symm.trans hf
      refine lv_iload_n hx hb dX0_remotest_72 rfl (lv_at hl 2 rfl) ?_
      refine lv_goto (tgt := 77) hx hb dX0_remotest_73 (by decide) ?_
      obtain ⟨e0, hz1⟩ := Prod.mk.inj (Option.some.inj hf)
      subst e0
      subst hz1
      exact rm_i hx hb hr hlk hP hS dX0_remotest_77
  · replace hf := (if_pos hc).symm.trans hf
    refine lv_iconst (v := (-1 : Int32)) hx hb dX0_remotest_10 (by decide) ?_
    obtain ⟨e0, hz1⟩ := Prod.mk.inj (Option.some.inj hf)
    subst e0
    subst hz1
    exact rm_i hx hb hr hlk hP hS dX0_remotest_11

def fX0_leftWith_L4 (cCnt : Int32) (cGps : Nat → Int32) (cRch : Nat → Int32) (p0 : Int32) (kk : (Int32 × Int32) → Option (Int32 × Int32)) (ww : Int32 × Int32) : Option (Int32 × Int32) :=
  match ww with
  | (v2_1, v3_2) => (if cCnt ≤ v3_2 then (some (v2_1, v3_2)) else (if gI v3_2 60 then ((fX1_gap cGps v3_2 p0).bind fun r_3 => (kk ((if v2_1 < (if r_3 < (cRch (v3_2).toNatClampNeg) then r_3 else (cRch (v3_2).toNatClampNeg)) then (if r_3 < (cRch (v3_2).toNatClampNeg) then r_3 else (cRch (v3_2).toNatClampNeg)) else v2_1), (v3_2 + (1 : Int32))))) else none))
def fX0_leftWith (cCnt : Int32) (cGps : Nat → Int32) (cRch : Nat → Int32) (p0 : Int32) : Option (Int32) :=
  ((lp (fX0_leftWith_L4 cCnt cGps cRch p0) FU ((0 : Int32), (0 : Int32))).bind fun (ov2_1, ov3_2) => (some ov2_1))
set_option maxRecDepth 100000 in
set_option maxHeartbeats 4000000 in
theorem ctX0_leftWith (l : Launch) (D : va_G) (cI cB cZ : ClassId) (ad : Nat → Nat) (cBad cFul cCnt cOpc cStp cTsz cRcn cPlc cFlt cVil cLsz : Int32) (cRts cLns cOpn cGps cTrl cWgt cRch cByt cWds cFst cSnd cSgn : Nat → Int32) (p0 : Int32) (rv : Int32) (hf : fX0_leftWith cCnt cGps cRch p0 = some rv) : Met l yX0_leftWith wsX0_leftWith (rmN 1 23) (PR D (tyL cI cB cZ) (wC cI cB cZ ad cBad cFul cCnt cOpc cStp cTsz cRcn cPlc cFlt cVil cLsz cRts cLns cOpn cGps cTrl cWgt cRch cByt cWds cFst cSnd cSgn) [.ref (ad 9), .int p0]) (SI rv) 0 0 (fun _ => False) := by
  refine mk_met cX0_leftWith 4 (some .int) (by decide) rfl (Nat.le_of_ble_eq_true rfl) ?_
  intro p e s m args below meth c ls hx hb hr hlk hml hown hts hPK hl
  obtain ⟨hP, hK⟩ := hPK
  replace hl : lv_has ls 4 [(0, .ref (ad 9)), (1, .int p0)] := hl
  replace hown : s.vm.findClass RX0 = some m.cls := hown
  have hiX0 : ∀ w ∈ wsX00, w ∈ wsX0_leftWith := fun w h => List.mem_cons_of_mem _ (List.mem_append_left _ (List.mem_append_right _ h))
  have hiX1 : ∀ w ∈ wsX10, w ∈ wsX0_leftWith := fun w h => List.mem_cons_of_mem _ (List.mem_append_right _ h)
  unfold fX0_leftWith at hf
  refine lv_iconst (v := (0 : Int32)) hx hb dX0_leftWith_0 (by decide) ?_
  refine lv_istore_n (lv' := [(2, .int (0 : Int32)), (0, .ref (ad 9)), (1, .int p0)]) hx hb dX0_leftWith_1 rfl hl (by decide) rfl (fun ls hl => ?_)
  refine lv_iconst (v := (0 : Int32)) hx hb dX0_leftWith_2 (by decide) ?_
  refine lv_istore_n (lv' := [(3, .int (0 : Int32)), (2, .int (0 : Int32)), (0, .ref (ad 9)), (1, .int p0)]) hx hb dX0_leftWith_3 rfl hl (by decide) rfl (fun ls hl => ?_)
  have hL4 : ∀ (n : Nat) (v2_1 : Int32) (v3_2 : Int32) (ov2_1 : Int32) (ov3_2 : Int32) (ls : Array Slot), lp (fX0_leftWith_L4 cCnt cGps cRch p0) n (v2_1, v3_2) = some (ov2_1, ov3_2) → lv_has ls 4 [(0, .ref (ad 9)), (1, .int p0), (2, .int v2_1), (3, .int v3_2)] → (∀ (ls : Array Slot), lv_has ls 4 [(0, .ref (ad 9)), (1, .int p0), (2, .int ov2_1), (3, .int ov3_2)] → W p l e (rmN 1 23) s m args below meth c s.heap [] 0 0 (MQ below (SI rv) args s 0 0 (fun _ => False)) (F0 m 44 ls [])) → W p l e (rmN 1 23) s m args below meth c s.heap [] 0 0 (MQ below (SI rv) args s 0 0 (fun _ => False)) (F0 m 4 ls []) := by
    intro n
    induction n with
    | zero => intro v2_1 v3_2 ov2_1 ov3_2 ls hf; exact (lp_0 hf).elim
    | succ n ih =>
      intro v2_1 v3_2 ov2_1 ov3_2 ls hf hl hE
      replace hf := lp_s hf
      dsimp only [fX0_leftWith_L4] at hf
      refine lv_iload_n hx hb dX0_leftWith_4 rfl (lv_at hl 3 rfl) ?_
      refine lv_aload_n hx hb dX0_leftWith_5 rfl (lv_at hl 0 rfl) ?_
      refine va_get (ci := 0) (v := .ref (ad 1)) (C := RX0) (T := TX0) (N := 2) hx hb hts hiX0 hown hK hP 9 rfl rfl 0 (by decide) (hts _ (List.mem_of_getElem? (i := 1) rfl)) (fun _ h9 => h9) rfl dX0_leftWith_6 ?_
      refine va_get (ci := 1) (v := .int cCnt) (C := RX1) (T := TX1) (N := 6) hx hb hts hiX1 hown hK hP 1 rfl rfl 4 (by decide) (hts _ (List.mem_of_getElem? (i := 2) rfl)) (fun _ h9 => h9) rfl dX0_leftWith_9 ?_
      refine lv_icmp_ge (tgt := 44) hx hb dX0_leftWith_12 (by decide) (fun hc => ?_) (fun hc => ?_)
      · replace hf := (if_pos hc).symm.trans hf
        cases hf
        exact hE _ (lv_sub hl [0, 1, 2, 3] rfl)
      · replace hf := (if_neg hc).symm.trans hf
        refine lv_iload_n hx hb dX0_leftWith_15 rfl (lv_at hl 2 rfl) ?_
        refine lv_aload_n hx hb dX0_leftWith_16 rfl (lv_at hl 0 rfl) ?_
        refine va_get (ci := 0) (v := .ref (ad 10)) (C := RX0) (T := TX0) (N := 2) hx hb hts hiX0 hown hK hP 9 rfl rfl 1 (by decide) (hts _ (List.mem_of_getElem? (i := 3) rfl)) (fun _ h9 => h9) rfl dX0_leftWith_17 ?_
        refine lv_iload_n hx hb dX0_leftWith_20 rfl (lv_at hl 3 rfl) ?_
        obtain ⟨hg, hf⟩ := og hf
        refine va_iald hx hb hK hP 10 0 rfl rfl (gI_in hg) dX0_leftWith_21 ?_
        refine lv_aload_n hx hb dX0_leftWith_22 rfl (lv_at hl 0 rfl) ?_
        refine va_get (ci := 0) (v := .ref (ad 1)) (C := RX0) (T := TX0) (N := 2) hx hb hts hiX0 hown hK hP 9 rfl rfl 0 (by decide) (hts _ (List.mem_of_getElem? (i := 1) rfl)) (fun _ h9 => h9) rfl dX0_leftWith_23 ?_
        refine lv_iload_n hx hb dX0_leftWith_26 rfl (lv_at hl 3 rfl) ?_
        refine lv_iload_n hx hb dX0_leftWith_27 rfl (lv_at hl 1 rfl) ?_
        obtain ⟨r_3, hq, hf⟩ := ob hf
        try dsimp only at hf
        refine rcV 1 1 (As := [.int v3_2, .int p0]) (rest := [.int (cRch (v3_2).toNatClampNeg), .int v2_1]) ⟨hx, hb, hml, hown, hts⟩ (ctX1_gap l D cI cB cZ ad cBad cFul cCnt cOpc cStp cTsz cRcn cPlc cFlt cVil cLsz cRts cLns cOpn cGps cTrl cWgt cRch cByt cWds cFst cSnd cSgn v3_2 p0 r_3 hq) (cwV 2 hts gX0_leftWith_X1_gap rfl rfl rfl (by decide +kernel) ⟨Nat.le_of_ble_eq_true rfl, Nat.le_of_ble_eq_true rfl⟩) hK hP rfl rfl rfl hl.1 rfl (Nat.le_of_ble_eq_true rfl) dX0_leftWith_28 ⟨Nat.zero_le _, Nat.zero_le _⟩ ?_
        refine va_mmin hx hb (by rw [hml]; exact hl.1.symm) hown (hts _ (List.mem_of_getElem? (i := 4) rfl)) (hts _ (List.mem_of_getElem? (i := 5) rfl)) (hts _ (List.mem_of_getElem? (i := 6) rfl)) (hts _ (List.mem_of_getElem? (i := 7) rfl)) (Nat.le_of_ble_eq_true rfl) (Nat.le_of_ble_eq_true rfl) (Nat.zero_le _) (Nat.zero_le _) dX0_leftWith_31 ?_
        refine va_mmax hx hb (by rw [hml]; exact hl.1.symm) hown (hts _ (List.mem_of_getElem? (i := 8) rfl)) (hts _ (List.mem_of_getElem? (i := 9) rfl)) (hts _ (List.mem_of_getElem? (i := 6) rfl)) (hts _ (List.mem_of_getElem? (i := 10) rfl)) (Nat.le_of_ble_eq_true rfl) (Nat.le_of_ble_eq_true rfl) (Nat.zero_le _) (Nat.zero_le _) dX0_leftWith_34 ?_
        refine lv_istore_n (lv' := [(2, .int (if v2_1 < (if r_3 < (cRch (v3_2).toNatClampNeg) then r_3 else (cRch (v3_2).toNatClampNeg)) then (if r_3 < (cRch (v3_2).toNatClampNeg) then r_3 else (cRch (v3_2).toNatClampNeg)) else v2_1)), (0, .ref (ad 9)), (1, .int p0), (3, .int v3_2)]) hx hb dX0_leftWith_37 rfl hl (by decide) rfl (fun ls hl => ?_)
        refine lv_iinc (v := (v3_2 + (1 : Int32))) (lv' := [(3, .int (v3_2 + (1 : Int32))), (2, .int (if v2_1 < (if r_3 < (cRch (v3_2).toNatClampNeg) then r_3 else (cRch (v3_2).toNatClampNeg)) then (if r_3 < (cRch (v3_2).toNatClampNeg) then r_3 else (cRch (v3_2).toNatClampNeg)) else v2_1)), (0, .ref (ad 9)), (1, .int p0)]) hx hb dX0_leftWith_38 hl (k := 3) rfl rfl (by decide) rfl (fun ls hl => ?_)
        refine lv_goto (tgt := 4) hx hb dX0_leftWith_41 (by decide) ?_
        exact ih _ _ _ _ _ hf (lv_sub hl [2, 3, 1, 0] rfl) hE
  obtain ⟨⟨ov2_1, ov3_2⟩, hq, hf⟩ := ob hf
  try dsimp only at hf
  refine hL4 FU _ _ ov2_1 ov3_2 ls hq (lv_sub hl [2, 3, 1, 0] rfl) (fun ls hl => ?_)
  refine lv_iload_n hx hb dX0_leftWith_44 rfl (lv_at hl 2 rfl) ?_
  exact re_i hx hb hr hlk dX0_leftWith_45 hf

def fX0_bestNew_J62 (v4_4 : Int32) (kk : (Int32 × Int32 × Int32) → Option (Int32 × Int32 × Int32)) (v2_6 : Int32) (v3_7 : Int32) : Option (Int32 × Int32 × Int32) :=
  (kk (v2_6, v3_7, (v4_4 + (1 : Int32))))
def fX0_bestNew_J48 (v2_2 : Int32) (v3_3 : Int32) (v4_4 : Int32) (kk : (Int32 × Int32 × Int32) → Option (Int32 × Int32 × Int32)) (t_5 : Int32) : Option (Int32 × Int32 × Int32) :=
  (if v3_3 ≤ t_5 then (fX0_bestNew_J62 v4_4 kk v2_2 v3_3) else (fX0_bestNew_J62 v4_4 kk v4_4 t_5))
def fX0_bestNew_L12 (cCnt : Int32) (cOpn : Nat → Int32) (cGps : Nat → Int32) (qcRch_1 : Nat → Int32) (kk : (Int32 × Int32 × Int32) → Option (Int32 × Int32 × Int32)) (ww : Int32 × Int32 × Int32) : Option (Int32 × Int32 × Int32) :=
  match ww with
  | (v2_2, v3_3, v4_4) => (if cCnt ≤ v4_4 then (some (v2_2, v3_3, v4_4)) else (if gI v4_4 60 then (if (cOpn (v4_4).toNatClampNeg) = 0 then ((fX0_leftWith cCnt cGps qcRch_1 v4_4).bind fun r_8 => (fX0_bestNew_J48 v2_2 v3_3 v4_4 kk r_8)) else (fX0_bestNew_J48 v2_2 v3_3 v4_4 kk (1000000 : Int32))) else none))
def fX0_bestNew_J77 (qcRch_1 : Nat → Int32) (ov2_2 : Int32) : Option (Int32 × (Nat → Int32)) :=
  (some (ov2_2, qcRch_1))
def fX0_bestNew (cCnt : Int32) (cOpn : Nat → Int32) (cGps : Nat → Int32) (cRch : Nat → Int32) (p0 : Int32) : Option (Int32 × (Nat → Int32)) :=
  ((fX0_findReaches cCnt cOpn cGps cRch).bind fun qcRch_1 => ((lp (fX0_bestNew_L12 cCnt cOpn cGps qcRch_1) FU ((-1 : Int32), (1000000 : Int32), (0 : Int32))).bind fun (ov2_2, ov3_3, ov4_4) => (if ov2_2 = (-1 : Int32) then (fX0_bestNew_J77 qcRch_1 ov2_2) else (if p0 = 0 then (fX0_bestNew_J77 qcRch_1 ov2_2) else (some (ov3_3, qcRch_1))))))
set_option maxRecDepth 100000 in
set_option maxHeartbeats 4000000 in
theorem ctX0_bestNew (l : Launch) (D : va_G) (cI cB cZ : ClassId) (ad : Nat → Nat) (A : Nat → Prop) (hAD : AD A ad 20) (cBad cFul cCnt cOpc cStp cTsz cRcn cPlc cFlt cVil cLsz : Int32) (cRts cLns cOpn cGps cTrl cWgt cRch cByt cWds cFst cSnd cSgn : Nat → Int32) (p0 : Int32) (rv : Int32) (zcRch : Nat → Int32) (hf : fX0_bestNew cCnt cOpn cGps cRch p0 = some (rv, zcRch)) : Met l yX0_bestNew wsX0_bestNew (rmN 3 69) (PR D (tyL cI cB cZ) (wC cI cB cZ ad cBad cFul cCnt cOpc cStp cTsz cRcn cPlc cFlt cVil cLsz cRts cLns cOpn cGps cTrl cWgt cRch cByt cWds cFst cSnd cSgn) [.ref (ad 9), .int p0]) (QI D (wC cI cB cZ ad cBad cFul cCnt cOpc cStp cTsz cRcn cPlc cFlt cVil cLsz cRts cLns cOpn cGps cTrl cWgt zcRch cByt cWds cFst cSnd cSgn) A rv) 0 0 A := by
  refine mk_met cX0_bestNew 6 (some .int) (by decide) rfl (Nat.le_of_ble_eq_true rfl) ?_
  intro p e s m args below meth c ls hx hb hr hlk hml hown hts hPK hl
  obtain ⟨hP, hK⟩ := hPK
  replace hl : lv_has ls 6 [(0, .ref (ad 9)), (1, .int p0)] := hl
  replace hown : s.vm.findClass RX0 = some m.cls := hown
  have hiX0 : ∀ w ∈ wsX00, w ∈ wsX0_bestNew := fun w h => List.mem_cons_of_mem _ (List.mem_append_left _ (List.mem_append_right _ h))
  have hiX1 : ∀ w ∈ wsX10, w ∈ wsX0_bestNew := fun w h => List.mem_cons_of_mem _ (List.mem_append_right _ h)
  have hS : va_S A s.heap s.heap [] := va_S.rf
  unfold fX0_bestNew at hf
  refine lv_aload_n hx hb dX0_bestNew_0 rfl (lv_at hl 0 rfl) ?_
  obtain ⟨qcRch_1, hq, hf⟩ := ob hf
  try dsimp only at hf
  refine mcVv 9 0 (As := []) (rest := []) ⟨hx, hb, hml, hown, hts⟩ (ctX0_findReaches l D cI cB cZ ad A hAD cBad cFul cCnt cOpc cStp cTsz cRcn cPlc cFlt cVil cLsz cRts cLns cOpn cGps cTrl cWgt cRch cByt cWds cFst cSnd cSgn  qcRch_1 hq) (cwV 0 hts gX0_bestNew_X0_findReaches rfl rfl rfl (by decide +kernel) ⟨Nat.le_of_ble_eq_true rfl, Nat.le_of_ble_eq_true rfl⟩) hK hP hS rfl rfl rfl hl.1 rfl (Nat.le_of_ble_eq_true rfl) dX0_bestNew_1 ⟨Nat.zero_le _, Nat.zero_le _⟩ (fun H locs hP hS => ?_)
  refine lv_iconst (v := (-1 : Int32)) hx hb dX0_bestNew_4 (by decide) ?_
  refine lv_istore_n (lv' := [(2, .int (-1 : Int32)), (0, .ref (ad 9)), (1, .int p0)]) hx hb dX0_bestNew_5 rfl hl (by decide) rfl (fun ls hl => ?_)
  refine lv_ldc (v := (1000000 : Int32)) hx hb hown (hts _ (List.mem_of_getElem? (i := 1) rfl)) dX0_bestNew_6 ?_
  refine lv_istore_n (lv' := [(3, .int (1000000 : Int32)), (2, .int (-1 : Int32)), (0, .ref (ad 9)), (1, .int p0)]) hx hb dX0_bestNew_8 rfl hl (by decide) rfl (fun ls hl => ?_)
  refine lv_iconst (v := (0 : Int32)) hx hb dX0_bestNew_9 (by decide) ?_
  refine lv_istore (lv' := [(4, .int (0 : Int32)), (3, .int (1000000 : Int32)), (2, .int (-1 : Int32)), (0, .ref (ad 9)), (1, .int p0)]) hx hb dX0_bestNew_10 hl (by decide) rfl (fun ls hl => ?_)
  have hL12 : ∀ (n : Nat) (v2_2 : Int32) (v3_3 : Int32) (v4_4 : Int32) (ov2_2 : Int32) (ov3_3 : Int32) (ov4_4 : Int32) (H : Heap) (locs : List Loc) (ls : Array Slot), lp (fX0_bestNew_L12 cCnt cOpn cGps qcRch_1) n (v2_2, v3_3, v4_4) = some (ov2_2, ov3_3, ov4_4) → va_P D vwCl (wC cI cB cZ ad cBad cFul cCnt cOpc cStp cTsz cRcn cPlc cFlt cVil cLsz cRts cLns cOpn cGps cTrl cWgt qcRch_1 cByt cWds cFst cSnd cSgn) H → va_S A s.heap H locs → lv_has ls 6 [(0, .ref (ad 9)), (1, .int p0), (2, .int v2_2), (3, .int v3_3), (4, .int v4_4)] → (∀ (H : Heap) (locs : List Loc) (ls : Array Slot), va_P D vwCl (wC cI cB cZ ad cBad cFul cCnt cOpc cStp cTsz cRcn cPlc cFlt cVil cLsz cRts cLns cOpn cGps cTrl cWgt qcRch_1 cByt cWds cFst cSnd cSgn) H → va_S A s.heap H locs → lv_has ls 6 [(0, .ref (ad 9)), (1, .int p0), (2, .int ov2_2), (3, .int ov3_3), (4, .int ov4_4)] → W p l e (rmN 3 69) s m args below meth c H locs 0 0 (MQ below (QI D (wC cI cB cZ ad cBad cFul cCnt cOpc cStp cTsz cRcn cPlc cFlt cVil cLsz cRts cLns cOpn cGps cTrl cWgt zcRch cByt cWds cFst cSnd cSgn) A rv) args s 0 0 A) (F0 m 68 ls [])) → W p l e (rmN 3 69) s m args below meth c H locs 0 0 (MQ below (QI D (wC cI cB cZ ad cBad cFul cCnt cOpc cStp cTsz cRcn cPlc cFlt cVil cLsz cRts cLns cOpn cGps cTrl cWgt zcRch cByt cWds cFst cSnd cSgn) A rv) args s 0 0 A) (F0 m 12 ls []) := by
    intro n
    induction n with
    | zero => intro v2_2 v3_3 v4_4 ov2_2 ov3_3 ov4_4 H locs ls hf; exact (lp_0 hf).elim
    | succ n ih =>
      intro v2_2 v3_3 v4_4 ov2_2 ov3_3 ov4_4 H locs ls hf hP hS hl hE
      replace hf := lp_s hf
      dsimp only [fX0_bestNew_L12] at hf
      refine lv_iload hx hb dX0_bestNew_12 (lv_at hl 4 rfl) ?_
      refine lv_aload_n hx hb dX0_bestNew_14 rfl (lv_at hl 0 rfl) ?_
      refine va_get (ci := 0) (v := .ref (ad 1)) (C := RX0) (T := TX0) (N := 2) hx hb hts hiX0 hown hK hP 9 rfl rfl 0 (by decide) (hts _ (List.mem_of_getElem? (i := 2) rfl)) (fun _ h9 => h9) rfl dX0_bestNew_15 ?_
      refine va_get (ci := 1) (v := .int cCnt) (C := RX1) (T := TX1) (N := 6) hx hb hts hiX1 hown hK hP 1 rfl rfl 4 (by decide) (hts _ (List.mem_of_getElem? (i := 3) rfl)) (fun _ h9 => h9) rfl dX0_bestNew_18 ?_
      refine lv_icmp_ge (tgt := 68) hx hb dX0_bestNew_21 (by decide) (fun hc => ?_) (fun hc => ?_)
      · replace hf := (if_pos hc).symm.trans hf
        cases hf
        exact hE _ _ _ hP hS (lv_sub hl [0, 1, 2, 3, 4] rfl)
      · replace hf := (if_neg hc).symm.trans hf
        refine lv_aload_n hx hb dX0_bestNew_24 rfl (lv_at hl 0 rfl) ?_
        refine va_get (ci := 0) (v := .ref (ad 1)) (C := RX0) (T := TX0) (N := 2) hx hb hts hiX0 hown hK hP 9 rfl rfl 0 (by decide) (hts _ (List.mem_of_getElem? (i := 2) rfl)) (fun _ h9 => h9) rfl dX0_bestNew_25 ?_
        refine va_get (ci := 1) (v := .ref (ad 4)) (C := RX1) (T := TX1) (N := 6) hx hb hts hiX1 hown hK hP 1 rfl rfl 2 (by decide) (hts _ (List.mem_of_getElem? (i := 4) rfl)) (fun _ h9 => h9) rfl dX0_bestNew_28 ?_
        refine lv_iload hx hb dX0_bestNew_31 (lv_at hl 4 rfl) ?_
        obtain ⟨hg, hf⟩ := og hf
        refine va_zald hx hb hK hP 4 2 rfl rfl (gI_in hg) dX0_bestNew_33 ?_
        have hJ48 : ∀ (t_5 : Int32) (H : Heap) (locs : List Loc) (ls : Array Slot), fX0_bestNew_J48 v2_2 v3_3 v4_4 (lp (fX0_bestNew_L12 cCnt cOpn cGps qcRch_1) n) t_5 = some (ov2_2, ov3_3, ov4_4) → va_P D vwCl (wC cI cB cZ ad cBad cFul cCnt cOpc cStp cTsz cRcn cPlc cFlt cVil cLsz cRts cLns cOpn cGps cTrl cWgt qcRch_1 cByt cWds cFst cSnd cSgn) H → va_S A s.heap H locs → lv_has ls 6 [(0, .ref (ad 9)), (1, .int p0), (2, .int v2_2), (3, .int v3_3), (4, .int v4_4)] → W p l e (rmN 3 69) s m args below meth c H locs 0 0 (MQ below (QI D (wC cI cB cZ ad cBad cFul cCnt cOpc cStp cTsz cRcn cPlc cFlt cVil cLsz cRts cLns cOpn cGps cTrl cWgt zcRch cByt cWds cFst cSnd cSgn) A rv) args s 0 0 A) (F0 m 48 ls [.int t_5]) := by
          intro t_5 H locs ls hf hP hS hl
          unfold fX0_bestNew_J48 at hf
          refine lv_istore (lv' := [(5, .int t_5), (0, .ref (ad 9)), (1, .int p0), (2, .int v2_2), (3, .int v3_3), (4, .int v4_4)]) hx hb dX0_bestNew_48 hl (by decide) rfl (fun ls hl => ?_)
          refine lv_iload hx hb dX0_bestNew_50 (lv_at hl 0 rfl) ?_
          refine lv_iload_n hx hb dX0_bestNew_52 rfl (lv_at hl 4 rfl) ?_
          have hJ62 : ∀ (v2_6 : Int32) (v3_7 : Int32) (H : Heap) (locs : List Loc) (ls : Array Slot), fX0_bestNew_J62 v4_4 (lp (fX0_bestNew_L12 cCnt cOpn cGps qcRch_1) n) v2_6 v3_7 = some (ov2_2, ov3_3, ov4_4) → va_P D vwCl (wC cI cB cZ ad cBad cFul cCnt cOpc cStp cTsz cRcn cPlc cFlt cVil cLsz cRts cLns cOpn cGps cTrl cWgt qcRch_1 cByt cWds cFst cSnd cSgn) H → va_S A s.heap H locs → lv_has ls 6 [(0, .ref (ad 9)), (1, .int p0), (2, .int v2_6), (3, .int v3_7), (4, .int v4_4), (5, .int t_5)] → W p l e (rmN 3 69) s m args below meth c H locs 0 0 (MQ below (QI D (wC cI cB cZ ad cBad cFul cCnt cOpc cStp cTsz cRcn cPlc cFlt cVil cLsz cRts cLns cOpn cGps cTrl cWgt zcRch cByt cWds cFst cSnd cSgn) A rv) args s 0 0 A) (F0 m 62 ls []) := by
            intro v2_6 v3_7 H locs ls hf hP hS hl
            unfold fX0_bestNew_J62 at hf
            refine lv_iinc (v := (v4_4 + (1 : Int32))) (lv' := [(4, .int (v4_4 + (1 : Int32))), (0, .ref (ad 9)), (1, .int p0), (2, .int v2_6), (3, .int v3_7), (5, .int t_5)]) hx hb dX0_bestNew_62 hl (k := 4) rfl rfl (by decide) rfl (fun ls hl => ?_)
            refine lv_goto (tgt := 12) hx hb dX0_bestNew_65 (by decide) ?_
            exact ih _ _ _ _ _ _ _ _ _ hf hP hS (lv_sub hl [1, 2, 3, 4, 0] rfl) hE
          refine lv_icmp_ge (tgt := 62) hx hb dX0_bestNew_53 (by decide) (fun hc => ?_) (fun hc => ?_)
          · replace hf := (if_pos hc).symm.trans hf
            exact hJ62 _ _ _ _ _ hf hP hS (lv_sub hl [1, 2, 3, 4, 5, 0] rfl)
          · replace hf := (if_neg hc).symm.trans hf
            refine lv_iload hx hb dX0_bestNew_56 (lv_at hl 0 rfl) ?_
            refine lv_istore_n (lv' := [(3, .int t_5), (5, .int t_5), (0, .ref (ad 9)), (1, .int p0), (2, .int v2_2), (4, .int v4_4)]) hx hb dX0_bestNew_58 rfl hl (by decide) rfl (fun ls hl => ?_)
            refine lv_iload hx hb dX0_bestNew_59 (lv_at hl 5 rfl) ?_
            refine lv_istore_n (lv' := [(2, .int v4_4), (3, .int t_5), (5, .int t_5), (0, .ref (ad 9)), (1, .int p0), (4, .int v4_4)]) hx hb dX0_bestNew_61 rfl hl (by decide) rfl (fun ls hl => ?_)
            exact hJ62 _ _ _ _ _ hf hP hS (lv_sub hl [3, 4, 0, 1, 5, 2] rfl)
        refine lv_if_eq (tgt := 42) hx hb dX0_bestNew_34 (by decide) (fun hc => ?_) (fun hc => ?_)
        · replace hf := (if_pos hc).symm.trans hf
          refine lv_aload_n hx hb dX0_bestNew_42 rfl (lv_at hl 0 rfl) ?_
          refine lv_iload hx hb dX0_bestNew_43 (lv_at hl 4 rfl) ?_
          obtain ⟨r_8, hq, hf⟩ := ob hf
          try dsimp only at hf
          refine rcV 9 0 (As := [.int v4_4]) (rest := []) ⟨hx, hb, hml, hown, hts⟩ (ctX0_leftWith l D cI cB cZ ad cBad cFul cCnt cOpc cStp cTsz cRcn cPlc cFlt cVil cLsz cRts cLns cOpn cGps cTrl cWgt qcRch_1 cByt cWds cFst cSnd cSgn v4_4 r_8 hq) (cwV 1 hts gX0_bestNew_X0_leftWith rfl rfl rfl (by decide +kernel) ⟨Nat.le_of_ble_eq_true rfl, Nat.le_of_ble_eq_true rfl⟩) hK hP rfl rfl rfl hl.1 rfl (Nat.le_of_ble_eq_true rfl) dX0_bestNew_45 ⟨Nat.zero_le _, Nat.zero_le _⟩ ?_
          exact hJ48 _ _ _ _ hf hP hS (lv_sub hl [0, 1, 2, 3, 4] rfl)
        · replace hf := (if_neg hc).symm.trans hf
          refine lv_ldc (v := (1000000 : Int32)) hx hb hown (hts _ (List.mem_of_getElem? (i := 1) rfl)) dX0_bestNew_37 ?_
          refine lv_goto (tgt := 48) hx hb dX0_bestNew_39 (by decide) ?_
          exact hJ48 _ _ _ _ hf hP hS (lv_sub hl [0, 1, 2, 3, 4] rfl)
  obtain ⟨⟨ov2_2, ov3_3, ov4_4⟩, hq, hf⟩ := ob hf
  try dsimp only at hf
  refine hL12 FU _ _ _ ov2_2 ov3_3 ov4_4 _ _ ls hq hP hS (lv_sub hl [3, 4, 2, 1, 0] rfl) (fun H locs ls hP hS hl => ?_)
  refine lv_iload_n hx hb dX0_bestNew_68 rfl (lv_at hl 2 rfl) ?_
  refine lv_iconst (v := (-1 : Int32)) hx hb dX0_bestNew_69 (by decide) ?_
  have hJ77 : ∀  (H : Heap) (locs : List Loc) (ls : Array Slot), fX0_bestNew_J77 qcRch_1 ov2_2 = some (rv, zcRch) → va_P D vwCl (wC cI cB cZ ad cBad cFul cCnt cOpc cStp cTsz cRcn cPlc cFlt cVil cLsz cRts cLns cOpn cGps cTrl cWgt qcRch_1 cByt cWds cFst cSnd cSgn) H → va_S A s.heap H locs → lv_has ls 6 [(0, .ref (ad 9)), (1, .int p0), (2, .int ov2_2), (3, .int ov3_3), (4, .int ov4_4)] → W p l e (rmN 3 69) s m args below meth c H locs 0 0 (MQ below (QI D (wC cI cB cZ ad cBad cFul cCnt cOpc cStp cTsz cRcn cPlc cFlt cVil cLsz cRts cLns cOpn cGps cTrl cWgt zcRch cByt cWds cFst cSnd cSgn) A rv) args s 0 0 A) (F0 m 77 ls []) := by
    intro  H locs ls hf hP hS hl
    unfold fX0_bestNew_J77 at hf
    refine lv_iload_n hx hb dX0_bestNew_77 rfl (lv_at hl 2 rfl) ?_
    refine lv_goto (tgt := 82) hx hb dX0_bestNew_78 (by decide) ?_
    obtain ⟨e0, hz1⟩ := Prod.mk.inj (Option.some.inj hf)
    subst e0
    subst hz1
    exact rm_i hx hb hr hlk hP hS dX0_bestNew_82
  refine lv_icmp_eq (tgt := 77) hx hb dX0_bestNew_70 (by decide) (fun hc => ?_) (fun hc => ?_)
  · replace hf := (if_pos hc).symm.trans hf
    exact hJ77  _ _ _ hf hP hS (lv_sub hl [0, 1, 2, 3, 4] rfl)
  · replace hf := (if_neg hc).symm.trans hf
    refine lv_iload_n hx hb dX0_bestNew_73 rfl (lv_at hl 1 rfl) ?_
    refine lv_if_ne (tgt := 81) hx hb dX0_bestNew_74 (by decide) (fun hc => ?_) (fun hc => ?_)
    · replace hf := (if_neg hc).symm.trans hf
      refine lv_iload_n hx hb dX0_bestNew_81 rfl (lv_at hl 3 rfl) ?_
      obtain ⟨e0, hz1⟩ := Prod.mk.inj (Option.some.inj hf)
      subst e0
      subst hz1
      exact rm_i hx hb hr hlk hP hS dX0_bestNew_82
    · replace hf := (if_pos hc).symm.trans hf
      exact hJ77  _ _ _ hf hP hS (lv_sub hl [0, 1, 2, 3, 4] rfl)

def fX0_countServed_J27 (v3_2 : Int32) (kk : (Int32 × Int32) → Option (Int32 × Int32)) (v2_4 : Int32) : Option (Int32 × Int32) :=
  (kk (v2_4, (v3_2 + (1 : Int32))))
def fX0_countServed_L4 (cCnt : Int32) (cOpn : Nat → Int32) (cGps : Nat → Int32) (p0 : Int32) (kk : (Int32 × Int32) → Option (Int32 × Int32)) (ww : Int32 × Int32) : Option (Int32 × Int32) :=
  match ww with
  | (v2_1, v3_2) => (if cCnt ≤ v3_2 then (some (v2_1, v3_2)) else ((fX0_countBefore cCnt cOpn cGps v3_2 p0).bind fun r_3 => (if r_3 = 0 then (fX0_countServed_J27 v3_2 kk (v2_1 + (1 : Int32))) else (fX0_countServed_J27 v3_2 kk v2_1))))
def fX0_countServed (cCnt : Int32) (cOpn : Nat → Int32) (cGps : Nat → Int32) (p0 : Int32) : Option (Int32) :=
  ((lp (fX0_countServed_L4 cCnt cOpn cGps p0) FU ((0 : Int32), (0 : Int32))).bind fun (ov2_1, ov3_2) => (some ov2_1))
set_option maxRecDepth 100000 in
set_option maxHeartbeats 4000000 in
theorem ctX0_countServed (l : Launch) (D : va_G) (cI cB cZ : ClassId) (ad : Nat → Nat) (cBad cFul cCnt cOpc cStp cTsz cRcn cPlc cFlt cVil cLsz : Int32) (cRts cLns cOpn cGps cTrl cWgt cRch cByt cWds cFst cSnd cSgn : Nat → Int32) (p0 : Int32) (rv : Int32) (hf : fX0_countServed cCnt cOpn cGps p0 = some rv) : Met l yX0_countServed wsX0_countServed (rmN 2 49) (PR D (tyL cI cB cZ) (wC cI cB cZ ad cBad cFul cCnt cOpc cStp cTsz cRcn cPlc cFlt cVil cLsz cRts cLns cOpn cGps cTrl cWgt cRch cByt cWds cFst cSnd cSgn) [.ref (ad 9), .int p0]) (SI rv) 0 0 (fun _ => False) := by
  refine mk_met cX0_countServed 4 (some .int) (by decide) rfl (Nat.le_of_ble_eq_true rfl) ?_
  intro p e s m args below meth c ls hx hb hr hlk hml hown hts hPK hl
  obtain ⟨hP, hK⟩ := hPK
  replace hl : lv_has ls 4 [(0, .ref (ad 9)), (1, .int p0)] := hl
  replace hown : s.vm.findClass RX0 = some m.cls := hown
  have hiX0 : ∀ w ∈ wsX00, w ∈ wsX0_countServed := fun w h => List.mem_cons_of_mem _ (List.mem_append_left _ (List.mem_append_right _ h))
  have hiX1 : ∀ w ∈ wsX10, w ∈ wsX0_countServed := fun w h => List.mem_cons_of_mem _ (List.mem_append_right _ h)
  unfold fX0_countServed at hf
  refine lv_iconst (v := (0 : Int32)) hx hb dX0_countServed_0 (by decide) ?_
  refine lv_istore_n (lv' := [(2, .int (0 : Int32)), (0, .ref (ad 9)), (1, .int p0)]) hx hb dX0_countServed_1 rfl hl (by decide) rfl (fun ls hl => ?_)
  refine lv_iconst (v := (0 : Int32)) hx hb dX0_countServed_2 (by decide) ?_
  refine lv_istore_n (lv' := [(3, .int (0 : Int32)), (2, .int (0 : Int32)), (0, .ref (ad 9)), (1, .int p0)]) hx hb dX0_countServed_3 rfl hl (by decide) rfl (fun ls hl => ?_)
  have hL4 : ∀ (n : Nat) (v2_1 : Int32) (v3_2 : Int32) (ov2_1 : Int32) (ov3_2 : Int32) (ls : Array Slot), lp (fX0_countServed_L4 cCnt cOpn cGps p0) n (v2_1, v3_2) = some (ov2_1, ov3_2) → lv_has ls 4 [(0, .ref (ad 9)), (1, .int p0), (2, .int v2_1), (3, .int v3_2)] → (∀ (ls : Array Slot), lv_has ls 4 [(0, .ref (ad 9)), (1, .int p0), (2, .int ov2_1), (3, .int ov3_2)] → W p l e (rmN 2 49) s m args below meth c s.heap [] 0 0 (MQ below (SI rv) args s 0 0 (fun _ => False)) (F0 m 33 ls [])) → W p l e (rmN 2 49) s m args below meth c s.heap [] 0 0 (MQ below (SI rv) args s 0 0 (fun _ => False)) (F0 m 4 ls []) := by
    intro n
    induction n with
    | zero => intro v2_1 v3_2 ov2_1 ov3_2 ls hf; exact (lp_0 hf).elim
    | succ n ih =>
      intro v2_1 v3_2 ov2_1 ov3_2 ls hf hl hE
      replace hf := lp_s hf
      dsimp only [fX0_countServed_L4] at hf
      refine lv_iload_n hx hb dX0_countServed_4 rfl (lv_at hl 3 rfl) ?_
      refine lv_aload_n hx hb dX0_countServed_5 rfl (lv_at hl 0 rfl) ?_
      refine va_get (ci := 0) (v := .ref (ad 1)) (C := RX0) (T := TX0) (N := 2) hx hb hts hiX0 hown hK hP 9 rfl rfl 0 (by decide) (hts _ (List.mem_of_getElem? (i := 1) rfl)) (fun _ h9 => h9) rfl dX0_countServed_6 ?_
      refine va_get (ci := 1) (v := .int cCnt) (C := RX1) (T := TX1) (N := 6) hx hb hts hiX1 hown hK hP 1 rfl rfl 4 (by decide) (hts _ (List.mem_of_getElem? (i := 2) rfl)) (fun _ h9 => h9) rfl dX0_countServed_9 ?_
      refine lv_icmp_ge (tgt := 33) hx hb dX0_countServed_12 (by decide) (fun hc => ?_) (fun hc => ?_)
      · replace hf := (if_pos hc).symm.trans hf
        cases hf
        exact hE _ (lv_sub hl [0, 1, 2, 3] rfl)
      · replace hf := (if_neg hc).symm.trans hf
        refine lv_aload_n hx hb dX0_countServed_15 rfl (lv_at hl 0 rfl) ?_
        refine lv_iload_n hx hb dX0_countServed_16 rfl (lv_at hl 3 rfl) ?_
        refine lv_iload_n hx hb dX0_countServed_17 rfl (lv_at hl 1 rfl) ?_
        obtain ⟨r_3, hq, hf⟩ := ob hf
        try dsimp only at hf
        refine rcV 9 0 (As := [.int v3_2, .int p0]) (rest := []) ⟨hx, hb, hml, hown, hts⟩ (ctX0_countBefore l D cI cB cZ ad cBad cFul cCnt cOpc cStp cTsz cRcn cPlc cFlt cVil cLsz cRts cLns cOpn cGps cTrl cWgt cRch cByt cWds cFst cSnd cSgn v3_2 p0 r_3 hq) (cwV 2 hts gX0_countServed_X0_countBefore rfl rfl rfl (by decide +kernel) ⟨Nat.le_of_ble_eq_true rfl, Nat.le_of_ble_eq_true rfl⟩) hK hP rfl rfl rfl hl.1 rfl (Nat.le_of_ble_eq_true rfl) dX0_countServed_18 ⟨Nat.zero_le _, Nat.zero_le _⟩ ?_
        have hJ27 : ∀ (v2_4 : Int32) (ls : Array Slot), fX0_countServed_J27 v3_2 (lp (fX0_countServed_L4 cCnt cOpn cGps p0) n) v2_4 = some (ov2_1, ov3_2) → lv_has ls 4 [(0, .ref (ad 9)), (1, .int p0), (2, .int v2_4), (3, .int v3_2)] → W p l e (rmN 2 49) s m args below meth c s.heap [] 0 0 (MQ below (SI rv) args s 0 0 (fun _ => False)) (F0 m 27 ls []) := by
          intro v2_4 ls hf hl
          unfold fX0_countServed_J27 at hf
          refine lv_iinc (v := (v3_2 + (1 : Int32))) (lv' := [(3, .int (v3_2 + (1 : Int32))), (0, .ref (ad 9)), (1, .int p0), (2, .int v2_4)]) hx hb dX0_countServed_27 hl (k := 3) rfl rfl (by decide) rfl (fun ls hl => ?_)
          refine lv_goto (tgt := 4) hx hb dX0_countServed_30 (by decide) ?_
          exact ih _ _ _ _ _ hf (lv_sub hl [1, 2, 3, 0] rfl) hE
        refine lv_if_ne (tgt := 27) hx hb dX0_countServed_21 (by decide) (fun hc => ?_) (fun hc => ?_)
        · replace hf := (if_neg hc).symm.trans hf
          exact hJ27 _ _ hf (lv_sub hl [0, 1, 2, 3] rfl)
        · replace hf := (if_pos hc).symm.trans hf
          refine lv_iinc (v := (v2_1 + (1 : Int32))) (lv' := [(2, .int (v2_1 + (1 : Int32))), (0, .ref (ad 9)), (1, .int p0), (3, .int v3_2)]) hx hb dX0_countServed_24 hl (k := 2) rfl rfl (by decide) rfl (fun ls hl => ?_)
          exact hJ27 _ _ hf (lv_sub hl [1, 2, 0, 3] rfl)
  obtain ⟨⟨ov2_1, ov3_2⟩, hq, hf⟩ := ob hf
  try dsimp only at hf
  refine hL4 FU _ _ ov2_1 ov3_2 ls hq (lv_sub hl [2, 3, 1, 0] rfl) (fun ls hl => ?_)
  refine lv_iload_n hx hb dX0_countServed_33 rfl (lv_at hl 2 rfl) ?_
  exact re_i hx hb hr hlk dX0_countServed_34 hf

def fX0_closestTwo_J101 (v6_8 : Int32) (kk : (Int32 × Int32 × Int32 × Int32) → Option (Int32 × Int32 × Int32 × Int32)) (v2_9 : Int32) (v3_10 : Int32) (v4_11 : Int32) : Option (Int32 × Int32 × Int32 × Int32) :=
  (kk (v2_9, v3_10, v4_11, (v6_8 + (1 : Int32))))
def fX0_closestTwo_L29 (cCnt : Int32) (cOpn : Nat → Int32) (cGps : Nat → Int32) (v5_4 : Int32) (kk : (Int32 × Int32 × Int32 × Int32) → Option (Int32 × Int32 × Int32 × Int32)) (ww : Int32 × Int32 × Int32 × Int32) : Option (Int32 × Int32 × Int32 × Int32) :=
  match ww with
  | (v2_5, v3_6, v4_7, v6_8) => (if cCnt ≤ v6_8 then (some (v2_5, v3_6, v4_7, v6_8)) else (if gI v5_4 60 then (if (cOpn (v5_4).toNatClampNeg) = 0 then (fX0_closestTwo_J101 v6_8 kk v2_5 v3_6 v4_7) else (if gI v6_8 60 then (if (cOpn (v6_8).toNatClampNeg) = 0 then (fX0_closestTwo_J101 v6_8 kk v2_5 v3_6 v4_7) else ((fX1_gap cGps v5_4 v6_8).bind fun r_12 => (if v2_5 ≤ r_12 then (fX0_closestTwo_J101 v6_8 kk v2_5 v3_6 v4_7) else ((fX1_gap cGps v5_4 v6_8).bind fun r_13 => (fX0_closestTwo_J101 v6_8 kk r_13 v5_4 v6_8))))) else none)) else none))
def fX0_closestTwo_L11 (cCnt : Int32) (cOpn : Nat → Int32) (cGps : Nat → Int32) (kk : (Int32 × Int32 × Int32 × Int32) → Option (Int32 × Int32 × Int32 × Int32)) (ww : Int32 × Int32 × Int32 × Int32) : Option (Int32 × Int32 × Int32 × Int32) :=
  match ww with
  | (v2_1, v3_2, v4_3, v5_4) => (if cCnt ≤ v5_4 then (some (v2_1, v3_2, v4_3, v5_4)) else ((lp (fX0_closestTwo_L29 cCnt cOpn cGps v5_4) FU (v2_1, v3_2, v4_3, (v5_4 + (1 : Int32)))).bind fun (ov2_5, ov3_6, ov4_7, ov6_8) => (kk (ov2_5, ov3_6, ov4_7, (v5_4 + (1 : Int32))))))
def fX0_closestTwo (cCnt : Int32) (cOpn : Nat → Int32) (cGps : Nat → Int32) (p0 : Int32) : Option (Int32) :=
  ((lp (fX0_closestTwo_L11 cCnt cOpn cGps) FU ((1000000 : Int32), (-1 : Int32), (-1 : Int32), (0 : Int32))).bind fun (ov2_1, ov3_2, ov4_3, ov5_4) => (if ov3_2 = (-1 : Int32) then (some (-1 : Int32)) else (if p0 = 0 then (some ov2_1) else (if p0 = (1 : Int32) then (some ov3_2) else (some ov4_3)))))
set_option maxRecDepth 100000 in
set_option maxHeartbeats 4000000 in
theorem ctX0_closestTwo (l : Launch) (D : va_G) (cI cB cZ : ClassId) (ad : Nat → Nat) (cBad cFul cCnt cOpc cStp cTsz cRcn cPlc cFlt cVil cLsz : Int32) (cRts cLns cOpn cGps cTrl cWgt cRch cByt cWds cFst cSnd cSgn : Nat → Int32) (p0 : Int32) (rv : Int32) (hf : fX0_closestTwo cCnt cOpn cGps p0 = some rv) : Met l yX0_closestTwo wsX0_closestTwo (rmN 1 23) (PR D (tyL cI cB cZ) (wC cI cB cZ ad cBad cFul cCnt cOpc cStp cTsz cRcn cPlc cFlt cVil cLsz cRts cLns cOpn cGps cTrl cWgt cRch cByt cWds cFst cSnd cSgn) [.ref (ad 9), .int p0]) (SI rv) 0 0 (fun _ => False) := by
  refine mk_met cX0_closestTwo 7 (some .int) (by decide) rfl (Nat.le_of_ble_eq_true rfl) ?_
  intro p e s m args below meth c ls hx hb hr hlk hml hown hts hPK hl
  obtain ⟨hP, hK⟩ := hPK
  replace hl : lv_has ls 7 [(0, .ref (ad 9)), (1, .int p0)] := hl
  replace hown : s.vm.findClass RX0 = some m.cls := hown
  have hiX0 : ∀ w ∈ wsX00, w ∈ wsX0_closestTwo := fun w h => List.mem_cons_of_mem _ (List.mem_append_left _ (List.mem_append_right _ h))
  have hiX1 : ∀ w ∈ wsX10, w ∈ wsX0_closestTwo := fun w h => List.mem_cons_of_mem _ (List.mem_append_right _ h)
  unfold fX0_closestTwo at hf
  refine lv_ldc (v := (1000000 : Int32)) hx hb hown (hts _ (List.mem_of_getElem? (i := 1) rfl)) dX0_closestTwo_0 ?_
  refine lv_istore_n (lv' := [(2, .int (1000000 : Int32)), (0, .ref (ad 9)), (1, .int p0)]) hx hb dX0_closestTwo_2 rfl hl (by decide) rfl (fun ls hl => ?_)
  refine lv_iconst (v := (-1 : Int32)) hx hb dX0_closestTwo_3 (by decide) ?_
  refine lv_istore_n (lv' := [(3, .int (-1 : Int32)), (2, .int (1000000 : Int32)), (0, .ref (ad 9)), (1, .int p0)]) hx hb dX0_closestTwo_4 rfl hl (by decide) rfl (fun ls hl => ?_)
  refine lv_iconst (v := (-1 : Int32)) hx hb dX0_closestTwo_5 (by decide) ?_
  refine lv_istore (lv' := [(4, .int (-1 : Int32)), (3, .int (-1 : Int32)), (2, .int (1000000 : Int32)), (0, .ref (ad 9)), (1, .int p0)]) hx hb dX0_closestTwo_6 hl (by decide) rfl (fun ls hl => ?_)
  refine lv_iconst (v := (0 : Int32)) hx hb dX0_closestTwo_8 (by decide) ?_
  refine lv_istore (lv' := [(5, .int (0 : Int32)), (4, .int (-1 : Int32)), (3, .int (-1 : Int32)), (2, .int (1000000 : Int32)), (0, .ref (ad 9)), (1, .int p0)]) hx hb dX0_closestTwo_9 hl (by decide) rfl (fun ls hl => ?_)
  have hL11 : ∀ (n : Nat) (v2_1 : Int32) (v3_2 : Int32) (v4_3 : Int32) (v5_4 : Int32) (ov2_1 : Int32) (ov3_2 : Int32) (ov4_3 : Int32) (ov5_4 : Int32) (ls : Array Slot), lp (fX0_closestTwo_L11 cCnt cOpn cGps) n (v2_1, v3_2, v4_3, v5_4) = some (ov2_1, ov3_2, ov4_3, ov5_4) → lv_has ls 7 [(0, .ref (ad 9)), (1, .int p0), (2, .int v2_1), (3, .int v3_2), (4, .int v4_3), (5, .int v5_4)] → (∀ (ls : Array Slot), lv_has ls 7 [(0, .ref (ad 9)), (1, .int p0), (2, .int ov2_1), (3, .int ov3_2), (4, .int ov4_3), (5, .int ov5_4)] → W p l e (rmN 1 23) s m args below meth c s.heap [] 0 0 (MQ below (SI rv) args s 0 0 (fun _ => False)) (F0 m 113 ls [])) → W p l e (rmN 1 23) s m args below meth c s.heap [] 0 0 (MQ below (SI rv) args s 0 0 (fun _ => False)) (F0 m 11 ls []) := by
    intro n
    induction n with
    | zero => intro v2_1 v3_2 v4_3 v5_4 ov2_1 ov3_2 ov4_3 ov5_4 ls hf; exact (lp_0 hf).elim
    | succ n ih =>
      intro v2_1 v3_2 v4_3 v5_4 ov2_1 ov3_2 ov4_3 ov5_4 ls hf hl hE
      replace hf := lp_s hf
      dsimp only [fX0_closestTwo_L11] at hf
      refine lv_iload hx hb dX0_closestTwo_11 (lv_at hl 5 rfl) ?_
      refine lv_aload_n hx hb dX0_closestTwo_13 rfl (lv_at hl 0 rfl) ?_
      refine va_get (ci := 0) (v := .ref (ad 1)) (C := RX0) (T := TX0) (N := 2) hx hb hts hiX0 hown hK hP 9 rfl rfl 0 (by decide) (hts _ (List.mem_of_getElem? (i := 2) rfl)) (fun _ h9 => h9) rfl dX0_closestTwo_14 ?_
      refine va_get (ci := 1) (v := .int cCnt) (C := RX1) (T := TX1) (N := 6) hx hb hts hiX1 hown hK hP 1 rfl rfl 4 (by decide) (hts _ (List.mem_of_getElem? (i := 3) rfl)) (fun _ h9 => h9) rfl dX0_closestTwo_17 ?_
      refine lv_icmp_ge (tgt := 113) hx hb dX0_closestTwo_20 (by decide) (fun hc => ?_) (fun hc => ?_)
      · replace hf := (if_pos hc).symm.trans hf
        cases hf
        exact hE _ (lv_sub hl [0, 1, 2, 3, 4, 5] rfl)
      · replace hf := (if_neg hc).symm.trans hf
        refine lv_iload hx hb dX0_closestTwo_23 (lv_at hl 5 rfl) ?_
        refine lv_iconst (v := (1 : Int32)) hx hb dX0_closestTwo_25 (by decide) ?_
        refine lv_iadd hx hb dX0_closestTwo_26 ?_
        refine lv_istore (lv' := [(6, .int (v5_4 + (1 : Int32))), (0, .ref (ad 9)), (1, .int p0), (2, .int v2_1), (3, .int v3_2), (4, .int v4_3), (5, .int v5_4)]) hx hb dX0_closestTwo_27 hl (by decide) rfl (fun ls hl => ?_)
        have hL29 : ∀ (n : Nat) (v2_5 : Int32) (v3_6 : Int32) (v4_7 : Int32) (v6_8 : Int32) (ov2_5 : Int32) (ov3_6 : Int32) (ov4_7 : Int32) (ov6_8 : Int32) (ls : Array Slot), lp (fX0_closestTwo_L29 cCnt cOpn cGps v5_4) n (v2_5, v3_6, v4_7, v6_8) = some (ov2_5, ov3_6, ov4_7, ov6_8) → lv_has ls 7 [(0, .ref (ad 9)), (1, .int p0), (2, .int v2_5), (3, .int v3_6), (4, .int v4_7), (5, .int v5_4), (6, .int v6_8)] → (∀ (ls : Array Slot), lv_has ls 7 [(0, .ref (ad 9)), (1, .int p0), (2, .int ov2_5), (3, .int ov3_6), (4, .int ov4_7), (5, .int v5_4), (6, .int ov6_8)] → W p l e (rmN 1 23) s m args below meth c s.heap [] 0 0 (MQ below (SI rv) args s 0 0 (fun _ => False)) (F0 m 107 ls [])) → W p l e (rmN 1 23) s m args below meth c s.heap [] 0 0 (MQ below (SI rv) args s 0 0 (fun _ => False)) (F0 m 29 ls []) := by
          intro n
          induction n with
          | zero => intro v2_5 v3_6 v4_7 v6_8 ov2_5 ov3_6 ov4_7 ov6_8 ls hf; exact (lp_0 hf).elim
          | succ n ih =>
            intro v2_5 v3_6 v4_7 v6_8 ov2_5 ov3_6 ov4_7 ov6_8 ls hf hl hE
            replace hf := lp_s hf
            dsimp only [fX0_closestTwo_L29] at hf
            refine lv_iload hx hb dX0_closestTwo_29 (lv_at hl 6 rfl) ?_
            refine lv_aload_n hx hb dX0_closestTwo_31 rfl (lv_at hl 0 rfl) ?_
            refine va_get (ci := 0) (v := .ref (ad 1)) (C := RX0) (T := TX0) (N := 2) hx hb hts hiX0 hown hK hP 9 rfl rfl 0 (by decide) (hts _ (List.mem_of_getElem? (i := 2) rfl)) (fun _ h9 => h9) rfl dX0_closestTwo_32 ?_
            refine va_get (ci := 1) (v := .int cCnt) (C := RX1) (T := TX1) (N := 6) hx hb hts hiX1 hown hK hP 1 rfl rfl 4 (by decide) (hts _ (List.mem_of_getElem? (i := 3) rfl)) (fun _ h9 => h9) rfl dX0_closestTwo_35 ?_
            refine lv_icmp_ge (tgt := 107) hx hb dX0_closestTwo_38 (by decide) (fun hc => ?_) (fun hc => ?_)
            · replace hf := (if_pos hc).symm.trans hf
              cases hf
              exact hE _ (lv_sub hl [0, 1, 2, 3, 4, 5, 6] rfl)
            · replace hf := (if_neg hc).symm.trans hf
              refine lv_aload_n hx hb dX0_closestTwo_41 rfl (lv_at hl 0 rfl) ?_
              refine va_get (ci := 0) (v := .ref (ad 1)) (C := RX0) (T := TX0) (N := 2) hx hb hts hiX0 hown hK hP 9 rfl rfl 0 (by decide) (hts _ (List.mem_of_getElem? (i := 2) rfl)) (fun _ h9 => h9) rfl dX0_closestTwo_42 ?_
              refine va_get (ci := 1) (v := .ref (ad 4)) (C := RX1) (T := TX1) (N := 6) hx hb hts hiX1 hown hK hP 1 rfl rfl 2 (by decide) (hts _ (List.mem_of_getElem? (i := 4) rfl)) (fun _ h9 => h9) rfl dX0_closestTwo_45 ?_
              refine lv_iload hx hb dX0_closestTwo_48 (lv_at hl 5 rfl) ?_
              obtain ⟨hg, hf⟩ := og hf
              refine va_zald hx hb hK hP 4 2 rfl rfl (gI_in hg) dX0_closestTwo_50 ?_
              have hJ101 : ∀ (v2_9 : Int32) (v3_10 : Int32) (v4_11 : Int32) (ls : Array Slot), fX0_closestTwo_J101 v6_8 (lp (fX0_closestTwo_L29 cCnt cOpn cGps v5_4) n) v2_9 v3_10 v4_11 = some (ov2_5, ov3_6, ov4_7, ov6_8) → lv_has ls 7 [(0, .ref (ad 9)), (1, .int p0), (2, .int v2_9), (3, .int v3_10), (4, .int v4_11), (5, .int v5_4), (6, .int v6_8)] → W p l e (rmN 1 23) s m args below meth c s.heap [] 0 0 (MQ below (SI rv) args s 0 0 (fun _ => False)) (F0 m 101 ls []) := by
                intro v2_9 v3_10 v4_11 ls hf hl
                unfold fX0_closestTwo_J101 at hf
                refine lv_iinc (v := (v6_8 + (1 : Int32))) (lv' := [(6, .int (v6_8 + (1 : Int32))), (0, .ref (ad 9)), (1, .int p0), (2, .int v2_9), (3, .int v3_10), (4, .int v4_11), (5, .int v5_4)]) hx hb dX0_closestTwo_101 hl (k := 6) rfl rfl (by decide) rfl (fun ls hl => ?_)
                refine lv_goto (tgt := 29) hx hb dX0_closestTwo_104 (by decide) ?_
                exact ih _ _ _ _ _ _ _ _ _ hf (lv_sub hl [1, 2, 3, 4, 5, 6, 0] rfl) hE
              refine lv_if_eq (tgt := 101) hx hb dX0_closestTwo_51 (by decide) (fun hc => ?_) (fun hc => ?_)
              · replace hf := (if_pos hc).symm.trans hf
                exact hJ101 _ _ _ _ hf (lv_sub hl [0, 1, 2, 3, 4, 5, 6] rfl)
              · replace hf := (if_neg hc).symm.trans hf
                refine lv_aload_n hx hb dX0_closestTwo_54 rfl (lv_at hl 0 rfl) ?_
                refine va_get (ci := 0) (v := .ref (ad 1)) (C := RX0) (T := TX0) (N := 2) hx hb hts hiX0 hown hK hP 9 rfl rfl 0 (by decide) (hts _ (List.mem_of_getElem? (i := 2) rfl)) (fun _ h9 => h9) rfl dX0_closestTwo_55 ?_
                refine va_get (ci := 1) (v := .ref (ad 4)) (C := RX1) (T := TX1) (N := 6) hx hb hts hiX1 hown hK hP 1 rfl rfl 2 (by decide) (hts _ (List.mem_of_getElem? (i := 4) rfl)) (fun _ h9 => h9) rfl dX0_closestTwo_58 ?_
                refine lv_iload hx hb dX0_closestTwo_61 (lv_at hl 6 rfl) ?_
                obtain ⟨hg, hf⟩ := og hf
                refine va_zald hx hb hK hP 4 2 rfl rfl (gI_in hg) dX0_closestTwo_63 ?_
                refine lv_if_eq (tgt := 101) hx hb dX0_closestTwo_64 (by decide) (fun hc => ?_) (fun hc => ?_)
                · replace hf := (if_pos hc).symm.trans hf
                  exact hJ101 _ _ _ _ hf (lv_sub hl [0, 1, 2, 3, 4, 5, 6] rfl)
                · replace hf := (if_neg hc).symm.trans hf
                  refine lv_aload_n hx hb dX0_closestTwo_67 rfl (lv_at hl 0 rfl) ?_
                  refine va_get (ci := 0) (v := .ref (ad 1)) (C := RX0) (T := TX0) (N := 2) hx hb hts hiX0 hown hK hP 9 rfl rfl 0 (by decide) (hts _ (List.mem_of_getElem? (i := 2) rfl)) (fun _ h9 => h9) rfl dX0_closestTwo_68 ?_
                  refine lv_iload hx hb dX0_closestTwo_71 (lv_at hl 5 rfl) ?_
                  refine lv_iload hx hb dX0_closestTwo_73 (lv_at hl 6 rfl) ?_
                  obtain ⟨r_12, hq, hf⟩ := ob hf
                  try dsimp only at hf
                  refine rcV 1 1 (As := [.int v5_4, .int v6_8]) (rest := []) ⟨hx, hb, hml, hown, hts⟩ (ctX1_gap l D cI cB cZ ad cBad cFul cCnt cOpc cStp cTsz cRcn cPlc cFlt cVil cLsz cRts cLns cOpn cGps cTrl cWgt cRch cByt cWds cFst cSnd cSgn v5_4 v6_8 r_12 hq) (cwV 2 hts gX0_closestTwo_X1_gap rfl rfl rfl (by decide +kernel) ⟨Nat.le_of_ble_eq_true rfl, Nat.le_of_ble_eq_true rfl⟩) hK hP rfl rfl rfl hl.1 rfl (Nat.le_of_ble_eq_true rfl) dX0_closestTwo_75 ⟨Nat.zero_le _, Nat.zero_le _⟩ ?_
                  refine lv_iload_n hx hb dX0_closestTwo_78 rfl (lv_at hl 2 rfl) ?_
                  refine lv_icmp_ge (tgt := 101) hx hb dX0_closestTwo_79 (by decide) (fun hc => ?_) (fun hc => ?_)
                  · replace hf := (if_pos hc).symm.trans hf
                    exact hJ101 _ _ _ _ hf (lv_sub hl [0, 1, 2, 3, 4, 5, 6] rfl)
                  · replace hf := (if_neg hc).symm.trans hf
                    refine lv_aload_n hx hb dX0_closestTwo_82 rfl (lv_at hl 0 rfl) ?_
                    refine va_get (ci := 0) (v := .ref (ad 1)) (C := RX0) (T := TX0) (N := 2) hx hb hts hiX0 hown hK hP 9 rfl rfl 0 (by decide) (hts _ (List.mem_of_getElem? (i := 2) rfl)) (fun _ h9 => h9) rfl dX0_closestTwo_83 ?_
                    refine lv_iload hx hb dX0_closestTwo_86 (lv_at hl 5 rfl) ?_
                    refine lv_iload hx hb dX0_closestTwo_88 (lv_at hl 6 rfl) ?_
                    obtain ⟨r_13, hq, hf⟩ := ob hf
                    try dsimp only at hf
                    refine rcV 1 1 (As := [.int v5_4, .int v6_8]) (rest := []) ⟨hx, hb, hml, hown, hts⟩ (ctX1_gap l D cI cB cZ ad cBad cFul cCnt cOpc cStp cTsz cRcn cPlc cFlt cVil cLsz cRts cLns cOpn cGps cTrl cWgt cRch cByt cWds cFst cSnd cSgn v5_4 v6_8 r_13 hq) (cwV 2 hts gX0_closestTwo_X1_gap rfl rfl rfl (by decide +kernel) ⟨Nat.le_of_ble_eq_true rfl, Nat.le_of_ble_eq_true rfl⟩) hK hP rfl rfl rfl hl.1 rfl (Nat.le_of_ble_eq_true rfl) dX0_closestTwo_90 ⟨Nat.zero_le _, Nat.zero_le _⟩ ?_
                    refine lv_istore_n (lv' := [(2, .int r_13), (0, .ref (ad 9)), (1, .int p0), (3, .int v3_6), (4, .int v4_7), (5, .int v5_4), (6, .int v6_8)]) hx hb dX0_closestTwo_93 rfl hl (by decide) rfl (fun ls hl => ?_)
                    refine lv_iload hx hb dX0_closestTwo_94 (lv_at hl 5 rfl) ?_
                    refine lv_istore_n (lv' := [(3, .int v5_4), (2, .int r_13), (0, .ref (ad 9)), (1, .int p0), (4, .int v4_7), (5, .int v5_4), (6, .int v6_8)]) hx hb dX0_closestTwo_96 rfl hl (by decide) rfl (fun ls hl => ?_)
                    refine lv_iload hx hb dX0_closestTwo_97 (lv_at hl 6 rfl) ?_
                    refine lv_istore (lv' := [(4, .int v6_8), (3, .int v5_4), (2, .int r_13), (0, .ref (ad 9)), (1, .int p0), (5, .int v5_4), (6, .int v6_8)]) hx hb dX0_closestTwo_99 hl (by decide) rfl (fun ls hl => ?_)
                    exact hJ101 _ _ _ _ hf (lv_sub hl [3, 4, 2, 1, 0, 5, 6] rfl)
        obtain ⟨⟨ov2_5, ov3_6, ov4_7, ov6_8⟩, hq, hf⟩ := ob hf
        try dsimp only at hf
        refine hL29 FU _ _ _ _ ov2_5 ov3_6 ov4_7 ov6_8 ls hq (lv_sub hl [1, 2, 3, 4, 5, 6, 0] rfl) (fun ls hl => ?_)
        refine lv_iinc (v := (v5_4 + (1 : Int32))) (lv' := [(5, .int (v5_4 + (1 : Int32))), (0, .ref (ad 9)), (1, .int p0), (2, .int ov2_5), (3, .int ov3_6), (4, .int ov4_7), (6, .int ov6_8)]) hx hb dX0_closestTwo_107 hl (k := 5) rfl rfl (by decide) rfl (fun ls hl => ?_)
        refine lv_goto (tgt := 11) hx hb dX0_closestTwo_110 (by decide) ?_
        exact ih _ _ _ _ _ _ _ _ _ hf (lv_sub hl [1, 2, 3, 4, 5, 0] rfl) hE
  obtain ⟨⟨ov2_1, ov3_2, ov4_3, ov5_4⟩, hq, hf⟩ := ob hf
  try dsimp only at hf
  refine hL11 FU _ _ _ _ ov2_1 ov3_2 ov4_3 ov5_4 ls hq (lv_sub hl [4, 5, 3, 2, 1, 0] rfl) (fun ls hl => ?_)
  refine lv_iload_n hx hb dX0_closestTwo_113 rfl (lv_at hl 3 rfl) ?_
  refine lv_iconst (v := (-1 : Int32)) hx hb dX0_closestTwo_114 (by decide) ?_
  refine lv_icmp_ne (tgt := 120) hx hb dX0_closestTwo_115 (by decide) (fun hc => ?_) (fun hc => ?_)
  · replace hf := (if_neg hc).symm.trans hf
    refine lv_iload_n hx hb dX0_closestTwo_120 rfl (lv_at hl 1 rfl) ?_
    refine lv_if_ne (tgt := 128) hx hb dX0_closestTwo_121 (by decide) (fun hc => ?_) (fun hc => ?_)
    · replace hf := (if_neg hc).symm.trans hf
      refine lv_iload_n hx hb dX0_closestTwo_128 rfl (lv_at hl 1 rfl) ?_
      refine lv_iconst (v := (1 : Int32)) hx hb dX0_closestTwo_129 (by decide) ?_
      refine lv_icmp_ne (tgt := 137) hx hb dX0_closestTwo_130 (by decide) (fun hc => ?_) (fun hc => ?_)
      · replace hf := (if_neg hc).symm.trans hf
        refine lv_iload hx hb dX0_closestTwo_137 (lv_at hl 4 rfl) ?_
        exact re_i hx hb hr hlk dX0_closestTwo_139 hf
      · replace hf := (if_pos hc).symm.trans hf
        refine lv_iload_n hx hb dX0_closestTwo_133 rfl (lv_at hl 3 rfl) ?_
        refine lv_goto (tgt := 139) hx hb dX0_closestTwo_134 (by decide) ?_
        exact re_i hx hb hr hlk dX0_closestTwo_139 hf
    · replace hf := (if_pos hc).symm.trans hf
      refine lv_iload_n hx hb dX0_closestTwo_124 rfl (lv_at hl 2 rfl) ?_
      refine lv_goto (tgt := 139) hx hb dX0_closestTwo_125 (by decide) ?_
      exact re_i hx hb hr hlk dX0_closestTwo_139 hf
  · replace hf := (if_pos hc).symm.trans hf
    refine lv_iconst (v := (-1 : Int32)) hx hb dX0_closestTwo_118 (by decide) ?_
    exact re_i hx hb hr hlk dX0_closestTwo_119 hf
