def fX6_walk_L12 (cCnt : Int32) (cRts : Nat → Int32) (kk : (Int32 × Int32 × Int32 × Int32 × (Nat → Int32)) → Option (Int32 × Int32 × Int32 × Int32 × (Nat → Int32))) (ww : Int32 × Int32 × Int32 × Int32 × (Nat → Int32)) : Option (Int32 × Int32 × Int32 × Int32 × (Nat → Int32)) :=
  match ww with
  | (v3_1, v4_2, v5_3, v6_4, wcTrl_5) => (if v3_1 = v4_2 then (some (v3_1, v4_2, v5_3, v6_4, wcTrl_5)) else ((fX1_has cCnt v3_1).bind fun r_6 => (if r_6 = 0 then (some (v3_1, v4_2, v5_3, v6_4, wcTrl_5)) else ((fX1_has cCnt v4_2).bind fun r_7 => (if r_7 = 0 then (some (v3_1, v4_2, v5_3, v6_4, wcTrl_5)) else (if v6_4 ≤ (v5_3 + (1 : Int32)) then (some (v3_1, v4_2, v5_3, v6_4, wcTrl_5)) else (if v3_1 ≤ v4_2 then (if gI (v6_4 + (-1 : Int32)) 60 then (if gI v4_2 60 then (kk (v3_1, (cRts (v4_2).toNatClampNeg), v5_3, (v6_4 + (-1 : Int32)), (upd wcTrl_5 (v6_4 + (-1 : Int32)).toNatClampNeg v4_2))) else none) else none) else (if gI v5_3 60 then (if gI v3_1 60 then (kk ((cRts (v3_1).toNatClampNeg), v4_2, (v5_3 + (1 : Int32)), v6_4, (upd wcTrl_5 (v5_3).toNatClampNeg v3_1))) else none) else none))))))))
def fX6_walk_L122  (kk : (Int32 × Int32 × (Nat → Int32)) → Option (Int32 × Int32 × (Nat → Int32))) (ww : Int32 × Int32 × (Nat → Int32)) : Option (Int32 × Int32 × (Nat → Int32)) :=
  match ww with
  | (v5_8, v7_9, wcTrl_10) => (if (60 : Int32) ≤ v7_9 then (some (v5_8, v7_9, wcTrl_10)) else (if v7_9 < v5_8 then (some (v5_8, v7_9, wcTrl_10)) else (if gI v7_9 60 then (if gI v5_8 60 then (kk ((v5_8 + (1 : Int32)), (v7_9 + (1 : Int32)), (upd wcTrl_10 (v5_8).toNatClampNeg (wcTrl_10 (v7_9).toNatClampNeg)))) else none) else none)))
def fX6_walk (cCnt : Int32) (cStp : Int32) (cRts : Nat → Int32) (cTrl : Nat → Int32) (p0 : Int32) (p1 : Int32) : Option (Int32 × (Nat → Int32)) :=
  ((lp (fX6_walk_L12 cCnt cRts) FU (p0, p1, (0 : Int32), (60 : Int32), cTrl)).bind fun (ov3_1, ov4_2, ov5_3, ov6_4, owcTrl_5) => (if gI ov5_3 60 then ((lp fX6_walk_L122 FU ((ov5_3 + (1 : Int32)), ov6_4, (upd owcTrl_5 (ov5_3).toNatClampNeg ov3_1))).bind fun (ov5_8, ov7_9, owcTrl_10) => (some (ov5_8, owcTrl_10))) else none))
set_option maxRecDepth 100000 in
set_option maxHeartbeats 4000000 in
theorem ctX6_walk (l : Launch) (D : va_G) (cI cB cZ : ClassId) (ad : Nat → Nat) (A : Nat → Prop) (hAD : AD A ad 20) (cBad cFul cCnt cOpc cStp cTsz cRcn cPlc cFlt cVil cLsz : Int32) (cRts cLns cOpn cGps cTrl cWgt cRch cByt cWds cFst cSnd cSgn : Nat → Int32) (p0 : Int32) (p1 : Int32) (zcStp : Int32) (zcTrl : Nat → Int32) (hf : fX6_walk cCnt cStp cRts cTrl p0 p1 = some (zcStp, zcTrl)) : Met l yX6_walk wsX6_walk (rmN 1 21) (PR D (tyL cI cB cZ) (wC cI cB cZ ad cBad cFul cCnt cOpc cStp cTsz cRcn cPlc cFlt cVil cLsz cRts cLns cOpn cGps cTrl cWgt cRch cByt cWds cFst cSnd cSgn) [.ref (ad 6), .int p0, .int p1]) (QV D (wC cI cB cZ ad cBad cFul cCnt cOpc zcStp cTsz cRcn cPlc cFlt cVil cLsz cRts cLns cOpn cGps zcTrl cWgt cRch cByt cWds cFst cSnd cSgn) A) 0 0 A := by
  refine mk_met cX6_walk 8 none (by decide) rfl (Nat.le_of_ble_eq_true rfl) ?_
  intro p e s m args below meth c ls hx hb hr hlk hml hown hts hPK hl
  obtain ⟨hP, hK⟩ := hPK
  replace hl : lv_has ls 8 [(0, .ref (ad 6)), (1, .int p0), (2, .int p1)] := hl
  replace hown : s.vm.findClass RX6 = some m.cls := hown
  have hiX1 : ∀ w ∈ wsX10, w ∈ wsX6_walk := fun w h => List.mem_cons_of_mem _ (List.mem_append_right _ h)
  have hiX6 : ∀ w ∈ wsX60, w ∈ wsX6_walk := fun w h => List.mem_cons_of_mem _ (List.mem_append_left _ (List.mem_append_right _ h))
  have hS : va_S A s.heap s.heap [] := va_S.rf
  unfold fX6_walk at hf
  refine lv_iload_n hx hb dX6_walk_0 rfl (lv_at hl 1 rfl) ?_
  refine lv_istore_n (lv' := [(3, .int p0), (0, .ref (ad 6)), (1, .int p0), (2, .int p1)]) hx hb dX6_walk_1 rfl hl (by decide) rfl (fun ls hl => ?_)
  refine lv_iload_n hx hb dX6_walk_2 rfl (lv_at hl 3 rfl) ?_
  refine lv_istore (lv' := [(4, .int p1), (3, .int p0), (0, .ref (ad 6)), (1, .int p0), (2, .int p1)]) hx hb dX6_walk_3 hl (by decide) rfl (fun ls hl => ?_)
  refine lv_iconst (v := (0 : Int32)) hx hb dX6_walk_5 (by decide) ?_
  refine lv_istore (lv' := [(5, .int (0 : Int32)), (4, .int p1), (3, .int p0), (0, .ref (ad 6)), (1, .int p0), (2, .int p1)]) hx hb dX6_walk_6 hl (by decide) rfl (fun ls hl => ?_)
  refine lv_bipush (v := (60 : Int32)) hx hb dX6_walk_8 (by decide) ?_
  refine lv_istore (lv' := [(6, .int (60 : Int32)), (5, .int (0 : Int32)), (4, .int p1), (3, .int p0), (0, .ref (ad 6)), (1, .int p0), (2, .int p1)]) hx hb dX6_walk_10 hl (by decide) rfl (fun ls hl => ?_)
  have hL12 : ∀ (n : Nat) (v3_1 : Int32) (v4_2 : Int32) (v5_3 : Int32) (v6_4 : Int32) (wcTrl_5 : Nat → Int32) (ov3_1 : Int32) (ov4_2 : Int32) (ov5_3 : Int32) (ov6_4 : Int32) (owcTrl_5 : Nat → Int32) (H : Heap) (locs : List Loc) (ls : Array Slot), lp (fX6_walk_L12 cCnt cRts) n (v3_1, v4_2, v5_3, v6_4, wcTrl_5) = some (ov3_1, ov4_2, ov5_3, ov6_4, owcTrl_5) → va_P D vwCl (wC cI cB cZ ad cBad cFul cCnt cOpc cStp cTsz cRcn cPlc cFlt cVil cLsz cRts cLns cOpn cGps wcTrl_5 cWgt cRch cByt cWds cFst cSnd cSgn) H → va_S A s.heap H locs → lv_has ls 8 [(0, .ref (ad 6)), (1, .int p0), (2, .int p1), (3, .int v3_1), (4, .int v4_2), (5, .int v5_3), (6, .int v6_4)] → (∀ (H : Heap) (locs : List Loc) (ls : Array Slot), va_P D vwCl (wC cI cB cZ ad cBad cFul cCnt cOpc cStp cTsz cRcn cPlc cFlt cVil cLsz cRts cLns cOpn cGps owcTrl_5 cWgt cRch cByt cWds cFst cSnd cSgn) H → va_S A s.heap H locs → lv_has ls 8 [(0, .ref (ad 6)), (1, .int p0), (2, .int p1), (3, .int ov3_1), (4, .int ov4_2), (5, .int ov5_3), (6, .int ov6_4)] → W p l e (rmN 1 21) s m args below meth c H locs 0 0 (MQ below (QV D (wC cI cB cZ ad cBad cFul cCnt cOpc zcStp cTsz cRcn cPlc cFlt cVil cLsz cRts cLns cOpn cGps zcTrl cWgt cRch cByt cWds cFst cSnd cSgn) A) args s 0 0 A) (F0 m 107 ls [])) → W p l e (rmN 1 21) s m args below meth c H locs 0 0 (MQ below (QV D (wC cI cB cZ ad cBad cFul cCnt cOpc zcStp cTsz cRcn cPlc cFlt cVil cLsz cRts cLns cOpn cGps zcTrl cWgt cRch cByt cWds cFst cSnd cSgn) A) args s 0 0 A) (F0 m 12 ls []) := by
    intro n
    induction n with
    | zero => intro v3_1 v4_2 v5_3 v6_4 wcTrl_5 ov3_1 ov4_2 ov5_3 ov6_4 owcTrl_5 H locs ls hf; exact (lp_0 hf).elim
    | succ n ih =>
      intro v3_1 v4_2 v5_3 v6_4 wcTrl_5 ov3_1 ov4_2 ov5_3 ov6_4 owcTrl_5 H locs ls hf hP hS hl hE
      replace hf := lp_s hf
      dsimp only [fX6_walk_L12] at hf
      refine lv_iload_n hx hb dX6_walk_12 rfl (lv_at hl 3 rfl) ?_
      refine lv_iload hx hb dX6_walk_13 (lv_at hl 4 rfl) ?_
      refine lv_icmp_eq (tgt := 107) hx hb dX6_walk_15 (by decide) (fun hc => ?_) (fun hc => ?_)
      · replace hf := (if_pos hc).symm.trans hf
        cases hf
        exact hE _ _ _ hP hS (lv_sub hl [0, 1, 2, 3, 4, 5, 6] rfl)
      · replace hf := (if_neg hc).symm.trans hf
        refine lv_aload_n hx hb dX6_walk_18 rfl (lv_at hl 0 rfl) ?_
        refine va_get (ci := 6) (v := .ref (ad 1)) (C := RX6) (T := TX6) (N := 4) hx hb hts hiX6 hown hK hP 6 rfl rfl 0 (by decide) (hts _ (List.mem_of_getElem? (i := 1) rfl)) (fun _ h9 => h9) rfl dX6_walk_19 ?_
        refine lv_iload_n hx hb dX6_walk_22 rfl (lv_at hl 3 rfl) ?_
        obtain ⟨r_6, hq, hf⟩ := ob hf
        try dsimp only at hf
        refine rcV 1 1 (As := [.int v3_1]) (rest := []) ⟨hx, hb, hml, hown, hts⟩ (ctX1_has l D cI cB cZ ad cBad cFul cCnt cOpc cStp cTsz cRcn cPlc cFlt cVil cLsz cRts cLns cOpn cGps wcTrl_5 cWgt cRch cByt cWds cFst cSnd cSgn v3_1 r_6 hq) (cwV 1 hts gX6_walk_X1_has rfl rfl rfl (by decide +kernel) ⟨Nat.le_of_ble_eq_true rfl, Nat.le_of_ble_eq_true rfl⟩) hK hP rfl rfl rfl hl.1 rfl (Nat.le_of_ble_eq_true rfl) dX6_walk_23 ⟨Nat.zero_le _, Nat.zero_le _⟩ ?_
        refine lv_if_eq (tgt := 107) hx hb dX6_walk_26 (by decide) (fun hc => ?_) (fun hc => ?_)
        · replace hf := (if_pos hc).symm.trans hf
          cases hf
          exact hE _ _ _ hP hS (lv_sub hl [0, 1, 2, 3, 4, 5, 6] rfl)
        · replace hf := (if_neg hc).symm.trans hf
          refine lv_aload_n hx hb dX6_walk_29 rfl (lv_at hl 0 rfl) ?_
          refine va_get (ci := 6) (v := .ref (ad 1)) (C := RX6) (T := TX6) (N := 4) hx hb hts hiX6 hown hK hP 6 rfl rfl 0 (by decide) (hts _ (List.mem_of_getElem? (i := 1) rfl)) (fun _ h9 => h9) rfl dX6_walk_30 ?_
          refine lv_iload hx hb dX6_walk_33 (lv_at hl 4 rfl) ?_
          obtain ⟨r_7, hq, hf⟩ := ob hf
          try dsimp only at hf
          refine rcV 1 1 (As := [.int v4_2]) (rest := []) ⟨hx, hb, hml, hown, hts⟩ (ctX1_has l D cI cB cZ ad cBad cFul cCnt cOpc cStp cTsz cRcn cPlc cFlt cVil cLsz cRts cLns cOpn cGps wcTrl_5 cWgt cRch cByt cWds cFst cSnd cSgn v4_2 r_7 hq) (cwV 1 hts gX6_walk_X1_has rfl rfl rfl (by decide +kernel) ⟨Nat.le_of_ble_eq_true rfl, Nat.le_of_ble_eq_true rfl⟩) hK hP rfl rfl rfl hl.1 rfl (Nat.le_of_ble_eq_true rfl) dX6_walk_35 ⟨Nat.zero_le _, Nat.zero_le _⟩ ?_
          refine lv_if_eq (tgt := 107) hx hb dX6_walk_38 (by decide) (fun hc => ?_) (fun hc => ?_)
          · replace hf := (if_pos hc).symm.trans hf
            cases hf
            exact hE _ _ _ hP hS (lv_sub hl [0, 1, 2, 3, 4, 5, 6] rfl)
          · replace hf := (if_neg hc).symm.trans hf
            refine lv_iload hx hb dX6_walk_41 (lv_at hl 5 rfl) ?_
            refine lv_iconst (v := (1 : Int32)) hx hb dX6_walk_43 (by decide) ?_
            refine lv_iadd hx hb dX6_walk_44 ?_
            refine lv_iload hx hb dX6_walk_45 (lv_at hl 6 rfl) ?_
            refine lv_icmp_ge (tgt := 107) hx hb dX6_walk_47 (by decide) (fun hc => ?_) (fun hc => ?_)
            · replace hf := (if_pos hc).symm.trans hf
              cases hf
              exact hE _ _ _ hP hS (lv_sub hl [0, 1, 2, 3, 4, 5, 6] rfl)
            · replace hf := (if_neg hc).symm.trans hf
              refine lv_iload_n hx hb dX6_walk_50 rfl (lv_at hl 3 rfl) ?_
              refine lv_iload hx hb dX6_walk_51 (lv_at hl 4 rfl) ?_
              refine lv_icmp_le (tgt := 80) hx hb dX6_walk_53 (by decide) (fun hc => ?_) (fun hc => ?_)
              · replace hf := (if_pos hc).symm.trans hf
                refine lv_iinc (v := (v6_4 + (-1 : Int32))) (lv' := [(6, .int (v6_4 + (-1 : Int32))), (0, .ref (ad 6)), (1, .int p0), (2, .int p1), (3, .int v3_1), (4, .int v4_2), (5, .int v5_3)]) hx hb dX6_walk_80 hl (k := 6) rfl rfl (by decide) rfl (fun ls hl => ?_)
                refine lv_aload_n hx hb dX6_walk_83 rfl (lv_at hl 1 rfl) ?_
                refine va_get (ci := 6) (v := .ref (ad 7)) (C := RX6) (T := TX6) (N := 4) hx hb hts hiX6 hown hK hP 6 rfl rfl 1 (by decide) (hts _ (List.mem_of_getElem? (i := 2) rfl)) (fun _ h9 => h9) rfl dX6_walk_84 ?_
                refine lv_iload hx hb dX6_walk_87 (lv_at hl 0 rfl) ?_
                refine lv_iload hx hb dX6_walk_89 (lv_at hl 5 rfl) ?_
                obtain ⟨hg, hf⟩ := og hf
                refine va_iast hx hb hK hP (wC_D hAD) hS 7 0 rfl rfl (gI_in hg) dX6_walk_91 (fun H locs hP _ hS => ?_)
                have hP : va_P D vwCl (wC cI cB cZ ad cBad cFul cCnt cOpc cStp cTsz cRcn cPlc cFlt cVil cLsz cRts cLns cOpn cGps (upd wcTrl_5 (v6_4 + (-1 : Int32)).toNatClampNeg v4_2) cWgt cRch cByt cWds cFst cSnd cSgn) H := hP
                refine lv_aload_n hx hb dX6_walk_92 rfl (lv_at hl 1 rfl) ?_
                refine va_get (ci := 6) (v := .ref (ad 1)) (C := RX6) (T := TX6) (N := 4) hx hb hts hiX6 hown hK hP 6 rfl rfl 0 (by decide) (hts _ (List.mem_of_getElem? (i := 1) rfl)) (fun _ h9 => h9) rfl dX6_walk_93 ?_
                refine va_get (ci := 1) (v := .ref (ad 2)) (C := RX1) (T := TX1) (N := 6) hx hb hts hiX1 hown hK hP 1 rfl rfl 0 (by decide) (hts _ (List.mem_of_getElem? (i := 3) rfl)) (fun _ h9 => h9) rfl dX6_walk_96 ?_
                refine lv_iload hx hb dX6_walk_99 (lv_at hl 5 rfl) ?_
                obtain ⟨hg, hf⟩ := og hf
                refine va_iald hx hb hK hP 2 0 rfl rfl (gI_in hg) dX6_walk_101 ?_
                refine lv_istore (lv' := [(4, .int (cRts (v4_2).toNatClampNeg)), (6, .int (v6_4 + (-1 : Int32))), (0, .ref (ad 6)), (1, .int p0), (2, .int p1), (3, .int v3_1), (5, .int v5_3)]) hx hb dX6_walk_102 hl (by decide) rfl (fun ls hl => ?_)
                refine lv_goto (tgt := 12) hx hb dX6_walk_104 (by decide) ?_
                exact ih _ _ _ _ _ _ _ _ _ _ _ _ _ hf hP hS (lv_sub hl [2, 3, 4, 5, 0, 6, 1] rfl) hE
              · replace hf := (if_neg hc).symm.trans hf
                refine lv_aload_n hx hb dX6_walk_56 rfl (lv_at hl 0 rfl) ?_
                refine va_get (ci := 6) (v := .ref (ad 7)) (C := RX6) (T := TX6) (N := 4) hx hb hts hiX6 hown hK hP 6 rfl rfl 1 (by decide) (hts _ (List.mem_of_getElem? (i := 2) rfl)) (fun _ h9 => h9) rfl dX6_walk_57 ?_
                refine lv_iload hx hb dX6_walk_60 (lv_at hl 5 rfl) ?_
                refine lv_iload_n hx hb dX6_walk_62 rfl (lv_at hl 3 rfl) ?_
                obtain ⟨hg, hf⟩ := og hf
                refine va_iast hx hb hK hP (wC_D hAD) hS 7 0 rfl rfl (gI_in hg) dX6_walk_63 (fun H locs hP _ hS => ?_)
                have hP : va_P D vwCl (wC cI cB cZ ad cBad cFul cCnt cOpc cStp cTsz cRcn cPlc cFlt cVil cLsz cRts cLns cOpn cGps (upd wcTrl_5 (v5_3).toNatClampNeg v3_1) cWgt cRch cByt cWds cFst cSnd cSgn) H := hP
                refine lv_iinc (v := (v5_3 + (1 : Int32))) (lv' := [(5, .int (v5_3 + (1 : Int32))), (0, .ref (ad 6)), (1, .int p0), (2, .int p1), (3, .int v3_1), (4, .int v4_2), (6, .int v6_4)]) hx hb dX6_walk_64 hl (k := 5) rfl rfl (by decide) rfl (fun ls hl => ?_)
                refine lv_aload_n hx hb dX6_walk_67 rfl (lv_at hl 1 rfl) ?_
                refine va_get (ci := 6) (v := .ref (ad 1)) (C := RX6) (T := TX6) (N := 4) hx hb hts hiX6 hown hK hP 6 rfl rfl 0 (by decide) (hts _ (List.mem_of_getElem? (i := 1) rfl)) (fun _ h9 => h9) rfl dX6_walk_68 ?_
                refine va_get (ci := 1) (v := .ref (ad 2)) (C := RX1) (T := TX1) (N := 6) hx hb hts hiX1 hown hK hP 1 rfl rfl 0 (by decide) (hts _ (List.mem_of_getElem? (i := 3) rfl)) (fun _ h9 => h9) rfl dX6_walk_71 ?_
                refine lv_iload_n hx hb dX6_walk_74 rfl (lv_at hl 4 rfl) ?_
                obtain ⟨hg, hf⟩ := og hf
                refine va_iald hx hb hK hP 2 0 rfl rfl (gI_in hg) dX6_walk_75 ?_
                refine lv_istore_n (lv' := [(3, .int (cRts (v3_1).toNatClampNeg)), (5, .int (v5_3 + (1 : Int32))), (0, .ref (ad 6)), (1, .int p0), (2, .int p1), (4, .int v4_2), (6, .int v6_4)]) hx hb dX6_walk_76 rfl hl (by decide) rfl (fun ls hl => ?_)
                refine lv_goto (tgt := 12) hx hb dX6_walk_77 (by decide) ?_
                exact ih _ _ _ _ _ _ _ _ _ _ _ _ _ hf hP hS (lv_sub hl [2, 3, 4, 0, 5, 1, 6] rfl) hE
  obtain ⟨⟨ov3_1, ov4_2, ov5_3, ov6_4, owcTrl_5⟩, hq, hf⟩ := ob hf
  try dsimp only at hf
  refine hL12 FU _ _ _ _ _ ov3_1 ov4_2 ov5_3 ov6_4 owcTrl_5 _ _ ls hq hP hS (lv_sub hl [4, 5, 6, 3, 2, 1, 0] rfl) (fun H locs ls hP hS hl => ?_)
  refine lv_aload_n hx hb dX6_walk_107 rfl (lv_at hl 0 rfl) ?_
  refine va_get (ci := 6) (v := .ref (ad 7)) (C := RX6) (T := TX6) (N := 4) hx hb hts hiX6 hown hK hP 6 rfl rfl 1 (by decide) (hts _ (List.mem_of_getElem? (i := 2) rfl)) (fun _ h9 => h9) rfl dX6_walk_108 ?_
  refine lv_iload hx hb dX6_walk_111 (lv_at hl 5 rfl) ?_
  refine lv_iload_n hx hb dX6_walk_113 rfl (lv_at hl 3 rfl) ?_
  obtain ⟨hg, hf⟩ := og hf
  refine va_iast hx hb hK hP (wC_D hAD) hS 7 0 rfl rfl (gI_in hg) dX6_walk_114 (fun H locs hP _ hS => ?_)
  have hP : va_P D vwCl (wC cI cB cZ ad cBad cFul cCnt cOpc cStp cTsz cRcn cPlc cFlt cVil cLsz cRts cLns cOpn cGps (upd owcTrl_5 (ov5_3).toNatClampNeg ov3_1) cWgt cRch cByt cWds cFst cSnd cSgn) H := hP
  refine lv_iinc (v := (ov5_3 + (1 : Int32))) (lv' := [(5, .int (ov5_3 + (1 : Int32))), (0, .ref (ad 6)), (1, .int p0), (2, .int p1), (3, .int ov3_1), (4, .int ov4_2), (6, .int ov6_4)]) hx hb dX6_walk_115 hl (k := 5) rfl rfl (by decide) rfl (fun ls hl => ?_)
  refine lv_iload hx hb dX6_walk_118 (lv_at hl 6 rfl) ?_
  refine lv_istore (lv' := [(7, .int ov6_4), (5, .int (ov5_3 + (1 : Int32))), (0, .ref (ad 6)), (1, .int p0), (2, .int p1), (3, .int ov3_1), (4, .int ov4_2), (6, .int ov6_4)]) hx hb dX6_walk_120 hl (by decide) rfl (fun ls hl => ?_)
  have hL122 : ∀ (n : Nat) (v5_8 : Int32) (v7_9 : Int32) (wcTrl_10 : Nat → Int32) (ov5_8 : Int32) (ov7_9 : Int32) (owcTrl_10 : Nat → Int32) (H : Heap) (locs : List Loc) (ls : Array Slot), lp fX6_walk_L122 n (v5_8, v7_9, wcTrl_10) = some (ov5_8, ov7_9, owcTrl_10) → va_P D vwCl (wC cI cB cZ ad cBad cFul cCnt cOpc cStp cTsz cRcn cPlc cFlt cVil cLsz cRts cLns cOpn cGps wcTrl_10 cWgt cRch cByt cWds cFst cSnd cSgn) H → va_S A s.heap H locs → lv_has ls 8 [(0, .ref (ad 6)), (1, .int p0), (2, .int p1), (3, .int ov3_1), (4, .int ov4_2), (5, .int v5_8), (6, .int ov6_4), (7, .int v7_9)] → (∀ (H : Heap) (locs : List Loc) (ls : Array Slot), va_P D vwCl (wC cI cB cZ ad cBad cFul cCnt cOpc cStp cTsz cRcn cPlc cFlt cVil cLsz cRts cLns cOpn cGps owcTrl_10 cWgt cRch cByt cWds cFst cSnd cSgn) H → va_S A s.heap H locs → lv_has ls 8 [(0, .ref (ad 6)), (1, .int p0), (2, .int p1), (3, .int ov3_1), (4, .int ov4_2), (5, .int ov5_8), (6, .int ov6_4), (7, .int ov7_9)] → W p l e (rmN 1 21) s m args below meth c H locs 0 0 (MQ below (QV D (wC cI cB cZ ad cBad cFul cCnt cOpc zcStp cTsz cRcn cPlc cFlt cVil cLsz cRts cLns cOpn cGps zcTrl cWgt cRch cByt cWds cFst cSnd cSgn) A) args s 0 0 A) (F0 m 159 ls [])) → W p l e (rmN 1 21) s m args below meth c H locs 0 0 (MQ below (QV D (wC cI cB cZ ad cBad cFul cCnt cOpc zcStp cTsz cRcn cPlc cFlt cVil cLsz cRts cLns cOpn cGps zcTrl cWgt cRch cByt cWds cFst cSnd cSgn) A) args s 0 0 A) (F0 m 122 ls []) := by
    intro n
    induction n with
    | zero => intro v5_8 v7_9 wcTrl_10 ov5_8 ov7_9 owcTrl_10 H locs ls hf; exact (lp_0 hf).elim
    | succ n ih =>
      intro v5_8 v7_9 wcTrl_10 ov5_8 ov7_9 owcTrl_10 H locs ls hf hP hS hl hE
      replace hf := lp_s hf
      dsimp only [fX6_walk_L122] at hf
      refine lv_iload hx hb dX6_walk_122 (lv_at hl 7 rfl) ?_
      refine lv_bipush (v := (60 : Int32)) hx hb dX6_walk_124 (by decide) ?_
      refine lv_icmp_ge (tgt := 159) hx hb dX6_walk_126 (by decide) (fun hc => ?_) (fun hc => ?_)
      · replace hf := (if_pos hc).symm.trans hf
        cases hf
        exact hE _ _ _ hP hS (lv_sub hl [0, 1, 2, 3, 4, 5, 6, 7] rfl)
      · replace hf := (if_neg hc).symm.trans hf
        refine lv_iload hx hb dX6_walk_129 (lv_at hl 5 rfl) ?_
        refine lv_iload hx hb dX6_walk_131 (lv_at hl 7 rfl) ?_
        refine lv_icmp_gt (tgt := 159) hx hb dX6_walk_133 (by decide) (fun hc => ?_) (fun hc => ?_)
        · replace hf := (if_pos hc).symm.trans hf
          cases hf
          exact hE _ _ _ hP hS (lv_sub hl [0, 1, 2, 3, 4, 5, 6, 7] rfl)
        · replace hf := (if_neg hc).symm.trans hf
          refine lv_aload_n hx hb dX6_walk_136 rfl (lv_at hl 0 rfl) ?_
          refine va_get (ci := 6) (v := .ref (ad 7)) (C := RX6) (T := TX6) (N := 4) hx hb hts hiX6 hown hK hP 6 rfl rfl 1 (by decide) (hts _ (List.mem_of_getElem? (i := 2) rfl)) (fun _ h9 => h9) rfl dX6_walk_137 ?_
          refine lv_iload hx hb dX6_walk_140 (lv_at hl 5 rfl) ?_
          refine lv_aload_n hx hb dX6_walk_142 rfl (lv_at hl 0 rfl) ?_
          refine va_get (ci := 6) (v := .ref (ad 7)) (C := RX6) (T := TX6) (N := 4) hx hb hts hiX6 hown hK hP 6 rfl rfl 1 (by decide) (hts _ (List.mem_of_getElem? (i := 2) rfl)) (fun _ h9 => h9) rfl dX6_walk_143 ?_
          refine lv_iload hx hb dX6_walk_146 (lv_at hl 7 rfl) ?_
          obtain ⟨hg, hf⟩ := og hf
          refine va_iald hx hb hK hP 7 0 rfl rfl (gI_in hg) dX6_walk_148 ?_
          obtain ⟨hg, hf⟩ := og hf
          refine va_iast hx hb hK hP (wC_D hAD) hS 7 0 rfl rfl (gI_in hg) dX6_walk_149 (fun H locs hP _ hS => ?_)
          have hP : va_P D vwCl (wC cI cB cZ ad cBad cFul cCnt cOpc cStp cTsz cRcn cPlc cFlt cVil cLsz cRts cLns cOpn cGps (upd wcTrl_10 (v5_8).toNatClampNeg (wcTrl_10 (v7_9).toNatClampNeg)) cWgt cRch cByt cWds cFst cSnd cSgn) H := hP
          refine lv_iinc (v := (v5_8 + (1 : Int32))) (lv' := [(5, .int (v5_8 + (1 : Int32))), (0, .ref (ad 6)), (1, .int p0), (2, .int p1), (3, .int ov3_1), (4, .int ov4_2), (6, .int ov6_4), (7, .int v7_9)]) hx hb dX6_walk_150 hl (k := 5) rfl rfl (by decide) rfl (fun ls hl => ?_)
          refine lv_iinc (v := (v7_9 + (1 : Int32))) (lv' := [(7, .int (v7_9 + (1 : Int32))), (5, .int (v5_8 + (1 : Int32))), (0, .ref (ad 6)), (1, .int p0), (2, .int p1), (3, .int ov3_1), (4, .int ov4_2), (6, .int ov6_4)]) hx hb dX6_walk_153 hl (k := 7) rfl rfl (by decide) rfl (fun ls hl => ?_)
          refine lv_goto (tgt := 122) hx hb dX6_walk_156 (by decide) ?_
          exact ih _ _ _ _ _ _ _ _ _ hf hP hS (lv_sub hl [2, 3, 4, 5, 6, 1, 7, 0] rfl) hE
  obtain ⟨⟨ov5_8, ov7_9, owcTrl_10⟩, hq, hf⟩ := ob hf
  try dsimp only at hf
  refine hL122 FU _ _ _ ov5_8 ov7_9 owcTrl_10 _ _ ls hq hP hS (lv_sub hl [2, 3, 4, 5, 6, 1, 7, 0] rfl) (fun H locs ls hP hS hl => ?_)
  refine lv_aload_n hx hb dX6_walk_159 rfl (lv_at hl 0 rfl) ?_
  refine lv_iload hx hb dX6_walk_160 (lv_at hl 5 rfl) ?_
  refine va_put (ci := 6) (v := .int ov5_8) (ty := .int) (C := RX6) (T := TX6) (N := 4) hx hb hts hiX6 tyX6 tyX6_ok nmX6 hown hK hP (wC_D hAD) hS 6 rfl rfl 2 (by decide) (hts _ (List.mem_of_getElem? (i := 4) rfl)) (fun _ h9 => h9) rfl (tyX6_ok 2 (by decide)) rfl rfl (Nat.le_of_ble_eq_true rfl) dX6_walk_162 (fun H locs hP _ hS => ?_)
  have hP : va_P D vwCl (wC cI cB cZ ad cBad cFul cCnt cOpc ov5_8 cTsz cRcn cPlc cFlt cVil cLsz cRts cLns cOpn cGps owcTrl_10 cWgt cRch cByt cWds cFst cSnd cSgn) H := hP
  obtain ⟨e0, hz1⟩ := Prod.mk.inj (Option.some.inj hf)
  subst e0
  subst hz1
  exact rm_v hx hb hr hlk hP hS dX6_walk_165

def fX6_span_J71 (v6_8 : Int32) (kk : (Int32 × Int32 × Int32 × Int32) → Option (Int32 × Int32 × Int32 × Int32)) (v2_10 : Int32) (v3_11 : Int32) (v4_12 : Int32) : Option (Int32 × Int32 × Int32 × Int32) :=
  (kk (v2_10, v3_11, v4_12, (v6_8 + (1 : Int32))))
def fX6_span_L25 (cCnt : Int32) (cGps : Nat → Int32) (v5_4 : Int32) (kk : (Int32 × Int32 × Int32 × Int32) → Option (Int32 × Int32 × Int32 × Int32)) (ww : Int32 × Int32 × Int32 × Int32) : Option (Int32 × Int32 × Int32 × Int32) :=
  match ww with
  | (v2_5, v3_6, v4_7, v6_8) => (if cCnt ≤ v6_8 then (some (v2_5, v3_6, v4_7, v6_8)) else ((fX1_gap cGps v5_4 v6_8).bind fun r_9 => (if r_9 ≤ v2_5 then (fX6_span_J71 v6_8 kk v2_5 v3_6 v4_7) else ((fX1_gap cGps v5_4 v6_8).bind fun r_13 => (fX6_span_J71 v6_8 kk r_13 v5_4 v6_8)))))
def fX6_span_L10 (cCnt : Int32) (cGps : Nat → Int32) (kk : (Int32 × Int32 × Int32 × Int32) → Option (Int32 × Int32 × Int32 × Int32)) (ww : Int32 × Int32 × Int32 × Int32) : Option (Int32 × Int32 × Int32 × Int32) :=
  match ww with
  | (v2_1, v3_2, v4_3, v5_4) => (if cCnt ≤ v5_4 then (some (v2_1, v3_2, v4_3, v5_4)) else ((lp (fX6_span_L25 cCnt cGps v5_4) FU (v2_1, v3_2, v4_3, (0 : Int32))).bind fun (ov2_5, ov3_6, ov4_7, ov6_8) => (kk (ov2_5, ov3_6, ov4_7, (v5_4 + (1 : Int32))))))
def fX6_span (cCnt : Int32) (cGps : Nat → Int32) (p0 : Int32) : Option (Int32) :=
  ((lp (fX6_span_L10 cCnt cGps) FU ((0 : Int32), (0 : Int32), (0 : Int32), (0 : Int32))).bind fun (ov2_1, ov3_2, ov4_3, ov5_4) => (if p0 = 0 then (some ov2_1) else (if p0 = (1 : Int32) then (some ov3_2) else (some ov4_3))))
set_option maxRecDepth 100000 in
set_option maxHeartbeats 4000000 in
theorem ctX6_span (l : Launch) (D : va_G) (cI cB cZ : ClassId) (ad : Nat → Nat) (cBad cFul cCnt cOpc cStp cTsz cRcn cPlc cFlt cVil cLsz : Int32) (cRts cLns cOpn cGps cTrl cWgt cRch cByt cWds cFst cSnd cSgn : Nat → Int32) (p0 : Int32) (rv : Int32) (hf : fX6_span cCnt cGps p0 = some rv) : Met l yX6_span wsX6_span (rmN 1 23) (PR D (tyL cI cB cZ) (wC cI cB cZ ad cBad cFul cCnt cOpc cStp cTsz cRcn cPlc cFlt cVil cLsz cRts cLns cOpn cGps cTrl cWgt cRch cByt cWds cFst cSnd cSgn) [.ref (ad 6), .int p0]) (SI rv) 0 0 (fun _ => False) := by
  refine mk_met cX6_span 7 (some .int) (by decide) rfl (Nat.le_of_ble_eq_true rfl) ?_
  intro p e s m args below meth c ls hx hb hr hlk hml hown hts hPK hl
  obtain ⟨hP, hK⟩ := hPK
  replace hl : lv_has ls 7 [(0, .ref (ad 6)), (1, .int p0)] := hl
  replace hown : s.vm.findClass RX6 = some m.cls := hown
  have hiX1 : ∀ w ∈ wsX10, w ∈ wsX6_span := fun w h => List.mem_cons_of_mem _ (List.mem_append_right _ h)
  have hiX6 : ∀ w ∈ wsX60, w ∈ wsX6_span := fun w h => List.mem_cons_of_mem _ (List.mem_append_left _ (List.mem_append_right _ h))
  unfold fX6_span at hf
  refine lv_iconst (v := (0 : Int32)) hx hb dX6_span_0 (by decide) ?_
  refine lv_istore_n (lv' := [(2, .int (0 : Int32)), (0, .ref (ad 6)), (1, .int p0)]) hx hb dX6_span_1 rfl hl (by decide) rfl (fun ls hl => ?_)
  refine lv_iconst (v := (0 : Int32)) hx hb dX6_span_2 (by decide) ?_
  refine lv_istore_n (lv' := [(3, .int (0 : Int32)), (2, .int (0 : Int32)), (0, .ref (ad 6)), (1, .int p0)]) hx hb dX6_span_3 rfl hl (by decide) rfl (fun ls hl => ?_)
  refine lv_iconst (v := (0 : Int32)) hx hb dX6_span_4 (by decide) ?_
  refine lv_istore (lv' := [(4, .int (0 : Int32)), (3, .int (0 : Int32)), (2, .int (0 : Int32)), (0, .ref (ad 6)), (1, .int p0)]) hx hb dX6_span_5 hl (by decide) rfl (fun ls hl => ?_)
  refine lv_iconst (v := (0 : Int32)) hx hb dX6_span_7 (by decide) ?_
  refine lv_istore (lv' := [(5, .int (0 : Int32)), (4, .int (0 : Int32)), (3, .int (0 : Int32)), (2, .int (0 : Int32)), (0, .ref (ad 6)), (1, .int p0)]) hx hb dX6_span_8 hl (by decide) rfl (fun ls hl => ?_)
  have hL10 : ∀ (n : Nat) (v2_1 : Int32) (v3_2 : Int32) (v4_3 : Int32) (v5_4 : Int32) (ov2_1 : Int32) (ov3_2 : Int32) (ov4_3 : Int32) (ov5_4 : Int32) (ls : Array Slot), lp (fX6_span_L10 cCnt cGps) n (v2_1, v3_2, v4_3, v5_4) = some (ov2_1, ov3_2, ov4_3, ov5_4) → lv_has ls 7 [(0, .ref (ad 6)), (1, .int p0), (2, .int v2_1), (3, .int v3_2), (4, .int v4_3), (5, .int v5_4)] → (∀ (ls : Array Slot), lv_has ls 7 [(0, .ref (ad 6)), (1, .int p0), (2, .int ov2_1), (3, .int ov3_2), (4, .int ov4_3), (5, .int ov5_4)] → W p l e (rmN 1 23) s m args below meth c s.heap [] 0 0 (MQ below (SI rv) args s 0 0 (fun _ => False)) (F0 m 83 ls [])) → W p l e (rmN 1 23) s m args below meth c s.heap [] 0 0 (MQ below (SI rv) args s 0 0 (fun _ => False)) (F0 m 10 ls []) := by
    intro n
    induction n with
    | zero => intro v2_1 v3_2 v4_3 v5_4 ov2_1 ov3_2 ov4_3 ov5_4 ls hf; exact (lp_0 hf).elim
    | succ n ih =>
      intro v2_1 v3_2 v4_3 v5_4 ov2_1 ov3_2 ov4_3 ov5_4 ls hf hl hE
      replace hf := lp_s hf
      dsimp only [fX6_span_L10] at hf
      refine lv_iload hx hb dX6_span_10 (lv_at hl 5 rfl) ?_
      refine lv_aload_n hx hb dX6_span_12 rfl (lv_at hl 0 rfl) ?_
      refine va_get (ci := 6) (v := .ref (ad 1)) (C := RX6) (T := TX6) (N := 4) hx hb hts hiX6 hown hK hP 6 rfl rfl 0 (by decide) (hts _ (List.mem_of_getElem? (i := 1) rfl)) (fun _ h9 => h9) rfl dX6_span_13 ?_
      refine va_get (ci := 1) (v := .int cCnt) (C := RX1) (T := TX1) (N := 6) hx hb hts hiX1 hown hK hP 1 rfl rfl 4 (by decide) (hts _ (List.mem_of_getElem? (i := 2) rfl)) (fun _ h9 => h9) rfl dX6_span_16 ?_
      refine lv_icmp_ge (tgt := 83) hx hb dX6_span_19 (by decide) (fun hc => ?_) (fun hc => ?_)
      · replace hf := (if_pos hc).symm.trans hf
        cases hf
        exact hE _ (lv_sub hl [0, 1, 2, 3, 4, 5] rfl)
      · replace hf := (if_neg hc).symm.trans hf
        refine lv_iconst (v := (0 : Int32)) hx hb dX6_span_22 (by decide) ?_
        refine lv_istore (lv' := [(6, .int (0 : Int32)), (0, .ref (ad 6)), (1, .int p0), (2, .int v2_1), (3, .int v3_2), (4, .int v4_3), (5, .int v5_4)]) hx hb dX6_span_23 hl (by decide) rfl (fun ls hl => ?_)
        have hL25 : ∀ (n : Nat) (v2_5 : Int32) (v3_6 : Int32) (v4_7 : Int32) (v6_8 : Int32) (ov2_5 : Int32) (ov3_6 : Int32) (ov4_7 : Int32) (ov6_8 : Int32) (ls : Array Slot), lp (fX6_span_L25 cCnt cGps v5_4) n (v2_5, v3_6, v4_7, v6_8) = some (ov2_5, ov3_6, ov4_7, ov6_8) → lv_has ls 7 [(0, .ref (ad 6)), (1, .int p0), (2, .int v2_5), (3, .int v3_6), (4, .int v4_7), (5, .int v5_4), (6, .int v6_8)] → (∀ (ls : Array Slot), lv_has ls 7 [(0, .ref (ad 6)), (1, .int p0), (2, .int ov2_5), (3, .int ov3_6), (4, .int ov4_7), (5, .int v5_4), (6, .int ov6_8)] → W p l e (rmN 1 23) s m args below meth c s.heap [] 0 0 (MQ below (SI rv) args s 0 0 (fun _ => False)) (F0 m 77 ls [])) → W p l e (rmN 1 23) s m args below meth c s.heap [] 0 0 (MQ below (SI rv) args s 0 0 (fun _ => False)) (F0 m 25 ls []) := by
          intro n
          induction n with
          | zero => intro v2_5 v3_6 v4_7 v6_8 ov2_5 ov3_6 ov4_7 ov6_8 ls hf; exact (lp_0 hf).elim
          | succ n ih =>
            intro v2_5 v3_6 v4_7 v6_8 ov2_5 ov3_6 ov4_7 ov6_8 ls hf hl hE
            replace hf := lp_s hf
            dsimp only [fX6_span_L25] at hf
            refine lv_iload hx hb dX6_span_25 (lv_at hl 6 rfl) ?_
            refine lv_aload_n hx hb dX6_span_27 rfl (lv_at hl 0 rfl) ?_
            refine va_get (ci := 6) (v := .ref (ad 1)) (C := RX6) (T := TX6) (N := 4) hx hb hts hiX6 hown hK hP 6 rfl rfl 0 (by decide) (hts _ (List.mem_of_getElem? (i := 1) rfl)) (fun _ h9 => h9) rfl dX6_span_28 ?_
            refine va_get (ci := 1) (v := .int cCnt) (C := RX1) (T := TX1) (N := 6) hx hb hts hiX1 hown hK hP 1 rfl rfl 4 (by decide) (hts _ (List.mem_of_getElem? (i := 2) rfl)) (fun _ h9 => h9) rfl dX6_span_31 ?_
            refine lv_icmp_ge (tgt := 77) hx hb dX6_span_34 (by decide) (fun hc => ?_) (fun hc => ?_)
            · replace hf := (if_pos hc).symm.trans hf
              cases hf
              exact hE _ (lv_sub hl [0, 1, 2, 3, 4, 5, 6] rfl)
            · replace hf := (if_neg hc).symm.trans hf
              refine lv_aload_n hx hb dX6_span_37 rfl (lv_at hl 0 rfl) ?_
              refine va_get (ci := 6) (v := .ref (ad 1)) (C := RX6) (T := TX6) (N := 4) hx hb hts hiX6 hown hK hP 6 rfl rfl 0 (by decide) (hts _ (List.mem_of_getElem? (i := 1) rfl)) (fun _ h9 => h9) rfl dX6_span_38 ?_
              refine lv_iload hx hb dX6_span_41 (lv_at hl 5 rfl) ?_
              refine lv_iload hx hb dX6_span_43 (lv_at hl 6 rfl) ?_
              obtain ⟨r_9, hq, hf⟩ := ob hf
              try dsimp only at hf
              refine rcV 1 1 (As := [.int v5_4, .int v6_8]) (rest := []) ⟨hx, hb, hml, hown, hts⟩ (ctX1_gap l D cI cB cZ ad cBad cFul cCnt cOpc cStp cTsz cRcn cPlc cFlt cVil cLsz cRts cLns cOpn cGps cTrl cWgt cRch cByt cWds cFst cSnd cSgn v5_4 v6_8 r_9 hq) (cwV 2 hts gX6_span_X1_gap rfl rfl rfl (by decide +kernel) ⟨Nat.le_of_ble_eq_true rfl, Nat.le_of_ble_eq_true rfl⟩) hK hP rfl rfl rfl hl.1 rfl (Nat.le_of_ble_eq_true rfl) dX6_span_45 ⟨Nat.zero_le _, Nat.zero_le _⟩ ?_
              refine lv_iload_n hx hb dX6_span_48 rfl (lv_at hl 2 rfl) ?_
              have hJ71 : ∀ (v2_10 : Int32) (v3_11 : Int32) (v4_12 : Int32) (ls : Array Slot), fX6_span_J71 v6_8 (lp (fX6_span_L25 cCnt cGps v5_4) n) v2_10 v3_11 v4_12 = some (ov2_5, ov3_6, ov4_7, ov6_8) → lv_has ls 7 [(0, .ref (ad 6)), (1, .int p0), (2, .int v2_10), (3, .int v3_11), (4, .int v4_12), (5, .int v5_4), (6, .int v6_8)] → W p l e (rmN 1 23) s m args below meth c s.heap [] 0 0 (MQ below (SI rv) args s 0 0 (fun _ => False)) (F0 m 71 ls []) := by
                intro v2_10 v3_11 v4_12 ls hf hl
                unfold fX6_span_J71 at hf
                refine lv_iinc (v := (v6_8 + (1 : Int32))) (lv' := [(6, .int (v6_8 + (1 : Int32))), (0, .ref (ad 6)), (1, .int p0), (2, .int v2_10), (3, .int v3_11), (4, .int v4_12), (5, .int v5_4)]) hx hb dX6_span_71 hl (k := 6) rfl rfl (by decide) rfl (fun ls hl => ?_)
                refine lv_goto (tgt := 25) hx hb dX6_span_74 (by decide) ?_
                exact ih _ _ _ _ _ _ _ _ _ hf (lv_sub hl [1, 2, 3, 4, 5, 6, 0] rfl) hE
              refine lv_icmp_le (tgt := 71) hx hb dX6_span_49 (by decide) (fun hc => ?_) (fun hc => ?_)
              · replace hf := (if_pos hc).symm.trans hf
                exact hJ71 _ _ _ _ hf (lv_sub hl [0, 1, 2, 3, 4, 5, 6] rfl)
              · replace hf := (if_neg hc).symm.trans hf
                refine lv_aload_n hx hb dX6_span_52 rfl (lv_at hl 0 rfl) ?_
                refine va_get (ci := 6) (v := .ref (ad 1)) (C := RX6) (T := TX6) (N := 4) hx hb hts hiX6 hown hK hP 6 rfl rfl 0 (by decide) (hts _ (List.mem_of_getElem? (i := 1) rfl)) (fun _ h9 => h9) rfl dX6_span_53 ?_
                refine lv_iload hx hb dX6_span_56 (lv_at hl 5 rfl) ?_
                refine lv_iload hx hb dX6_span_58 (lv_at hl 6 rfl) ?_
                obtain ⟨r_13, hq, hf⟩ := ob hf
                try dsimp only at hf
                refine rcV 1 1 (As := [.int v5_4, .int v6_8]) (rest := []) ⟨hx, hb, hml, hown, hts⟩ (ctX1_gap l D cI cB cZ ad cBad cFul cCnt cOpc cStp cTsz cRcn cPlc cFlt cVil cLsz cRts cLns cOpn cGps cTrl cWgt cRch cByt cWds cFst cSnd cSgn v5_4 v6_8 r_13 hq) (cwV 2 hts gX6_span_X1_gap rfl rfl rfl (by decide +kernel) ⟨Nat.le_of_ble_eq_true rfl, Nat.le_of_ble_eq_true rfl⟩) hK hP rfl rfl rfl hl.1 rfl (Nat.le_of_ble_eq_true rfl) dX6_span_60 ⟨Nat.zero_le _, Nat.zero_le _⟩ ?_
                refine lv_istore_n (lv' := [(2, .int r_13), (0, .ref (ad 6)), (1, .int p0), (3, .int v3_6), (4, .int v4_7), (5, .int v5_4), (6, .int v6_8)]) hx hb dX6_span_63 rfl hl (by decide) rfl (fun ls hl => ?_)
                refine lv_iload hx hb dX6_span_64 (lv_at hl 5 rfl) ?_
                refine lv_istore_n (lv' := [(3, .int v5_4), (2, .int r_13), (0, .ref (ad 6)), (1, .int p0), (4, .int v4_7), (5, .int v5_4), (6, .int v6_8)]) hx hb dX6_span_66 rfl hl (by decide) rfl (fun ls hl => ?_)
                refine lv_iload hx hb dX6_span_67 (lv_at hl 6 rfl) ?_
                refine lv_istore (lv' := [(4, .int v6_8), (3, .int v5_4), (2, .int r_13), (0, .ref (ad 6)), (1, .int p0), (5, .int v5_4), (6, .int v6_8)]) hx hb dX6_span_69 hl (by decide) rfl (fun ls hl => ?_)
                exact hJ71 _ _ _ _ hf (lv_sub hl [3, 4, 2, 1, 0, 5, 6] rfl)
        obtain ⟨⟨ov2_5, ov3_6, ov4_7, ov6_8⟩, hq, hf⟩ := ob hf
        try dsimp only at hf
        refine hL25 FU _ _ _ _ ov2_5 ov3_6 ov4_7 ov6_8 ls hq (lv_sub hl [1, 2, 3, 4, 5, 6, 0] rfl) (fun ls hl => ?_)
        refine lv_iinc (v := (v5_4 + (1 : Int32))) (lv' := [(5, .int (v5_4 + (1 : Int32))), (0, .ref (ad 6)), (1, .int p0), (2, .int ov2_5), (3, .int ov3_6), (4, .int ov4_7), (6, .int ov6_8)]) hx hb dX6_span_77 hl (k := 5) rfl rfl (by decide) rfl (fun ls hl => ?_)
        refine lv_goto (tgt := 10) hx hb dX6_span_80 (by decide) ?_
        exact ih _ _ _ _ _ _ _ _ _ hf (lv_sub hl [1, 2, 3, 4, 5, 0] rfl) hE
  obtain ⟨⟨ov2_1, ov3_2, ov4_3, ov5_4⟩, hq, hf⟩ := ob hf
  try dsimp only at hf
  refine hL10 FU _ _ _ _ ov2_1 ov3_2 ov4_3 ov5_4 ls hq (lv_sub hl [4, 5, 3, 2, 1, 0] rfl) (fun ls hl => ?_)
  refine lv_iload_n hx hb dX6_span_83 rfl (lv_at hl 1 rfl) ?_
  refine lv_if_ne (tgt := 91) hx hb dX6_span_84 (by decide) (fun hc => ?_) (fun hc => ?_)
  · replace hf := (if_neg hc).symm.trans hf
    refine lv_iload_n hx hb dX6_span_91 rfl (lv_at hl 1 rfl) ?_
    refine lv_iconst (v := (1 : Int32)) hx hb dX6_span_92 (by decide) ?_
    refine lv_icmp_ne (tgt := 100) hx hb dX6_span_93 (by decide) (fun hc => ?_) (fun hc => ?_)
    · replace hf := (if_neg hc).symm.trans hf
      refine lv_iload hx hb dX6_span_100 (lv_at hl 4 rfl) ?_
      exact re_i hx hb hr hlk dX6_span_102 hf
    · replace hf := (if_pos hc).symm.trans hf
      refine lv_iload_n hx hb dX6_span_96 rfl (lv_at hl 3 rfl) ?_
      refine lv_goto (tgt := 102) hx hb dX6_span_97 (by decide) ?_
      exact re_i hx hb hr hlk dX6_span_102 hf
  · replace hf := (if_pos hc).symm.trans hf
    refine lv_iload_n hx hb dX6_span_87 rfl (lv_at hl 2 rfl) ?_
    refine lv_goto (tgt := 102) hx hb dX6_span_88 (by decide) ?_
    exact re_i hx hb hr hlk dX6_span_102 hf

def fX6_weigh_L2 (cCnt : Int32) (kk : (Int32 × (Nat → Int32)) → Option (Int32 × (Nat → Int32))) (ww : Int32 × (Nat → Int32)) : Option (Int32 × (Nat → Int32)) :=
  match ww with
  | (v1_1, wcWgt_2) => (if cCnt ≤ v1_1 then (some (v1_1, wcWgt_2)) else (if gI v1_1 60 then (kk ((v1_1 + (1 : Int32)), (upd wcWgt_2 (v1_1).toNatClampNeg (1 : Int32)))) else none))
def fX6_weigh_J76 (v1_3 : Int32) (kk : (Int32 × (Nat → Int32)) → Option (Int32 × (Nat → Int32))) (wcWgt_6 : Nat → Int32) : Option (Int32 × (Nat → Int32)) :=
  (kk ((v1_3 + (-1 : Int32)), wcWgt_6))
def fX6_weigh_L36 (cCnt : Int32) (cRts : Nat → Int32) (kk : (Int32 × (Nat → Int32)) → Option (Int32 × (Nat → Int32))) (ww : Int32 × (Nat → Int32)) : Option (Int32 × (Nat → Int32)) :=
  match ww with
  | (v1_3, wcWgt_4) => (if v1_3 ≤ 0 then (some (v1_3, wcWgt_4)) else (if gI v1_3 60 then ((fX1_has cCnt (cRts (v1_3).toNatClampNeg)).bind fun r_5 => (if r_5 = 0 then (fX6_weigh_J76 v1_3 kk wcWgt_4) else (if gI (cRts (v1_3).toNatClampNeg) 60 then (if gI v1_3 60 then (if gI (cRts (v1_3).toNatClampNeg) 60 then (fX6_weigh_J76 v1_3 kk (upd wcWgt_4 (cRts (v1_3).toNatClampNeg).toNatClampNeg ((wcWgt_4 (cRts (v1_3).toNatClampNeg).toNatClampNeg) + (wcWgt_4 (v1_3).toNatClampNeg)))) else none) else none) else none))) else none))
def fX6_weigh (cCnt : Int32) (cRts : Nat → Int32) (cWgt : Nat → Int32)  : Option ((Nat → Int32)) :=
  ((lp (fX6_weigh_L2 cCnt) FU ((0 : Int32), cWgt)).bind fun (ov1_1, owcWgt_2) => ((lp (fX6_weigh_L36 cCnt cRts) FU ((cCnt - (1 : Int32)), owcWgt_2)).bind fun (ov1_3, owcWgt_4) => (some owcWgt_4)))
set_option maxRecDepth 100000 in
set_option maxHeartbeats 4000000 in
theorem ctX6_weigh (l : Launch) (D : va_G) (cI cB cZ : ClassId) (ad : Nat → Nat) (A : Nat → Prop) (hAD : AD A ad 20) (cBad cFul cCnt cOpc cStp cTsz cRcn cPlc cFlt cVil cLsz : Int32) (cRts cLns cOpn cGps cTrl cWgt cRch cByt cWds cFst cSnd cSgn : Nat → Int32)  (zcWgt : Nat → Int32) (hf : fX6_weigh cCnt cRts cWgt = some zcWgt) : Met l yX6_weigh wsX6_weigh (rmN 1 21) (PR D (tyL cI cB cZ) (wC cI cB cZ ad cBad cFul cCnt cOpc cStp cTsz cRcn cPlc cFlt cVil cLsz cRts cLns cOpn cGps cTrl cWgt cRch cByt cWds cFst cSnd cSgn) [.ref (ad 6)]) (QV D (wC cI cB cZ ad cBad cFul cCnt cOpc cStp cTsz cRcn cPlc cFlt cVil cLsz cRts cLns cOpn cGps cTrl zcWgt cRch cByt cWds cFst cSnd cSgn) A) 0 0 A := by
  refine mk_met cX6_weigh 3 none (by decide) rfl (Nat.le_of_ble_eq_true rfl) ?_
  intro p e s m args below meth c ls hx hb hr hlk hml hown hts hPK hl
  obtain ⟨hP, hK⟩ := hPK
  replace hl : lv_has ls 3 [(0, .ref (ad 6))] := hl
  replace hown : s.vm.findClass RX6 = some m.cls := hown
  have hiX1 : ∀ w ∈ wsX10, w ∈ wsX6_weigh := fun w h => List.mem_cons_of_mem _ (List.mem_append_right _ h)
  have hiX6 : ∀ w ∈ wsX60, w ∈ wsX6_weigh := fun w h => List.mem_cons_of_mem _ (List.mem_append_left _ (List.mem_append_right _ h))
  have hS : va_S A s.heap s.heap [] := va_S.rf
  unfold fX6_weigh at hf
  refine lv_iconst (v := (0 : Int32)) hx hb dX6_weigh_0 (by decide) ?_
  refine lv_istore_n (lv' := [(1, .int (0 : Int32)), (0, .ref (ad 6))]) hx hb dX6_weigh_1 rfl hl (by decide) rfl (fun ls hl => ?_)
  have hL2 : ∀ (n : Nat) (v1_1 : Int32) (wcWgt_2 : Nat → Int32) (ov1_1 : Int32) (owcWgt_2 : Nat → Int32) (H : Heap) (locs : List Loc) (ls : Array Slot), lp (fX6_weigh_L2 cCnt) n (v1_1, wcWgt_2) = some (ov1_1, owcWgt_2) → va_P D vwCl (wC cI cB cZ ad cBad cFul cCnt cOpc cStp cTsz cRcn cPlc cFlt cVil cLsz cRts cLns cOpn cGps cTrl wcWgt_2 cRch cByt cWds cFst cSnd cSgn) H → va_S A s.heap H locs → lv_has ls 3 [(0, .ref (ad 6)), (1, .int v1_1)] → (∀ (H : Heap) (locs : List Loc) (ls : Array Slot), va_P D vwCl (wC cI cB cZ ad cBad cFul cCnt cOpc cStp cTsz cRcn cPlc cFlt cVil cLsz cRts cLns cOpn cGps cTrl owcWgt_2 cRch cByt cWds cFst cSnd cSgn) H → va_S A s.heap H locs → lv_has ls 3 [(0, .ref (ad 6)), (1, .int ov1_1)] → W p l e (rmN 1 21) s m args below meth c H locs 0 0 (MQ below (QV D (wC cI cB cZ ad cBad cFul cCnt cOpc cStp cTsz cRcn cPlc cFlt cVil cLsz cRts cLns cOpn cGps cTrl zcWgt cRch cByt cWds cFst cSnd cSgn) A) args s 0 0 A) (F0 m 26 ls [])) → W p l e (rmN 1 21) s m args below meth c H locs 0 0 (MQ below (QV D (wC cI cB cZ ad cBad cFul cCnt cOpc cStp cTsz cRcn cPlc cFlt cVil cLsz cRts cLns cOpn cGps cTrl zcWgt cRch cByt cWds cFst cSnd cSgn) A) args s 0 0 A) (F0 m 2 ls []) := by
    intro n
    induction n with
    | zero => intro v1_1 wcWgt_2 ov1_1 owcWgt_2 H locs ls hf; exact (lp_0 hf).elim
    | succ n ih =>
      intro v1_1 wcWgt_2 ov1_1 owcWgt_2 H locs ls hf hP hS hl hE
      replace hf := lp_s hf
      dsimp only [fX6_weigh_L2] at hf
      refine lv_iload_n hx hb dX6_weigh_2 rfl (lv_at hl 1 rfl) ?_
      refine lv_aload_n hx hb dX6_weigh_3 rfl (lv_at hl 0 rfl) ?_
      refine va_get (ci := 6) (v := .ref (ad 1)) (C := RX6) (T := TX6) (N := 4) hx hb hts hiX6 hown hK hP 6 rfl rfl 0 (by decide) (hts _ (List.mem_of_getElem? (i := 1) rfl)) (fun _ h9 => h9) rfl dX6_weigh_4 ?_
      refine va_get (ci := 1) (v := .int cCnt) (C := RX1) (T := TX1) (N := 6) hx hb hts hiX1 hown hK hP 1 rfl rfl 4 (by decide) (hts _ (List.mem_of_getElem? (i := 2) rfl)) (fun _ h9 => h9) rfl dX6_weigh_7 ?_
      refine lv_icmp_ge (tgt := 26) hx hb dX6_weigh_10 (by decide) (fun hc => ?_) (fun hc => ?_)
      · replace hf := (if_pos hc).symm.trans hf
        cases hf
        exact hE _ _ _ hP hS (lv_sub hl [0, 1] rfl)
      · replace hf := (if_neg hc).symm.trans hf
        refine lv_aload_n hx hb dX6_weigh_13 rfl (lv_at hl 0 rfl) ?_
        refine va_get (ci := 6) (v := .ref (ad 8)) (C := RX6) (T := TX6) (N := 4) hx hb hts hiX6 hown hK hP 6 rfl rfl 3 (by decide) (hts _ (List.mem_of_getElem? (i := 3) rfl)) (fun _ h9 => h9) rfl dX6_weigh_14 ?_
        refine lv_iload_n hx hb dX6_weigh_17 rfl (lv_at hl 1 rfl) ?_
        refine lv_iconst (v := (1 : Int32)) hx hb dX6_weigh_18 (by decide) ?_
        obtain ⟨hg, hf⟩ := og hf
        refine va_iast hx hb hK hP (wC_D hAD) hS 8 0 rfl rfl (gI_in hg) dX6_weigh_19 (fun H locs hP _ hS => ?_)
        have hP : va_P D vwCl (wC cI cB cZ ad cBad cFul cCnt cOpc cStp cTsz cRcn cPlc cFlt cVil cLsz cRts cLns cOpn cGps cTrl (upd wcWgt_2 (v1_1).toNatClampNeg (1 : Int32)) cRch cByt cWds cFst cSnd cSgn) H := hP
        refine lv_iinc (v := (v1_1 + (1 : Int32))) (lv' := [(1, .int (v1_1 + (1 : Int32))), (0, .ref (ad 6))]) hx hb dX6_weigh_20 hl (k := 1) rfl rfl (by decide) rfl (fun ls hl => ?_)
        refine lv_goto (tgt := 2) hx hb dX6_weigh_23 (by decide) ?_
        exact ih _ _ _ _ _ _ _ hf hP hS (lv_sub hl [1, 0] rfl) hE
  obtain ⟨⟨ov1_1, owcWgt_2⟩, hq, hf⟩ := ob hf
  try dsimp only at hf
  refine hL2 FU _ _ ov1_1 owcWgt_2 _ _ ls hq hP hS (lv_sub hl [1, 0] rfl) (fun H locs ls hP hS hl => ?_)
  refine lv_aload_n hx hb dX6_weigh_26 rfl (lv_at hl 0 rfl) ?_
  refine va_get (ci := 6) (v := .ref (ad 1)) (C := RX6) (T := TX6) (N := 4) hx hb hts hiX6 hown hK hP 6 rfl rfl 0 (by decide) (hts _ (List.mem_of_getElem? (i := 1) rfl)) (fun _ h9 => h9) rfl dX6_weigh_27 ?_
  refine va_get (ci := 1) (v := .int cCnt) (C := RX1) (T := TX1) (N := 6) hx hb hts hiX1 hown hK hP 1 rfl rfl 4 (by decide) (hts _ (List.mem_of_getElem? (i := 2) rfl)) (fun _ h9 => h9) rfl dX6_weigh_30 ?_
  refine lv_iconst (v := (1 : Int32)) hx hb dX6_weigh_33 (by decide) ?_
  refine lv_isub hx hb dX6_weigh_34 ?_
  refine lv_istore_n (lv' := [(1, .int (cCnt - (1 : Int32))), (0, .ref (ad 6))]) hx hb dX6_weigh_35 rfl hl (by decide) rfl (fun ls hl => ?_)
  have hL36 : ∀ (n : Nat) (v1_3 : Int32) (wcWgt_4 : Nat → Int32) (ov1_3 : Int32) (owcWgt_4 : Nat → Int32) (H : Heap) (locs : List Loc) (ls : Array Slot), lp (fX6_weigh_L36 cCnt cRts) n (v1_3, wcWgt_4) = some (ov1_3, owcWgt_4) → va_P D vwCl (wC cI cB cZ ad cBad cFul cCnt cOpc cStp cTsz cRcn cPlc cFlt cVil cLsz cRts cLns cOpn cGps cTrl wcWgt_4 cRch cByt cWds cFst cSnd cSgn) H → va_S A s.heap H locs → lv_has ls 3 [(0, .ref (ad 6)), (1, .int v1_3)] → (∀ (H : Heap) (locs : List Loc) (ls : Array Slot), va_P D vwCl (wC cI cB cZ ad cBad cFul cCnt cOpc cStp cTsz cRcn cPlc cFlt cVil cLsz cRts cLns cOpn cGps cTrl owcWgt_4 cRch cByt cWds cFst cSnd cSgn) H → va_S A s.heap H locs → lv_has ls 3 [(0, .ref (ad 6)), (1, .int ov1_3)] → W p l e (rmN 1 21) s m args below meth c H locs 0 0 (MQ below (QV D (wC cI cB cZ ad cBad cFul cCnt cOpc cStp cTsz cRcn cPlc cFlt cVil cLsz cRts cLns cOpn cGps cTrl zcWgt cRch cByt cWds cFst cSnd cSgn) A) args s 0 0 A) (F0 m 82 ls [])) → W p l e (rmN 1 21) s m args below meth c H locs 0 0 (MQ below (QV D (wC cI cB cZ ad cBad cFul cCnt cOpc cStp cTsz cRcn cPlc cFlt cVil cLsz cRts cLns cOpn cGps cTrl zcWgt cRch cByt cWds cFst cSnd cSgn) A) args s 0 0 A) (F0 m 36 ls []) := by
    intro n
    induction n with
    | zero => intro v1_3 wcWgt_4 ov1_3 owcWgt_4 H locs ls hf; exact (lp_0 hf).elim
    | succ n ih =>
      intro v1_3 wcWgt_4 ov1_3 owcWgt_4 H locs ls hf hP hS hl hE
      replace hf := lp_s hf
      dsimp only [fX6_weigh_L36] at hf
      refine lv_iload_n hx hb dX6_weigh_36 rfl (lv_at hl 1 rfl) ?_
      refine lv_if_le (tgt := 82) hx hb dX6_weigh_37 (by decide) (fun hc => ?_) (fun hc => ?_)
      · replace hf := (if_pos hc).symm.trans hf
        cases hf
        exact hE _ _ _ hP hS (lv_sub hl [0, 1] rfl)
      · replace hf := (if_neg hc).symm.trans hf
        refine lv_aload_n hx hb dX6_weigh_40 rfl (lv_at hl 0 rfl) ?_
        refine va_get (ci := 6) (v := .ref (ad 1)) (C := RX6) (T := TX6) (N := 4) hx hb hts hiX6 hown hK hP 6 rfl rfl 0 (by decide) (hts _ (List.mem_of_getElem? (i := 1) rfl)) (fun _ h9 => h9) rfl dX6_weigh_41 ?_
        refine va_get (ci := 1) (v := .ref (ad 2)) (C := RX1) (T := TX1) (N := 6) hx hb hts hiX1 hown hK hP 1 rfl rfl 0 (by decide) (hts _ (List.mem_of_getElem? (i := 4) rfl)) (fun _ h9 => h9) rfl dX6_weigh_44 ?_
        refine lv_iload_n hx hb dX6_weigh_47 rfl (lv_at hl 1 rfl) ?_
        obtain ⟨hg, hf⟩ := og hf
        refine va_iald hx hb hK hP 2 0 rfl rfl (gI_in hg) dX6_weigh_48 ?_
        refine lv_istore_n (lv' := [(2, .int (cRts (v1_3).toNatClampNeg)), (0, .ref (ad 6)), (1, .int v1_3)]) hx hb dX6_weigh_49 rfl hl (by decide) rfl (fun ls hl => ?_)
        refine lv_aload_n hx hb dX6_weigh_50 rfl (lv_at hl 1 rfl) ?_
        refine va_get (ci := 6) (v := .ref (ad 1)) (C := RX6) (T := TX6) (N := 4) hx hb hts hiX6 hown hK hP 6 rfl rfl 0 (by decide) (hts _ (List.mem_of_getElem? (i := 1) rfl)) (fun _ h9 => h9) rfl dX6_weigh_51 ?_
        refine lv_iload_n hx hb dX6_weigh_54 rfl (lv_at hl 0 rfl) ?_
        obtain ⟨r_5, hq, hf⟩ := ob hf
        try dsimp only at hf
        refine rcV 1 1 (As := [.int (cRts (v1_3).toNatClampNeg)]) (rest := []) ⟨hx, hb, hml, hown, hts⟩ (ctX1_has l D cI cB cZ ad cBad cFul cCnt cOpc cStp cTsz cRcn cPlc cFlt cVil cLsz cRts cLns cOpn cGps cTrl wcWgt_4 cRch cByt cWds cFst cSnd cSgn (cRts (v1_3).toNatClampNeg) r_5 hq) (cwV 1 hts gX6_weigh_X1_has rfl rfl rfl (by decide +kernel) ⟨Nat.le_of_ble_eq_true rfl, Nat.le_of_ble_eq_true rfl⟩) hK hP rfl rfl rfl hl.1 rfl (Nat.le_of_ble_eq_true rfl) dX6_weigh_55 ⟨Nat.zero_le _, Nat.zero_le _⟩ ?_
        have hJ76 : ∀ (wcWgt_6 : Nat → Int32) (H : Heap) (locs : List Loc) (ls : Array Slot), fX6_weigh_J76 v1_3 (lp (fX6_weigh_L36 cCnt cRts) n) wcWgt_6 = some (ov1_3, owcWgt_4) → va_P D vwCl (wC cI cB cZ ad cBad cFul cCnt cOpc cStp cTsz cRcn cPlc cFlt cVil cLsz cRts cLns cOpn cGps cTrl wcWgt_6 cRch cByt cWds cFst cSnd cSgn) H → va_S A s.heap H locs → lv_has ls 3 [(0, .ref (ad 6)), (1, .int v1_3), (2, .int (cRts (v1_3).toNatClampNeg))] → W p l e (rmN 1 21) s m args below meth c H locs 0 0 (MQ below (QV D (wC cI cB cZ ad cBad cFul cCnt cOpc cStp cTsz cRcn cPlc cFlt cVil cLsz cRts cLns cOpn cGps cTrl zcWgt cRch cByt cWds cFst cSnd cSgn) A) args s 0 0 A) (F0 m 76 ls []) := by
          intro wcWgt_6 H locs ls hf hP hS hl
          unfold fX6_weigh_J76 at hf
          refine lv_iinc (v := (v1_3 + (-1 : Int32))) (lv' := [(1, .int (v1_3 + (-1 : Int32))), (0, .ref (ad 6)), (2, .int (cRts (v1_3).toNatClampNeg))]) hx hb dX6_weigh_76 hl (k := 1) rfl rfl (by decide) rfl (fun ls hl => ?_)
          refine lv_goto (tgt := 36) hx hb dX6_weigh_79 (by decide) ?_
          exact ih _ _ _ _ _ _ _ hf hP hS (lv_sub hl [1, 0] rfl) hE
        refine lv_if_eq (tgt := 76) hx hb dX6_weigh_58 (by decide) (fun hc => ?_) (fun hc => ?_)
        · replace hf := (if_pos hc).symm.trans hf
          exact hJ76 _ _ _ _ hf hP hS (lv_sub hl [1, 2, 0] rfl)
        · replace hf := (if_neg hc).symm.trans hf
          refine lv_aload_n hx hb dX6_weigh_61 rfl (lv_at hl 1 rfl) ?_
          refine va_get (ci := 6) (v := .ref (ad 8)) (C := RX6) (T := TX6) (N := 4) hx hb hts hiX6 hown hK hP 6 rfl rfl 3 (by decide) (hts _ (List.mem_of_getElem? (i := 3) rfl)) (fun _ h9 => h9) rfl dX6_weigh_62 ?_
          refine lv_iload_n hx hb dX6_weigh_65 rfl (lv_at hl 0 rfl) ?_
          refine lv_dup2_11 hx hb dX6_weigh_66 rfl rfl ?_
          obtain ⟨hg, hf⟩ := og hf
          refine va_iald hx hb hK hP 8 0 rfl rfl (gI_in hg) dX6_weigh_67 ?_
          refine lv_aload_n hx hb dX6_weigh_68 rfl (lv_at hl 1 rfl) ?_
          refine va_get (ci := 6) (v := .ref (ad 8)) (C := RX6) (T := TX6) (N := 4) hx hb hts hiX6 hown hK hP 6 rfl rfl 3 (by decide) (hts _ (List.mem_of_getElem? (i := 3) rfl)) (fun _ h9 => h9) rfl dX6_weigh_69 ?_
          refine lv_iload_n hx hb dX6_weigh_72 rfl (lv_at hl 2 rfl) ?_
          obtain ⟨hg, hf⟩ := og hf
          refine va_iald hx hb hK hP 8 0 rfl rfl (gI_in hg) dX6_weigh_73 ?_
          refine lv_iadd hx hb dX6_weigh_74 ?_
          obtain ⟨hg, hf⟩ := og hf
          refine va_iast hx hb hK hP (wC_D hAD) hS 8 0 rfl rfl (gI_in hg) dX6_weigh_75 (fun H locs hP _ hS => ?_)
          have hP : va_P D vwCl (wC cI cB cZ ad cBad cFul cCnt cOpc cStp cTsz cRcn cPlc cFlt cVil cLsz cRts cLns cOpn cGps cTrl (upd wcWgt_4 (cRts (v1_3).toNatClampNeg).toNatClampNeg ((wcWgt_4 (cRts (v1_3).toNatClampNeg).toNatClampNeg) + (wcWgt_4 (v1_3).toNatClampNeg))) cRch cByt cWds cFst cSnd cSgn) H := hP
          exact hJ76 _ _ _ _ hf hP hS (lv_sub hl [1, 2, 0] rfl)
  obtain ⟨⟨ov1_3, owcWgt_4⟩, hq, hf⟩ := ob hf
  try dsimp only at hf
  refine hL36 FU _ _ ov1_3 owcWgt_4 _ _ ls hq hP hS (lv_sub hl [1, 0] rfl) (fun H locs ls hP hS hl => ?_)
  have e0 := Option.some.inj hf
  subst e0
  exact rm_v hx hb hr hlk hP hS dX6_weigh_82

def fX6_farthest_L4 (cCnt : Int32) (cGps : Nat → Int32) (p0 : Int32) (kk : (Int32 × Int32) → Option (Int32 × Int32)) (ww : Int32 × Int32) : Option (Int32 × Int32) :=
  match ww with
  | (v2_1, v3_2) => (if cCnt ≤ v3_2 then (some (v2_1, v3_2)) else ((fX1_gap cGps p0 v3_2).bind fun r_3 => (kk ((if v2_1 < r_3 then r_3 else v2_1), (v3_2 + (1 : Int32))))))
def fX6_farthest (cCnt : Int32) (cGps : Nat → Int32) (p0 : Int32) : Option (Int32) :=
  ((lp (fX6_farthest_L4 cCnt cGps p0) FU ((0 : Int32), (0 : Int32))).bind fun (ov2_1, ov3_2) => (some ov2_1))
set_option maxRecDepth 100000 in
set_option maxHeartbeats 4000000 in
theorem ctX6_farthest (l : Launch) (D : va_G) (cI cB cZ : ClassId) (ad : Nat → Nat) (cBad cFul cCnt cOpc cStp cTsz cRcn cPlc cFlt cVil cLsz : Int32) (cRts cLns cOpn cGps cTrl cWgt cRch cByt cWds cFst cSnd cSgn : Nat → Int32) (p0 : Int32) (rv : Int32) (hf : fX6_farthest cCnt cGps p0 = some rv) : Met l yX6_farthest wsX6_farthest (rmN 1 23) (PR D (tyL cI cB cZ) (wC cI cB cZ ad cBad cFul cCnt cOpc cStp cTsz cRcn cPlc cFlt cVil cLsz cRts cLns cOpn cGps cTrl cWgt cRch cByt cWds cFst cSnd cSgn) [.ref (ad 6), .int p0]) (SI rv) 0 0 (fun _ => False) := by
  refine mk_met cX6_farthest 4 (some .int) (by decide) rfl (Nat.le_of_ble_eq_true rfl) ?_
  intro p e s m args below meth c ls hx hb hr hlk hml hown hts hPK hl
  obtain ⟨hP, hK⟩ := hPK
  replace hl : lv_has ls 4 [(0, .ref (ad 6)), (1, .int p0)] := hl
  replace hown : s.vm.findClass RX6 = some m.cls := hown
  have hiX1 : ∀ w ∈ wsX10, w ∈ wsX6_farthest := fun w h => List.mem_cons_of_mem _ (List.mem_append_right _ h)
  have hiX6 : ∀ w ∈ wsX60, w ∈ wsX6_farthest := fun w h => List.mem_cons_of_mem _ (List.mem_append_left _ (List.mem_append_right _ h))
  unfold fX6_farthest at hf
  refine lv_iconst (v := (0 : Int32)) hx hb dX6_farthest_0 (by decide) ?_
  refine lv_istore_n (lv' := [(2, .int (0 : Int32)), (0, .ref (ad 6)), (1, .int p0)]) hx hb dX6_farthest_1 rfl hl (by decide) rfl (fun ls hl => ?_)
  refine lv_iconst (v := (0 : Int32)) hx hb dX6_farthest_2 (by decide) ?_
  refine lv_istore_n (lv' := [(3, .int (0 : Int32)), (2, .int (0 : Int32)), (0, .ref (ad 6)), (1, .int p0)]) hx hb dX6_farthest_3 rfl hl (by decide) rfl (fun ls hl => ?_)
  have hL4 : ∀ (n : Nat) (v2_1 : Int32) (v3_2 : Int32) (ov2_1 : Int32) (ov3_2 : Int32) (ls : Array Slot), lp (fX6_farthest_L4 cCnt cGps p0) n (v2_1, v3_2) = some (ov2_1, ov3_2) → lv_has ls 4 [(0, .ref (ad 6)), (1, .int p0), (2, .int v2_1), (3, .int v3_2)] → (∀ (ls : Array Slot), lv_has ls 4 [(0, .ref (ad 6)), (1, .int p0), (2, .int ov2_1), (3, .int ov3_2)] → W p l e (rmN 1 23) s m args below meth c s.heap [] 0 0 (MQ below (SI rv) args s 0 0 (fun _ => False)) (F0 m 35 ls [])) → W p l e (rmN 1 23) s m args below meth c s.heap [] 0 0 (MQ below (SI rv) args s 0 0 (fun _ => False)) (F0 m 4 ls []) := by
    intro n
    induction n with
    | zero => intro v2_1 v3_2 ov2_1 ov3_2 ls hf; exact (lp_0 hf).elim
    | succ n ih =>
      intro v2_1 v3_2 ov2_1 ov3_2 ls hf hl hE
      replace hf := lp_s hf
      dsimp only [fX6_farthest_L4] at hf
      refine lv_iload_n hx hb dX6_farthest_4 rfl (lv_at hl 3 rfl) ?_
      refine lv_aload_n hx hb dX6_farthest_5 rfl (lv_at hl 0 rfl) ?_
      refine va_get (ci := 6) (v := .ref (ad 1)) (C := RX6) (T := TX6) (N := 4) hx hb hts hiX6 hown hK hP 6 rfl rfl 0 (by decide) (hts _ (List.mem_of_getElem? (i := 1) rfl)) (fun _ h9 => h9) rfl dX6_farthest_6 ?_
      refine va_get (ci := 1) (v := .int cCnt) (C := RX1) (T := TX1) (N := 6) hx hb hts hiX1 hown hK hP 1 rfl rfl 4 (by decide) (hts _ (List.mem_of_getElem? (i := 2) rfl)) (fun _ h9 => h9) rfl dX6_farthest_9 ?_
      refine lv_icmp_ge (tgt := 35) hx hb dX6_farthest_12 (by decide) (fun hc => ?_) (fun hc => ?_)
      · replace hf := (if_pos hc).symm.trans hf
        cases hf
        exact hE _ (lv_sub hl [0, 1, 2, 3] rfl)
      · replace hf := (if_neg hc).symm.trans hf
        refine lv_iload_n hx hb dX6_farthest_15 rfl (lv_at hl 2 rfl) ?_
        refine lv_aload_n hx hb dX6_farthest_16 rfl (lv_at hl 0 rfl) ?_
        refine va_get (ci := 6) (v := .ref (ad 1)) (C := RX6) (T := TX6) (N := 4) hx hb hts hiX6 hown hK hP 6 rfl rfl 0 (by decide) (hts _ (List.mem_of_getElem? (i := 1) rfl)) (fun _ h9 => h9) rfl dX6_farthest_17 ?_
        refine lv_iload_n hx hb dX6_farthest_20 rfl (lv_at hl 1 rfl) ?_
        refine lv_iload_n hx hb dX6_farthest_21 rfl (lv_at hl 3 rfl) ?_
        obtain ⟨r_3, hq, hf⟩ := ob hf
        try dsimp only at hf
        refine rcV 1 1 (As := [.int p0, .int v3_2]) (rest := [.int v2_1]) ⟨hx, hb, hml, hown, hts⟩ (ctX1_gap l D cI cB cZ ad cBad cFul cCnt cOpc cStp cTsz cRcn cPlc cFlt cVil cLsz cRts cLns cOpn cGps cTrl cWgt cRch cByt cWds cFst cSnd cSgn p0 v3_2 r_3 hq) (cwV 2 hts gX6_farthest_X1_gap rfl rfl rfl (by decide +kernel) ⟨Nat.le_of_ble_eq_true rfl, Nat.le_of_ble_eq_true rfl⟩) hK hP rfl rfl rfl hl.1 rfl (Nat.le_of_ble_eq_true rfl) dX6_farthest_22 ⟨Nat.zero_le _, Nat.zero_le _⟩ ?_
        refine va_mmax hx hb (by rw [hml]; exact hl.1.symm) hown (hts _ (List.mem_of_getElem? (i := 3) rfl)) (hts _ (List.mem_of_getElem? (i := 4) rfl)) (hts _ (List.mem_of_getElem? (i := 5) rfl)) (hts _ (List.mem_of_getElem? (i := 6) rfl)) (Nat.le_of_ble_eq_true rfl) (Nat.le_of_ble_eq_true rfl) (Nat.zero_le _) (Nat.zero_le _) dX6_farthest_25 ?_
        refine lv_istore_n (lv' := [(2, .int (if v2_1 < r_3 then r_3 else v2_1)), (0, .ref (ad 6)), (1, .int p0), (3, .int v3_2)]) hx hb dX6_farthest_28 rfl hl (by decide) rfl (fun ls hl => ?_)
        refine lv_iinc (v := (v3_2 + (1 : Int32))) (lv' := [(3, .int (v3_2 + (1 : Int32))), (2, .int (if v2_1 < r_3 then r_3 else v2_1)), (0, .ref (ad 6)), (1, .int p0)]) hx hb dX6_farthest_29 hl (k := 3) rfl rfl (by decide) rfl (fun ls hl => ?_)
        refine lv_goto (tgt := 4) hx hb dX6_farthest_32 (by decide) ?_
        exact ih _ _ _ _ _ hf (lv_sub hl [2, 3, 1, 0] rfl) hE
  obtain ⟨⟨ov2_1, ov3_2⟩, hq, hf⟩ := ob hf
  try dsimp only at hf
  refine hL4 FU _ _ ov2_1 ov3_2 ls hq (lv_sub hl [2, 3, 1, 0] rfl) (fun ls hl => ?_)
  refine lv_iload_n hx hb dX6_farthest_35 rfl (lv_at hl 2 rfl) ?_
  exact re_i hx hb hr hlk dX6_farthest_36 hf

def fX6_distanceOfAll_L4 (cCnt : Int32) (cGps : Nat → Int32) (p0 : Int32) (kk : (Int32 × Int32) → Option (Int32 × Int32)) (ww : Int32 × Int32) : Option (Int32 × Int32) :=
  match ww with
  | (v2_1, v3_2) => (if cCnt ≤ v3_2 then (some (v2_1, v3_2)) else ((fX1_gap cGps p0 v3_2).bind fun r_3 => (kk ((v2_1 + r_3), (v3_2 + (1 : Int32))))))
def fX6_distanceOfAll (cCnt : Int32) (cGps : Nat → Int32) (p0 : Int32) : Option (Int32) :=
  ((lp (fX6_distanceOfAll_L4 cCnt cGps p0) FU ((0 : Int32), (0 : Int32))).bind fun (ov2_1, ov3_2) => (some ov2_1))
set_option maxRecDepth 100000 in
set_option maxHeartbeats 4000000 in
theorem ctX6_distanceOfAll (l : Launch) (D : va_G) (cI cB cZ : ClassId) (ad : Nat → Nat) (cBad cFul cCnt cOpc cStp cTsz cRcn cPlc cFlt cVil cLsz : Int32) (cRts cLns cOpn cGps cTrl cWgt cRch cByt cWds cFst cSnd cSgn : Nat → Int32) (p0 : Int32) (rv : Int32) (hf : fX6_distanceOfAll cCnt cGps p0 = some rv) : Met l yX6_distanceOfAll wsX6_distanceOfAll (rmN 1 23) (PR D (tyL cI cB cZ) (wC cI cB cZ ad cBad cFul cCnt cOpc cStp cTsz cRcn cPlc cFlt cVil cLsz cRts cLns cOpn cGps cTrl cWgt cRch cByt cWds cFst cSnd cSgn) [.ref (ad 6), .int p0]) (SI rv) 0 0 (fun _ => False) := by
  refine mk_met cX6_distanceOfAll 4 (some .int) (by decide) rfl (Nat.le_of_ble_eq_true rfl) ?_
  intro p e s m args below meth c ls hx hb hr hlk hml hown hts hPK hl
  obtain ⟨hP, hK⟩ := hPK
  replace hl : lv_has ls 4 [(0, .ref (ad 6)), (1, .int p0)] := hl
  replace hown : s.vm.findClass RX6 = some m.cls := hown
  have hiX1 : ∀ w ∈ wsX10, w ∈ wsX6_distanceOfAll := fun w h => List.mem_cons_of_mem _ (List.mem_append_right _ h)
  have hiX6 : ∀ w ∈ wsX60, w ∈ wsX6_distanceOfAll := fun w h => List.mem_cons_of_mem _ (List.mem_append_left _ (List.mem_append_right _ h))
  unfold fX6_distanceOfAll at hf
  refine lv_iconst (v := (0 : Int32)) hx hb dX6_distanceOfAll_0 (by decide) ?_
  refine lv_istore_n (lv' := [(2, .int (0 : Int32)), (0, .ref (ad 6)), (1, .int p0)]) hx hb dX6_distanceOfAll_1 rfl hl (by decide) rfl (fun ls hl => ?_)
  refine lv_iconst (v := (0 : Int32)) hx hb dX6_distanceOfAll_2 (by decide) ?_
  refine lv_istore_n (lv' := [(3, .int (0 : Int32)), (2, .int (0 : Int32)), (0, .ref (ad 6)), (1, .int p0)]) hx hb dX6_distanceOfAll_3 rfl hl (by decide) rfl (fun ls hl => ?_)
  have hL4 : ∀ (n : Nat) (v2_1 : Int32) (v3_2 : Int32) (ov2_1 : Int32) (ov3_2 : Int32) (ls : Array Slot), lp (fX6_distanceOfAll_L4 cCnt cGps p0) n (v2_1, v3_2) = some (ov2_1, ov3_2) → lv_has ls 4 [(0, .ref (ad 6)), (1, .int p0), (2, .int v2_1), (3, .int v3_2)] → (∀ (ls : Array Slot), lv_has ls 4 [(0, .ref (ad 6)), (1, .int p0), (2, .int ov2_1), (3, .int ov3_2)] → W p l e (rmN 1 23) s m args below meth c s.heap [] 0 0 (MQ below (SI rv) args s 0 0 (fun _ => False)) (F0 m 33 ls [])) → W p l e (rmN 1 23) s m args below meth c s.heap [] 0 0 (MQ below (SI rv) args s 0 0 (fun _ => False)) (F0 m 4 ls []) := by
    intro n
    induction n with
    | zero => intro v2_1 v3_2 ov2_1 ov3_2 ls hf; exact (lp_0 hf).elim
    | succ n ih =>
      intro v2_1 v3_2 ov2_1 ov3_2 ls hf hl hE
      replace hf := lp_s hf
      dsimp only [fX6_distanceOfAll_L4] at hf
      refine lv_iload_n hx hb dX6_distanceOfAll_4 rfl (lv_at hl 3 rfl) ?_
      refine lv_aload_n hx hb dX6_distanceOfAll_5 rfl (lv_at hl 0 rfl) ?_
      refine va_get (ci := 6) (v := .ref (ad 1)) (C := RX6) (T := TX6) (N := 4) hx hb hts hiX6 hown hK hP 6 rfl rfl 0 (by decide) (hts _ (List.mem_of_getElem? (i := 1) rfl)) (fun _ h9 => h9) rfl dX6_distanceOfAll_6 ?_
      refine va_get (ci := 1) (v := .int cCnt) (C := RX1) (T := TX1) (N := 6) hx hb hts hiX1 hown hK hP 1 rfl rfl 4 (by decide) (hts _ (List.mem_of_getElem? (i := 2) rfl)) (fun _ h9 => h9) rfl dX6_distanceOfAll_9 ?_
      refine lv_icmp_ge (tgt := 33) hx hb dX6_distanceOfAll_12 (by decide) (fun hc => ?_) (fun hc => ?_)
      · replace hf := (if_pos hc).symm.trans hf
        cases hf
        exact hE _ (lv_sub hl [0, 1, 2, 3] rfl)
      · replace hf := (if_neg hc).symm.trans hf
        refine lv_iload_n hx hb dX6_distanceOfAll_15 rfl (lv_at hl 2 rfl) ?_
        refine lv_aload_n hx hb dX6_distanceOfAll_16 rfl (lv_at hl 0 rfl) ?_
        refine va_get (ci := 6) (v := .ref (ad 1)) (C := RX6) (T := TX6) (N := 4) hx hb hts hiX6 hown hK hP 6 rfl rfl 0 (by decide) (hts _ (List.mem_of_getElem? (i := 1) rfl)) (fun _ h9 => h9) rfl dX6_distanceOfAll_17 ?_
        refine lv_iload_n hx hb dX6_distanceOfAll_20 rfl (lv_at hl 1 rfl) ?_
        refine lv_iload_n hx hb dX6_distanceOfAll_21 rfl (lv_at hl 3 rfl) ?_
        obtain ⟨r_3, hq, hf⟩ := ob hf
        try dsimp only at hf
        refine rcV 1 1 (As := [.int p0, .int v3_2]) (rest := [.int v2_1]) ⟨hx, hb, hml, hown, hts⟩ (ctX1_gap l D cI cB cZ ad cBad cFul cCnt cOpc cStp cTsz cRcn cPlc cFlt cVil cLsz cRts cLns cOpn cGps cTrl cWgt cRch cByt cWds cFst cSnd cSgn p0 v3_2 r_3 hq) (cwV 2 hts gX6_distanceOfAll_X1_gap rfl rfl rfl (by decide +kernel) ⟨Nat.le_of_ble_eq_true rfl, Nat.le_of_ble_eq_true rfl⟩) hK hP rfl rfl rfl hl.1 rfl (Nat.le_of_ble_eq_true rfl) dX6_distanceOfAll_22 ⟨Nat.zero_le _, Nat.zero_le _⟩ ?_
        refine lv_iadd hx hb dX6_distanceOfAll_25 ?_
        refine lv_istore_n (lv' := [(2, .int (v2_1 + r_3)), (0, .ref (ad 6)), (1, .int p0), (3, .int v3_2)]) hx hb dX6_distanceOfAll_26 rfl hl (by decide) rfl (fun ls hl => ?_)
        refine lv_iinc (v := (v3_2 + (1 : Int32))) (lv' := [(3, .int (v3_2 + (1 : Int32))), (2, .int (v2_1 + r_3)), (0, .ref (ad 6)), (1, .int p0)]) hx hb dX6_distanceOfAll_27 hl (k := 3) rfl rfl (by decide) rfl (fun ls hl => ?_)
        refine lv_goto (tgt := 4) hx hb dX6_distanceOfAll_30 (by decide) ?_
        exact ih _ _ _ _ _ hf (lv_sub hl [2, 3, 1, 0] rfl) hE
  obtain ⟨⟨ov2_1, ov3_2⟩, hq, hf⟩ := ob hf
  try dsimp only at hf
  refine hL4 FU _ _ ov2_1 ov3_2 ls hq (lv_sub hl [2, 3, 1, 0] rfl) (fun ls hl => ?_)
  refine lv_iload_n hx hb dX6_distanceOfAll_33 rfl (lv_at hl 2 rfl) ?_
  exact re_i hx hb hr hlk dX6_distanceOfAll_34 hf

def fX6_greatestRest_J52 (v3_2 : Int32) (kk : (Int32 × Int32) → Option (Int32 × Int32)) (v2_3 : Int32) : Option (Int32 × Int32) :=
  (kk (v2_3, (v3_2 + (1 : Int32))))
def fX6_greatestRest_L17 (cCnt : Int32) (cRts : Nat → Int32) (cWgt : Nat → Int32) (p0 : Int32) (kk : (Int32 × Int32) → Option (Int32 × Int32)) (ww : Int32 × Int32) : Option (Int32 × Int32) :=
  match ww with
  | (v2_1, v3_2) => (if cCnt ≤ v3_2 then (some (v2_1, v3_2)) else (if gI v3_2 60 then (if (cRts (v3_2).toNatClampNeg) = p0 then (if gI v3_2 60 then (fX6_greatestRest_J52 v3_2 kk (if v2_1 < (cWgt (v3_2).toNatClampNeg) then (cWgt (v3_2).toNatClampNeg) else v2_1)) else none) else (fX6_greatestRest_J52 v3_2 kk v2_1)) else none))
def fX6_greatestRest (cCnt : Int32) (cRts : Nat → Int32) (cWgt : Nat → Int32) (p0 : Int32) : Option (Int32) :=
  (if gI p0 60 then ((lp (fX6_greatestRest_L17 cCnt cRts cWgt p0) FU ((cCnt - (cWgt (p0).toNatClampNeg)), (1 : Int32))).bind fun (ov2_1, ov3_2) => (some ov2_1)) else none)
set_option maxRecDepth 100000 in
set_option maxHeartbeats 4000000 in
theorem ctX6_greatestRest (l : Launch) (D : va_G) (cI cB cZ : ClassId) (ad : Nat → Nat) (cBad cFul cCnt cOpc cStp cTsz cRcn cPlc cFlt cVil cLsz : Int32) (cRts cLns cOpn cGps cTrl cWgt cRch cByt cWds cFst cSnd cSgn : Nat → Int32) (p0 : Int32) (rv : Int32) (hf : fX6_greatestRest cCnt cRts cWgt p0 = some rv) : Met l yX6_greatestRest wsX6_greatestRest (rmN 1 21) (PR D (tyL cI cB cZ) (wC cI cB cZ ad cBad cFul cCnt cOpc cStp cTsz cRcn cPlc cFlt cVil cLsz cRts cLns cOpn cGps cTrl cWgt cRch cByt cWds cFst cSnd cSgn) [.ref (ad 6), .int p0]) (SI rv) 0 0 (fun _ => False) := by
  refine mk_met cX6_greatestRest 4 (some .int) (by decide) rfl (Nat.le_of_ble_eq_true rfl) ?_
  intro p e s m args below meth c ls hx hb hr hlk hml hown hts hPK hl
  obtain ⟨hP, hK⟩ := hPK
  replace hl : lv_has ls 4 [(0, .ref (ad 6)), (1, .int p0)] := hl
  replace hown : s.vm.findClass RX6 = some m.cls := hown
  have hiX1 : ∀ w ∈ wsX10, w ∈ wsX6_greatestRest := fun w h => List.mem_cons_of_mem _ (List.mem_append_right _ h)
  have hiX6 : ∀ w ∈ wsX60, w ∈ wsX6_greatestRest := fun w h => List.mem_cons_of_mem _ (List.mem_append_left _ (List.mem_append_right _ h))
  unfold fX6_greatestRest at hf
  refine lv_aload_n hx hb dX6_greatestRest_0 rfl (lv_at hl 0 rfl) ?_
  refine va_get (ci := 6) (v := .ref (ad 1)) (C := RX6) (T := TX6) (N := 4) hx hb hts hiX6 hown hK hP 6 rfl rfl 0 (by decide) (hts _ (List.mem_of_getElem? (i := 1) rfl)) (fun _ h9 => h9) rfl dX6_greatestRest_1 ?_
  refine va_get (ci := 1) (v := .int cCnt) (C := RX1) (T := TX1) (N := 6) hx hb hts hiX1 hown hK hP 1 rfl rfl 4 (by decide) (hts _ (List.mem_of_getElem? (i := 2) rfl)) (fun _ h9 => h9) rfl dX6_greatestRest_4 ?_
  refine lv_aload_n hx hb dX6_greatestRest_7 rfl (lv_at hl 0 rfl) ?_
  refine va_get (ci := 6) (v := .ref (ad 8)) (C := RX6) (T := TX6) (N := 4) hx hb hts hiX6 hown hK hP 6 rfl rfl 3 (by decide) (hts _ (List.mem_of_getElem? (i := 3) rfl)) (fun _ h9 => h9) rfl dX6_greatestRest_8 ?_
  refine lv_iload_n hx hb dX6_greatestRest_11 rfl (lv_at hl 1 rfl) ?_
  obtain ⟨hg, hf⟩ := og hf
  refine va_iald hx hb hK hP 8 0 rfl rfl (gI_in hg) dX6_greatestRest_12 ?_
  refine lv_isub hx hb dX6_greatestRest_13 ?_
  refine lv_istore_n (lv' := [(2, .int (cCnt - (cWgt (p0).toNatClampNeg))), (0, .ref (ad 6)), (1, .int p0)]) hx hb dX6_greatestRest_14 rfl hl (by decide) rfl (fun ls hl => ?_)
  refine lv_iconst (v := (1 : Int32)) hx hb dX6_greatestRest_15 (by decide) ?_
  refine lv_istore_n (lv' := [(3, .int (1 : Int32)), (2, .int (cCnt - (cWgt (p0).toNatClampNeg))), (0, .ref (ad 6)), (1, .int p0)]) hx hb dX6_greatestRest_16 rfl hl (by decide) rfl (fun ls hl => ?_)
  have hL17 : ∀ (n : Nat) (v2_1 : Int32) (v3_2 : Int32) (ov2_1 : Int32) (ov3_2 : Int32) (ls : Array Slot), lp (fX6_greatestRest_L17 cCnt cRts cWgt p0) n (v2_1, v3_2) = some (ov2_1, ov3_2) → lv_has ls 4 [(0, .ref (ad 6)), (1, .int p0), (2, .int v2_1), (3, .int v3_2)] → (∀ (ls : Array Slot), lv_has ls 4 [(0, .ref (ad 6)), (1, .int p0), (2, .int ov2_1), (3, .int ov3_2)] → W p l e (rmN 1 21) s m args below meth c s.heap [] 0 0 (MQ below (SI rv) args s 0 0 (fun _ => False)) (F0 m 58 ls [])) → W p l e (rmN 1 21) s m args below meth c s.heap [] 0 0 (MQ below (SI rv) args s 0 0 (fun _ => False)) (F0 m 17 ls []) := by
    intro n
    induction n with
    | zero => intro v2_1 v3_2 ov2_1 ov3_2 ls hf; exact (lp_0 hf).elim
    | succ n ih =>
      intro v2_1 v3_2 ov2_1 ov3_2 ls hf hl hE
      replace hf := lp_s hf
      dsimp only [fX6_greatestRest_L17] at hf
      refine lv_iload_n hx hb dX6_greatestRest_17 rfl (lv_at hl 3 rfl) ?_
      refine lv_aload_n hx hb dX6_greatestRest_18 rfl (lv_at hl 0 rfl) ?_
      refine va_get (ci := 6) (v := .ref (ad 1)) (C := RX6) (T := TX6) (N := 4) hx hb hts hiX6 hown hK hP 6 rfl rfl 0 (by decide) (hts _ (List.mem_of_getElem? (i := 1) rfl)) (fun _ h9 => h9) rfl dX6_greatestRest_19 ?_
      refine va_get (ci := 1) (v := .int cCnt) (C := RX1) (T := TX1) (N := 6) hx hb hts hiX1 hown hK hP 1 rfl rfl 4 (by decide) (hts _ (List.mem_of_getElem? (i := 2) rfl)) (fun _ h9 => h9) rfl dX6_greatestRest_22 ?_
      refine lv_icmp_ge (tgt := 58) hx hb dX6_greatestRest_25 (by decide) (fun hc => ?_) (fun hc => ?_)
      · replace hf := (if_pos hc).symm.trans hf
        cases hf
        exact hE _ (lv_sub hl [0, 1, 2, 3] rfl)
      · replace hf := (if_neg hc).symm.trans hf
        refine lv_aload_n hx hb dX6_greatestRest_28 rfl (lv_at hl 0 rfl) ?_
        refine va_get (ci := 6) (v := .ref (ad 1)) (C := RX6) (T := TX6) (N := 4) hx hb hts hiX6 hown hK hP 6 rfl rfl 0 (by decide) (hts _ (List.mem_of_getElem? (i := 1) rfl)) (fun _ h9 => h9) rfl dX6_greatestRest_29 ?_
        refine va_get (ci := 1) (v := .ref (ad 2)) (C := RX1) (T := TX1) (N := 6) hx hb hts hiX1 hown hK hP 1 rfl rfl 0 (by decide) (hts _ (List.mem_of_getElem? (i := 4) rfl)) (fun _ h9 => h9) rfl dX6_greatestRest_32 ?_
        refine lv_iload_n hx hb dX6_greatestRest_35 rfl (lv_at hl 3 rfl) ?_
        obtain ⟨hg, hf⟩ := og hf
        refine va_iald hx hb hK hP 2 0 rfl rfl (gI_in hg) dX6_greatestRest_36 ?_
        refine lv_iload_n hx hb dX6_greatestRest_37 rfl (lv_at hl 1 rfl) ?_
        have hJ52 : ∀ (v2_3 : Int32) (ls : Array Slot), fX6_greatestRest_J52 v3_2 (lp (fX6_greatestRest_L17 cCnt cRts cWgt p0) n) v2_3 = some (ov2_1, ov3_2) → lv_has ls 4 [(0, .ref (ad 6)), (1, .int p0), (2, .int v2_3), (3, .int v3_2)] → W p l e (rmN 1 21) s m args below meth c s.heap [] 0 0 (MQ below (SI rv) args s 0 0 (fun _ => False)) (F0 m 52 ls []) := by
          intro v2_3 ls hf hl
          unfold fX6_greatestRest_J52 at hf
          refine lv_iinc (v := (v3_2 + (1 : Int32))) (lv' := [(3, .int (v3_2 + (1 : Int32))), (0, .ref (ad 6)), (1, .int p0), (2, .int v2_3)]) hx hb dX6_greatestRest_52 hl (k := 3) rfl rfl (by decide) rfl (fun ls hl => ?_)
          refine lv_goto (tgt := 17) hx hb dX6_greatestRest_55 (by decide) ?_
          exact ih _ _ _ _ _ hf (lv_sub hl [1, 2, 3, 0] rfl) hE
        refine lv_icmp_ne (tgt := 52) hx hb dX6_greatestRest_38 (by decide) (fun hc => ?_) (fun hc => ?_)
        · replace hf := (if_neg hc).symm.trans hf
          exact hJ52 _ _ hf (lv_sub hl [0, 1, 2, 3] rfl)
        · replace hf := (if_pos hc).symm.trans hf
          refine lv_iload_n hx hb dX6_greatestRest_41 rfl (lv_at hl 2 rfl) ?_
          refine lv_aload_n hx hb dX6_greatestRest_42 rfl (lv_at hl 0 rfl) ?_
          refine va_get (ci := 6) (v := .ref (ad 8)) (C := RX6) (T := TX6) (N := 4) hx hb hts hiX6 hown hK hP 6 rfl rfl 3 (by decide) (hts _ (List.mem_of_getElem? (i := 3) rfl)) (fun _ h9 => h9) rfl dX6_greatestRest_43 ?_
          refine lv_iload_n hx hb dX6_greatestRest_46 rfl (lv_at hl 3 rfl) ?_
          obtain ⟨hg, hf⟩ := og hf
          refine va_iald hx hb hK hP 8 0 rfl rfl (gI_in hg) dX6_greatestRest_47 ?_
          refine va_mmax hx hb (by rw [hml]; exact hl.1.symm) hown (hts _ (List.mem_of_getElem? (i := 5) rfl)) (hts _ (List.mem_of_getElem? (i := 6) rfl)) (hts _ (List.mem_of_getElem? (i := 7) rfl)) (hts _ (List.mem_of_getElem? (i := 8) rfl)) (Nat.le_of_ble_eq_true rfl) (Nat.le_of_ble_eq_true rfl) (Nat.zero_le _) (Nat.zero_le _) dX6_greatestRest_48 ?_
          refine lv_istore_n (lv' := [(2, .int (if v2_1 < (cWgt (v3_2).toNatClampNeg) then (cWgt (v3_2).toNatClampNeg) else v2_1)), (0, .ref (ad 6)), (1, .int p0), (3, .int v3_2)]) hx hb dX6_greatestRest_51 rfl hl (by decide) rfl (fun ls hl => ?_)
          exact hJ52 _ _ hf (lv_sub hl [1, 2, 0, 3] rfl)
  obtain ⟨⟨ov2_1, ov3_2⟩, hq, hf⟩ := ob hf
  try dsimp only at hf
  refine hL17 FU _ _ ov2_1 ov3_2 ls hq (lv_sub hl [2, 3, 1, 0] rfl) (fun ls hl => ?_)
  refine lv_iload_n hx hb dX6_greatestRest_58 rfl (lv_at hl 2 rfl) ?_
  exact re_i hx hb hr hlk dX6_greatestRest_59 hf

def fX6_burden (cCnt : Int32) (cRts : Nat → Int32) (cGps : Nat → Int32) (cWgt : Nat → Int32) (p0 : Int32) (p1 : Int32) : Option (Int32) :=
  (if p1 = 0 then ((fX6_farthest cCnt cGps p0).bind fun r_3 => (some r_3)) else (if p1 = (1 : Int32) then ((fX6_distanceOfAll cCnt cGps p0).bind fun r_2 => (some r_2)) else ((fX6_greatestRest cCnt cRts cWgt p0).bind fun r_1 => (some r_1))))
set_option maxRecDepth 100000 in
set_option maxHeartbeats 4000000 in
theorem ctX6_burden (l : Launch) (D : va_G) (cI cB cZ : ClassId) (ad : Nat → Nat) (cBad cFul cCnt cOpc cStp cTsz cRcn cPlc cFlt cVil cLsz : Int32) (cRts cLns cOpn cGps cTrl cWgt cRch cByt cWds cFst cSnd cSgn : Nat → Int32) (p0 : Int32) (p1 : Int32) (rv : Int32) (hf : fX6_burden cCnt cRts cGps cWgt p0 p1 = some rv) : Met l yX6_burden wsX6_burden (rmN 2 46) (PR D (tyL cI cB cZ) (wC cI cB cZ ad cBad cFul cCnt cOpc cStp cTsz cRcn cPlc cFlt cVil cLsz cRts cLns cOpn cGps cTrl cWgt cRch cByt cWds cFst cSnd cSgn) [.ref (ad 6), .int p0, .int p1]) (SI rv) 0 0 (fun _ => False) := by
  refine mk_met cX6_burden 3 (some .int) (by decide) rfl (Nat.le_of_ble_eq_true rfl) ?_
  intro p e s m args below meth c ls hx hb hr hlk hml hown hts hPK hl
  obtain ⟨hP, hK⟩ := hPK
  replace hl : lv_has ls 3 [(0, .ref (ad 6)), (1, .int p0), (2, .int p1)] := hl
  replace hown : s.vm.findClass RX6 = some m.cls := hown
  unfold fX6_burden at hf
  refine lv_iload_n hx hb dX6_burden_0 rfl (lv_at hl 2 rfl) ?_
  refine lv_if_ne (tgt := 12) hx hb dX6_burden_1 (by decide) (fun hc => ?_) (fun hc => ?_)
  · replace hf := (if_neg hc).symm.trans hf
    refine lv_iload_n hx hb dX6_burden_12 rfl (lv_at hl 2 rfl) ?_
    refine lv_iconst (v := (1 : Int32)) hx hb dX6_burden_13 (by decide) ?_
    refine lv_icmp_ne (tgt := 25) hx hb dX6_burden_14 (by decide) (fun hc => ?_) (fun hc => ?_)
    · replace hf := (if_neg hc).symm.trans hf
      refine lv_aload_n hx hb dX6_burden_25 rfl (lv_at hl 0 rfl) ?_
      refine lv_iload_n hx hb dX6_burden_26 rfl (lv_at hl 1 rfl) ?_
      obtain ⟨r_1, hq, hf⟩ := ob hf
      try dsimp only at hf
      refine rcV 6 6 (As := [.int p0]) (rest := []) ⟨hx, hb, hml, hown, hts⟩ (ctX6_greatestRest l D cI cB cZ ad cBad cFul cCnt cOpc cStp cTsz cRcn cPlc cFlt cVil cLsz cRts cLns cOpn cGps cTrl cWgt cRch cByt cWds cFst cSnd cSgn p0 r_1 hq) (cwV 1 hts gX6_burden_X6_greatestRest rfl rfl rfl (by decide +kernel) ⟨Nat.le_of_ble_eq_true rfl, Nat.le_of_ble_eq_true rfl⟩) hK hP rfl rfl rfl hl.1 rfl (Nat.le_of_ble_eq_true rfl) dX6_burden_27 ⟨Nat.zero_le _, Nat.zero_le _⟩ ?_
      exact re_i hx hb hr hlk dX6_burden_30 hf
    · replace hf := (if_pos hc).symm.trans hf
      refine lv_aload_n hx hb dX6_burden_17 rfl (lv_at hl 0 rfl) ?_
      refine lv_iload_n hx hb dX6_burden_18 rfl (lv_at hl 1 rfl) ?_
      obtain ⟨r_2, hq, hf⟩ := ob hf
      try dsimp only at hf
      refine rcV 6 6 (As := [.int p0]) (rest := []) ⟨hx, hb, hml, hown, hts⟩ (ctX6_distanceOfAll l D cI cB cZ ad cBad cFul cCnt cOpc cStp cTsz cRcn cPlc cFlt cVil cLsz cRts cLns cOpn cGps cTrl cWgt cRch cByt cWds cFst cSnd cSgn p0 r_2 hq) (cwV 1 hts gX6_burden_X6_distanceOfAll rfl rfl rfl (by decide +kernel) ⟨Nat.le_of_ble_eq_true rfl, Nat.le_of_ble_eq_true rfl⟩) hK hP rfl rfl rfl hl.1 rfl (Nat.le_of_ble_eq_true rfl) dX6_burden_19 ⟨Nat.zero_le _, Nat.zero_le _⟩ ?_
      refine lv_goto (tgt := 30) hx hb dX6_burden_22 (by decide) ?_
      exact re_i hx hb hr hlk dX6_burden_30 hf
  · replace hf := (if_pos hc).symm.trans hf
    refine lv_aload_n hx hb dX6_burden_4 rfl (lv_at hl 0 rfl) ?_
    refine lv_iload_n hx hb dX6_burden_5 rfl (lv_at hl 1 rfl) ?_
    obtain ⟨r_3, hq, hf⟩ := ob hf
    try dsimp only at hf
    refine rcV 6 6 (As := [.int p0]) (rest := []) ⟨hx, hb, hml, hown, hts⟩ (ctX6_farthest l D cI cB cZ ad cBad cFul cCnt cOpc cStp cTsz cRcn cPlc cFlt cVil cLsz cRts cLns cOpn cGps cTrl cWgt cRch cByt cWds cFst cSnd cSgn p0 r_3 hq) (cwV 1 hts gX6_burden_X6_farthest rfl rfl rfl (by decide +kernel) ⟨Nat.le_of_ble_eq_true rfl, Nat.le_of_ble_eq_true rfl⟩) hK hP rfl rfl rfl hl.1 rfl (Nat.le_of_ble_eq_true rfl) dX6_burden_6 ⟨Nat.zero_le _, Nat.zero_le _⟩ ?_
    refine lv_goto (tgt := 30) hx hb dX6_burden_9 (by decide) ?_
    exact re_i hx hb hr hlk dX6_burden_30 hf

def fX6_heart_J49 (v4_5 : Int32) (kk : (Int32 × Int32 × Int32) → Option (Int32 × Int32 × Int32)) (v2_7 : Int32) (v3_8 : Int32) : Option (Int32 × Int32 × Int32) :=
  (kk (v2_7, v3_8, (v4_5 + (1 : Int32))))
def fX6_heart_L16 (cCnt : Int32) (cRts : Nat → Int32) (cGps : Nat → Int32) (p0 : Int32) (qcWgt_1 : Nat → Int32) (kk : (Int32 × Int32 × Int32) → Option (Int32 × Int32 × Int32)) (ww : Int32 × Int32 × Int32) : Option (Int32 × Int32 × Int32) :=
  match ww with
  | (v2_3, v3_4, v4_5) => (if cCnt ≤ v4_5 then (some (v2_3, v3_4, v4_5)) else ((fX6_burden cCnt cRts cGps qcWgt_1 v4_5 p0).bind fun r_6 => (if v3_4 ≤ r_6 then (fX6_heart_J49 v4_5 kk v2_3 v3_4) else (fX6_heart_J49 v4_5 kk v4_5 r_6))))
def fX6_heart (cCnt : Int32) (cRts : Nat → Int32) (cGps : Nat → Int32) (cWgt : Nat → Int32) (p0 : Int32) : Option (Int32 × (Nat → Int32)) :=
  ((fX6_weigh cCnt cRts cWgt).bind fun qcWgt_1 => ((fX6_burden cCnt cRts cGps qcWgt_1 (0 : Int32) p0).bind fun r_2 => ((lp (fX6_heart_L16 cCnt cRts cGps p0 qcWgt_1) FU ((0 : Int32), r_2, (1 : Int32))).bind fun (ov2_3, ov3_4, ov4_5) => (some (ov2_3, qcWgt_1)))))
set_option maxRecDepth 100000 in
set_option maxHeartbeats 4000000 in
theorem ctX6_heart (l : Launch) (D : va_G) (cI cB cZ : ClassId) (ad : Nat → Nat) (A : Nat → Prop) (hAD : AD A ad 20) (cBad cFul cCnt cOpc cStp cTsz cRcn cPlc cFlt cVil cLsz : Int32) (cRts cLns cOpn cGps cTrl cWgt cRch cByt cWds cFst cSnd cSgn : Nat → Int32) (p0 : Int32) (rv : Int32) (zcWgt : Nat → Int32) (hf : fX6_heart cCnt cRts cGps cWgt p0 = some (rv, zcWgt)) : Met l yX6_heart wsX6_heart (rmN 3 68) (PR D (tyL cI cB cZ) (wC cI cB cZ ad cBad cFul cCnt cOpc cStp cTsz cRcn cPlc cFlt cVil cLsz cRts cLns cOpn cGps cTrl cWgt cRch cByt cWds cFst cSnd cSgn) [.ref (ad 6), .int p0]) (QI D (wC cI cB cZ ad cBad cFul cCnt cOpc cStp cTsz cRcn cPlc cFlt cVil cLsz cRts cLns cOpn cGps cTrl zcWgt cRch cByt cWds cFst cSnd cSgn) A rv) 0 0 A := by
  refine mk_met cX6_heart 6 (some .int) (by decide) rfl (Nat.le_of_ble_eq_true rfl) ?_
  intro p e s m args below meth c ls hx hb hr hlk hml hown hts hPK hl
  obtain ⟨hP, hK⟩ := hPK
  replace hl : lv_has ls 6 [(0, .ref (ad 6)), (1, .int p0)] := hl
  replace hown : s.vm.findClass RX6 = some m.cls := hown
  have hiX1 : ∀ w ∈ wsX10, w ∈ wsX6_heart := fun w h => List.mem_cons_of_mem _ (List.mem_append_right _ h)
  have hiX6 : ∀ w ∈ wsX60, w ∈ wsX6_heart := fun w h => List.mem_cons_of_mem _ (List.mem_append_left _ (List.mem_append_right _ h))
  have hS : va_S A s.heap s.heap [] := va_S.rf
  unfold fX6_heart at hf
  refine lv_aload_n hx hb dX6_heart_0 rfl (lv_at hl 0 rfl) ?_
  obtain ⟨qcWgt_1, hq, hf⟩ := ob hf
  try dsimp only at hf
  refine mcVv 6 6 (As := []) (rest := []) ⟨hx, hb, hml, hown, hts⟩ (ctX6_weigh l D cI cB cZ ad A hAD cBad cFul cCnt cOpc cStp cTsz cRcn cPlc cFlt cVil cLsz cRts cLns cOpn cGps cTrl cWgt cRch cByt cWds cFst cSnd cSgn  qcWgt_1 hq) (cwV 0 hts gX6_heart_X6_weigh rfl rfl rfl (by decide +kernel) ⟨Nat.le_of_ble_eq_true rfl, Nat.le_of_ble_eq_true rfl⟩) hK hP hS rfl rfl rfl hl.1 rfl (Nat.le_of_ble_eq_true rfl) dX6_heart_1 ⟨Nat.zero_le _, Nat.zero_le _⟩ (fun H locs hP hS => ?_)
  refine lv_iconst (v := (0 : Int32)) hx hb dX6_heart_4 (by decide) ?_
  refine lv_istore_n (lv' := [(2, .int (0 : Int32)), (0, .ref (ad 6)), (1, .int p0)]) hx hb dX6_heart_5 rfl hl (by decide) rfl (fun ls hl => ?_)
  refine lv_aload_n hx hb dX6_heart_6 rfl (lv_at hl 1 rfl) ?_
  refine lv_iconst (v := (0 : Int32)) hx hb dX6_heart_7 (by decide) ?_
  refine lv_iload_n hx hb dX6_heart_8 rfl (lv_at hl 2 rfl) ?_
  obtain ⟨r_2, hq, hf⟩ := ob hf
  try dsimp only at hf
  refine rcV 6 6 (As := [.int (0 : Int32), .int p0]) (rest := []) ⟨hx, hb, hml, hown, hts⟩ (ctX6_burden l D cI cB cZ ad cBad cFul cCnt cOpc cStp cTsz cRcn cPlc cFlt cVil cLsz cRts cLns cOpn cGps cTrl qcWgt_1 cRch cByt cWds cFst cSnd cSgn (0 : Int32) p0 r_2 hq) (cwV 2 hts gX6_heart_X6_burden rfl rfl rfl (by decide +kernel) ⟨Nat.le_of_ble_eq_true rfl, Nat.le_of_ble_eq_true rfl⟩) hK hP rfl rfl rfl hl.1 rfl (Nat.le_of_ble_eq_true rfl) dX6_heart_9 ⟨Nat.zero_le _, Nat.zero_le _⟩ ?_
  refine lv_istore_n (lv' := [(3, .int r_2), (2, .int (0 : Int32)), (0, .ref (ad 6)), (1, .int p0)]) hx hb dX6_heart_12 rfl hl (by decide) rfl (fun ls hl => ?_)
  refine lv_iconst (v := (1 : Int32)) hx hb dX6_heart_13 (by decide) ?_
  refine lv_istore (lv' := [(4, .int (1 : Int32)), (3, .int r_2), (2, .int (0 : Int32)), (0, .ref (ad 6)), (1, .int p0)]) hx hb dX6_heart_14 hl (by decide) rfl (fun ls hl => ?_)
  have hL16 : ∀ (n : Nat) (v2_3 : Int32) (v3_4 : Int32) (v4_5 : Int32) (ov2_3 : Int32) (ov3_4 : Int32) (ov4_5 : Int32) (H : Heap) (locs : List Loc) (ls : Array Slot), lp (fX6_heart_L16 cCnt cRts cGps p0 qcWgt_1) n (v2_3, v3_4, v4_5) = some (ov2_3, ov3_4, ov4_5) → va_P D vwCl (wC cI cB cZ ad cBad cFul cCnt cOpc cStp cTsz cRcn cPlc cFlt cVil cLsz cRts cLns cOpn cGps cTrl qcWgt_1 cRch cByt cWds cFst cSnd cSgn) H → va_S A s.heap H locs → lv_has ls 6 [(0, .ref (ad 6)), (1, .int p0), (2, .int v2_3), (3, .int v3_4), (4, .int v4_5)] → (∀ (H : Heap) (locs : List Loc) (ls : Array Slot), va_P D vwCl (wC cI cB cZ ad cBad cFul cCnt cOpc cStp cTsz cRcn cPlc cFlt cVil cLsz cRts cLns cOpn cGps cTrl qcWgt_1 cRch cByt cWds cFst cSnd cSgn) H → va_S A s.heap H locs → lv_has ls 6 [(0, .ref (ad 6)), (1, .int p0), (2, .int ov2_3), (3, .int ov3_4), (4, .int ov4_5)] → W p l e (rmN 3 68) s m args below meth c H locs 0 0 (MQ below (QI D (wC cI cB cZ ad cBad cFul cCnt cOpc cStp cTsz cRcn cPlc cFlt cVil cLsz cRts cLns cOpn cGps cTrl zcWgt cRch cByt cWds cFst cSnd cSgn) A rv) args s 0 0 A) (F0 m 55 ls [])) → W p l e (rmN 3 68) s m args below meth c H locs 0 0 (MQ below (QI D (wC cI cB cZ ad cBad cFul cCnt cOpc cStp cTsz cRcn cPlc cFlt cVil cLsz cRts cLns cOpn cGps cTrl zcWgt cRch cByt cWds cFst cSnd cSgn) A rv) args s 0 0 A) (F0 m 16 ls []) := by
    intro n
    induction n with
    | zero => intro v2_3 v3_4 v4_5 ov2_3 ov3_4 ov4_5 H locs ls hf; exact (lp_0 hf).elim
    | succ n ih =>
      intro v2_3 v3_4 v4_5 ov2_3 ov3_4 ov4_5 H locs ls hf hP hS hl hE
      replace hf := lp_s hf
      dsimp only [fX6_heart_L16] at hf
      refine lv_iload hx hb dX6_heart_16 (lv_at hl 4 rfl) ?_
      refine lv_aload_n hx hb dX6_heart_18 rfl (lv_at hl 0 rfl) ?_
      refine va_get (ci := 6) (v := .ref (ad 1)) (C := RX6) (T := TX6) (N := 4) hx hb hts hiX6 hown hK hP 6 rfl rfl 0 (by decide) (hts _ (List.mem_of_getElem? (i := 1) rfl)) (fun _ h9 => h9) rfl dX6_heart_19 ?_
      refine va_get (ci := 1) (v := .int cCnt) (C := RX1) (T := TX1) (N := 6) hx hb hts hiX1 hown hK hP 1 rfl rfl 4 (by decide) (hts _ (List.mem_of_getElem? (i := 2) rfl)) (fun _ h9 => h9) rfl dX6_heart_22 ?_
      refine lv_icmp_ge (tgt := 55) hx hb dX6_heart_25 (by decide) (fun hc => ?_) (fun hc => ?_)
      · replace hf := (if_pos hc).symm.trans hf
        cases hf
        exact hE _ _ _ hP hS (lv_sub hl [0, 1, 2, 3, 4] rfl)
      · replace hf := (if_neg hc).symm.trans hf
        refine lv_aload_n hx hb dX6_heart_28 rfl (lv_at hl 0 rfl) ?_
        refine lv_iload hx hb dX6_heart_29 (lv_at hl 4 rfl) ?_
        refine lv_iload_n hx hb dX6_heart_31 rfl (lv_at hl 1 rfl) ?_
        obtain ⟨r_6, hq, hf⟩ := ob hf
        try dsimp only at hf
        refine rcV 6 6 (As := [.int v4_5, .int p0]) (rest := []) ⟨hx, hb, hml, hown, hts⟩ (ctX6_burden l D cI cB cZ ad cBad cFul cCnt cOpc cStp cTsz cRcn cPlc cFlt cVil cLsz cRts cLns cOpn cGps cTrl qcWgt_1 cRch cByt cWds cFst cSnd cSgn v4_5 p0 r_6 hq) (cwV 2 hts gX6_heart_X6_burden rfl rfl rfl (by decide +kernel) ⟨Nat.le_of_ble_eq_true rfl, Nat.le_of_ble_eq_true rfl⟩) hK hP rfl rfl rfl hl.1 rfl (Nat.le_of_ble_eq_true rfl) dX6_heart_32 ⟨Nat.zero_le _, Nat.zero_le _⟩ ?_
        refine lv_istore (lv' := [(5, .int r_6), (0, .ref (ad 6)), (1, .int p0), (2, .int v2_3), (3, .int v3_4), (4, .int v4_5)]) hx hb dX6_heart_35 hl (by decide) rfl (fun ls hl => ?_)
        refine lv_iload hx hb dX6_heart_37 (lv_at hl 0 rfl) ?_
        refine lv_iload_n hx hb dX6_heart_39 rfl (lv_at hl 4 rfl) ?_
        have hJ49 : ∀ (v2_7 : Int32) (v3_8 : Int32) (H : Heap) (locs : List Loc) (ls : Array Slot), fX6_heart_J49 v4_5 (lp (fX6_heart_L16 cCnt cRts cGps p0 qcWgt_1) n) v2_7 v3_8 = some (ov2_3, ov3_4, ov4_5) → va_P D vwCl (wC cI cB cZ ad cBad cFul cCnt cOpc cStp cTsz cRcn cPlc cFlt cVil cLsz cRts cLns cOpn cGps cTrl qcWgt_1 cRch cByt cWds cFst cSnd cSgn) H → va_S A s.heap H locs → lv_has ls 6 [(0, .ref (ad 6)), (1, .int p0), (2, .int v2_7), (3, .int v3_8), (4, .int v4_5), (5, .int r_6)] → W p l e (rmN 3 68) s m args below meth c H locs 0 0 (MQ below (QI D (wC cI cB cZ ad cBad cFul cCnt cOpc cStp cTsz cRcn cPlc cFlt cVil cLsz cRts cLns cOpn cGps cTrl zcWgt cRch cByt cWds cFst cSnd cSgn) A rv) args s 0 0 A) (F0 m 49 ls []) := by
          intro v2_7 v3_8 H locs ls hf hP hS hl
          unfold fX6_heart_J49 at hf
          refine lv_iinc (v := (v4_5 + (1 : Int32))) (lv' := [(4, .int (v4_5 + (1 : Int32))), (0, .ref (ad 6)), (1, .int p0), (2, .int v2_7), (3, .int v3_8), (5, .int r_6)]) hx hb dX6_heart_49 hl (k := 4) rfl rfl (by decide) rfl (fun ls hl => ?_)
          refine lv_goto (tgt := 16) hx hb dX6_heart_52 (by decide) ?_
          exact ih _ _ _ _ _ _ _ _ _ hf hP hS (lv_sub hl [1, 2, 3, 4, 0] rfl) hE
        refine lv_icmp_ge (tgt := 49) hx hb dX6_heart_40 (by decide) (fun hc => ?_) (fun hc => ?_)
        · replace hf := (if_pos hc).symm.trans hf
          exact hJ49 _ _ _ _ _ hf hP hS (lv_sub hl [1, 2, 3, 4, 5, 0] rfl)
        · replace hf := (if_neg hc).symm.trans hf
          refine lv_iload hx hb dX6_heart_43 (lv_at hl 0 rfl) ?_
          refine lv_istore_n (lv' := [(3, .int r_6), (5, .int r_6), (0, .ref (ad 6)), (1, .int p0), (2, .int v2_3), (4, .int v4_5)]) hx hb dX6_heart_45 rfl hl (by decide) rfl (fun ls hl => ?_)
          refine lv_iload hx hb dX6_heart_46 (lv_at hl 5 rfl) ?_
          refine lv_istore_n (lv' := [(2, .int v4_5), (3, .int r_6), (5, .int r_6), (0, .ref (ad 6)), (1, .int p0), (4, .int v4_5)]) hx hb dX6_heart_48 rfl hl (by decide) rfl (fun ls hl => ?_)
          exact hJ49 _ _ _ _ _ hf hP hS (lv_sub hl [3, 4, 0, 1, 5, 2] rfl)
  obtain ⟨⟨ov2_3, ov3_4, ov4_5⟩, hq, hf⟩ := ob hf
  try dsimp only at hf
  refine hL16 FU _ _ _ ov2_3 ov3_4 ov4_5 _ _ ls hq hP hS (lv_sub hl [3, 4, 2, 1, 0] rfl) (fun H locs ls hP hS hl => ?_)
  refine lv_iload_n hx hb dX6_heart_55 rfl (lv_at hl 2 rfl) ?_
  obtain ⟨e0, hz1⟩ := Prod.mk.inj (Option.some.inj hf)
  subst e0
  subst hz1
  exact rm_i hx hb hr hlk hP hS dX6_heart_56
