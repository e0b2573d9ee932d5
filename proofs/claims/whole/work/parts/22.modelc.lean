def fX9_isMore_L5 (mLen : Int32) (mTxt : Nat → Int32) (kk : (Int32) → Option (Int32)) (v1_1 : Int32) : Option (Int32) :=
  (if mLen ≤ v1_1 then (some v1_1) else (if gI v1_1 120 then (if (mTxt (v1_1).toNatClampNeg) = (32 : Int32) then (kk (v1_1 + (1 : Int32))) else (some v1_1)) else none))
def fX9_isMore (mLen : Int32) (mSpo : Int32) (mTxt : Nat → Int32)  : Option (Int32) :=
  ((lp (fX9_isMore_L5 mLen mTxt) FU mSpo).bind fun ov1_1 => (if mLen ≤ ov1_1 then (some (0 : Int32)) else (some (1 : Int32))))
set_option maxRecDepth 100000 in
set_option maxHeartbeats 4000000 in
theorem ctX9_isMore (l : Launch) (D : va_G) (cI cB cZ : ClassId) (bd : Nat → Nat) (mVil mBad mFul mLen mSig mWay mLef mSpo mBeg mTok mVal mWor mNum mThe : Int32) (mRts mLns mOpn mTxt mAns mWys mSiz mNbs : Nat → Int32)  (rv : Int32) (hf : fX9_isMore mLen mSpo mTxt = some rv) : Met l yX9_isMore wsX9_isMore (rmN 0 0) (PR D (tyL cI cB cZ) (wM cI cB cZ bd mVil mBad mFul mLen mSig mWay mLef mSpo mBeg mTok mVal mWor mNum mThe mRts mLns mOpn mTxt mAns mWys mSiz mNbs) [.ref (bd 0)]) (SI rv) 0 0 (fun _ => False) := by
  refine mk_met cX9_isMore 2 (some .boolean) (by decide) rfl (Nat.le_of_ble_eq_true rfl) ?_
  intro p e s m args below meth c ls hx hb hr hlk hml hown hts hPK hl
  obtain ⟨hP, hK⟩ := hPK
  replace hl : lv_has ls 2 [(0, .ref (bd 0))] := hl
  replace hown : s.vm.findClass RX9 = some m.cls := hown
  have hiX9 : ∀ w ∈ wsX90, w ∈ wsX9_isMore := fun w h => List.mem_cons_of_mem _ (List.mem_append_right _ h)
  unfold fX9_isMore at hf
  refine lv_aload_n hx hb dX9_isMore_0 rfl (lv_at hl 0 rfl) ?_
  refine va_get (ci := 8) (v := .int mSpo) (C := RX9) (T := TX9) (N := 22) hx hb hts hiX9 hown hK hP 0 rfl rfl 14 (by decide) (hts _ (List.mem_of_getElem? (i := 1) rfl)) (fun _ h9 => h9) rfl dX9_isMore_1 ?_
  refine lv_istore_n (lv' := [(1, .int mSpo), (0, .ref (bd 0))]) hx hb dX9_isMore_4 rfl hl (by decide) rfl (fun ls hl => ?_)
  have hL5 : ∀ (n : Nat) (v1_1 : Int32) (ov1_1 : Int32) (ls : Array Slot), lp (fX9_isMore_L5 mLen mTxt) n v1_1 = some ov1_1 → lv_has ls 2 [(0, .ref (bd 0)), (1, .int v1_1)] → (∀ (ls : Array Slot), lv_has ls 2 [(0, .ref (bd 0)), (1, .int ov1_1)] → W p l e (rmN 0 0) s m args below meth c s.heap [] 0 0 (MQ below (SI rv) args s 0 0 (fun _ => False)) (F0 m 30 ls [])) → W p l e (rmN 0 0) s m args below meth c s.heap [] 0 0 (MQ below (SI rv) args s 0 0 (fun _ => False)) (F0 m 5 ls []) := by
    intro n
    induction n with
    | zero => intro v1_1 ov1_1 ls hf; exact (lp_0 hf).elim
    | succ n ih =>
      intro v1_1 ov1_1 ls hf hl hE
      replace hf := lp_s hf
      dsimp only [fX9_isMore_L5] at hf
      refine lv_iload_n hx hb dX9_isMore_5 rfl (lv_at hl 1 rfl) ?_
      refine lv_aload_n hx hb dX9_isMore_6 rfl (lv_at hl 0 rfl) ?_
      refine va_get (ci := 8) (v := .int mLen) (C := RX9) (T := TX9) (N := 22) hx hb hts hiX9 hown hK hP 0 rfl rfl 6 (by decide) (hts _ (List.mem_of_getElem? (i := 2) rfl)) (fun _ h9 => h9) rfl dX9_isMore_7 ?_
      refine lv_icmp_ge (tgt := 30) hx hb dX9_isMore_10 (by decide) (fun hc => ?_) (fun hc => ?_)
      · replace hf := (if_pos hc).symm.trans hf
        cases hf
        exact hE _ (lv_sub hl [0, 1] rfl)
      · replace hf := (if_neg hc).symm.trans hf
        refine lv_aload_n hx hb dX9_isMore_13 rfl (lv_at hl 0 rfl) ?_
        refine va_get (ci := 8) (v := .ref (bd 4)) (C := RX9) (T := TX9) (N := 22) hx hb hts hiX9 hown hK hP 0 rfl rfl 7 (by decide) (hts _ (List.mem_of_getElem? (i := 3) rfl)) (fun _ h9 => h9) rfl dX9_isMore_14 ?_
        refine lv_iload_n hx hb dX9_isMore_17 rfl (lv_at hl 1 rfl) ?_
        obtain ⟨hg, hf⟩ := og hf
        refine va_iald hx hb hK hP 4 0 rfl rfl (gI_in hg) dX9_isMore_18 ?_
        refine lv_bipush (v := (32 : Int32)) hx hb dX9_isMore_19 (by decide) ?_
        refine lv_icmp_ne (tgt := 30) hx hb dX9_isMore_21 (by decide) (fun hc => ?_) (fun hc => ?_)
        · replace hf := (if_neg hc).symm.trans hf
          cases hf
          exact hE _ (lv_sub hl [0, 1] rfl)
        · replace hf := (if_pos hc).symm.trans hf
          refine lv_iinc (v := (v1_1 + (1 : Int32))) (lv' := [(1, .int (v1_1 + (1 : Int32))), (0, .ref (bd 0))]) hx hb dX9_isMore_24 hl (k := 1) rfl rfl (by decide) rfl (fun ls hl => ?_)
          refine lv_goto (tgt := 5) hx hb dX9_isMore_27 (by decide) ?_
          exact ih _ _ _ hf (lv_sub hl [1, 0] rfl) hE
  obtain ⟨ov1_1, hq, hf⟩ := ob hf
  try dsimp only at hf
  refine hL5 FU _ ov1_1 ls hq (lv_sub hl [1, 0] rfl) (fun ls hl => ?_)
  refine lv_iload_n hx hb dX9_isMore_30 rfl (lv_at hl 1 rfl) ?_
  refine lv_aload_n hx hb dX9_isMore_31 rfl (lv_at hl 0 rfl) ?_
  refine va_get (ci := 8) (v := .int mLen) (C := RX9) (T := TX9) (N := 22) hx hb hts hiX9 hown hK hP 0 rfl rfl 6 (by decide) (hts _ (List.mem_of_getElem? (i := 2) rfl)) (fun _ h9 => h9) rfl dX9_isMore_32 ?_
  refine lv_icmp_ge (tgt := 42) hx hb dX9_isMore_35 (by decide) (fun hc => ?_) (fun hc => ?_)
  · replace hf := (if_pos hc).symm.trans hf
    refine lv_iconst (v := (0 : Int32)) hx hb dX9_isMore_42 (by decide) ?_
    exact re_z hx hb hr hlk (by decide) dX9_isMore_43 hf
  · replace hf := (if_neg hc).symm.trans hf
    refine lv_iconst (v := (1 : Int32)) hx hb dX9_isMore_38 (by decide) ?_
    refine lv_goto (tgt := 43) hx hb dX9_isMore_39 (by decide) ?_
    exact re_z hx hb hr hlk (by decide) dX9_isMore_43 hf

def fX9_putSign (mSig : Int32) (mAns : Nat → Int32) (p0 : Int32) : Option (Int32 × (Nat → Int32)) :=
  (if (400 : Int32) ≤ mSig then (some (mSig, mAns)) else (if gI mSig 400 then (some ((mSig + (1 : Int32)), (upd mAns (mSig).toNatClampNeg p0))) else none))
set_option maxRecDepth 100000 in
set_option maxHeartbeats 4000000 in
theorem ctX9_putSign (l : Launch) (D : va_G) (cI cB cZ : ClassId) (bd : Nat → Nat) (A : Nat → Prop) (hAD : AD A bd 9) (mVil mBad mFul mLen mSig mWay mLef mSpo mBeg mTok mVal mWor mNum mThe : Int32) (mRts mLns mOpn mTxt mAns mWys mSiz mNbs : Nat → Int32) (p0 : Int32) (zmSig : Int32) (zmAns : Nat → Int32) (hf : fX9_putSign mSig mAns p0 = some (zmSig, zmAns)) : Met l yX9_putSign wsX9_putSign (rmN 0 0) (PR D (tyL cI cB cZ) (wM cI cB cZ bd mVil mBad mFul mLen mSig mWay mLef mSpo mBeg mTok mVal mWor mNum mThe mRts mLns mOpn mTxt mAns mWys mSiz mNbs) [.ref (bd 0), .int p0]) (QV D (wM cI cB cZ bd mVil mBad mFul mLen zmSig mWay mLef mSpo mBeg mTok mVal mWor mNum mThe mRts mLns mOpn mTxt zmAns mWys mSiz mNbs) A) 0 0 A := by
  refine mk_met cX9_putSign 2 none (by decide) rfl (Nat.le_of_ble_eq_true rfl) ?_
  intro p e s m args below meth c ls hx hb hr hlk hml hown hts hPK hl
  obtain ⟨hP, hK⟩ := hPK
  replace hl : lv_has ls 2 [(0, .ref (bd 0)), (1, .int p0)] := hl
  replace hown : s.vm.findClass RX9 = some m.cls := hown
  have hiX9 : ∀ w ∈ wsX90, w ∈ wsX9_putSign := fun w h => List.mem_cons_of_mem _ (List.mem_append_right _ h)
  have hS : va_S A s.heap s.heap [] := va_S.rf
  unfold fX9_putSign at hf
  refine lv_aload_n hx hb dX9_putSign_0 rfl (lv_at hl 0 rfl) ?_
  refine va_get (ci := 8) (v := .int mSig) (C := RX9) (T := TX9) (N := 22) hx hb hts hiX9 hown hK hP 0 rfl rfl 8 (by decide) (hts _ (List.mem_of_getElem? (i := 1) rfl)) (fun _ h9 => h9) rfl dX9_putSign_1 ?_
  refine lv_sipush (v := (400 : Int32)) hx hb dX9_putSign_4 (by decide) ?_
  refine lv_icmp_ge (tgt := 30) hx hb dX9_putSign_7 (by decide) (fun hc => ?_) (fun hc => ?_)
  · replace hf := (if_pos hc).symm.trans hf
    obtain ⟨e0, hz1⟩ := Prod.mk.inj (Option.some.inj hf)
    subst e0
    subst hz1
    exact rm_v hx hb hr hlk hP hS dX9_putSign_30
  · replace hf := (if_neg hc).symm.trans hf
    refine lv_aload_n hx hb dX9_putSign_10 rfl (lv_at hl 0 rfl) ?_
    refine va_get (ci := 8) (v := .ref (bd 5)) (C := RX9) (T := TX9) (N := 22) hx hb hts hiX9 hown hK hP 0 rfl rfl 9 (by decide) (hts _ (List.mem_of_getElem? (i := 2) rfl)) (fun _ h9 => h9) rfl dX9_putSign_11 ?_
    refine lv_aload_n hx hb dX9_putSign_14 rfl (lv_at hl 0 rfl) ?_
    refine va_get (ci := 8) (v := .int mSig) (C := RX9) (T := TX9) (N := 22) hx hb hts hiX9 hown hK hP 0 rfl rfl 8 (by decide) (hts _ (List.mem_of_getElem? (i := 1) rfl)) (fun _ h9 => h9) rfl dX9_putSign_15 ?_
    refine lv_iload_n hx hb dX9_putSign_18 rfl (lv_at hl 1 rfl) ?_
    obtain ⟨hg, hf⟩ := og hf
    refine va_iast hx hb hK hP (wM_D hAD) hS 5 0 rfl rfl (gI_in hg) dX9_putSign_19 (fun H locs hP _ hS => ?_)
    have hP : va_P D vwCl (wM cI cB cZ bd mVil mBad mFul mLen mSig mWay mLef mSpo mBeg mTok mVal mWor mNum mThe mRts mLns mOpn mTxt (upd mAns (mSig).toNatClampNeg p0) mWys mSiz mNbs) H := hP
    refine lv_aload_n hx hb dX9_putSign_20 rfl (lv_at hl 0 rfl) ?_
    refine lv_dup hx hb dX9_putSign_21 rfl ?_
    refine va_get (ci := 8) (v := .int mSig) (C := RX9) (T := TX9) (N := 22) hx hb hts hiX9 hown hK hP 0 rfl rfl 8 (by decide) (hts _ (List.mem_of_getElem? (i := 1) rfl)) (fun _ h9 => h9) rfl dX9_putSign_22 ?_
    refine lv_iconst (v := (1 : Int32)) hx hb dX9_putSign_25 (by decide) ?_
    refine lv_iadd hx hb dX9_putSign_26 ?_
    refine va_put (ci := 8) (v := .int (mSig + (1 : Int32))) (ty := .int) (C := RX9) (T := TX9) (N := 22) hx hb hts hiX9 tyX9 tyX9_ok nmX9 hown hK hP (wM_D hAD) hS 0 rfl rfl 8 (by decide) (hts _ (List.mem_of_getElem? (i := 1) rfl)) (fun _ h9 => h9) rfl (tyX9_ok 8 (by decide)) rfl rfl (Nat.le_of_ble_eq_true rfl) dX9_putSign_27 (fun H locs hP _ hS => ?_)
    have hP : va_P D vwCl (wM cI cB cZ bd mVil mBad mFul mLen (mSig + (1 : Int32)) mWay mLef mSpo mBeg mTok mVal mWor mNum mThe mRts mLns mOpn mTxt (upd mAns (mSig).toNatClampNeg p0) mWys mSiz mNbs) H := hP
    obtain ⟨e0, hz1⟩ := Prod.mk.inj (Option.some.inj hf)
    subst e0
    subst hz1
    exact rm_v hx hb hr hlk hP hS dX9_putSign_30

def fX9_putNumber_L2 (p0 : Int32) (kk : (Int32) → Option (Int32)) (v2_1 : Int32) : Option (Int32) :=
  (if gN v2_1 then (if (p0 / v2_1) ≤ (9 : Int32) then (some v2_1) else (kk (v2_1 * (10 : Int32)))) else none)
def fX9_putNumber_L18 (p0 : Int32) (kk : (Int32 × Int32 × (Nat → Int32)) → Option (Int32 × Int32 × (Nat → Int32))) (ww : Int32 × Int32 × (Nat → Int32)) : Option (Int32 × Int32 × (Nat → Int32)) :=
  match ww with
  | (v2_2, wmSig_3, wmAns_4) => (if v2_2 ≤ 0 then (some (v2_2, wmSig_3, wmAns_4)) else (if gN v2_2 then ((fX9_putSign wmSig_3 wmAns_4 ((48 : Int32) + ((p0 / v2_2) - (p0 / v2_2) / (10 : Int32) * (10 : Int32)))).bind fun (qmSig_5, qmAns_6) => (kk ((v2_2 / (10 : Int32)), qmSig_5, qmAns_6))) else none))
def fX9_putNumber (mSig : Int32) (mAns : Nat → Int32) (p0 : Int32) : Option (Int32 × (Nat → Int32)) :=
  ((lp (fX9_putNumber_L2 p0) FU (1 : Int32)).bind fun ov2_1 => ((lp (fX9_putNumber_L18 p0) FU (ov2_1, mSig, mAns)).bind fun (ov2_2, owmSig_3, owmAns_4) => (some (owmSig_3, owmAns_4))))
set_option maxRecDepth 100000 in
set_option maxHeartbeats 4000000 in
theorem ctX9_putNumber (l : Launch) (D : va_G) (cI cB cZ : ClassId) (bd : Nat → Nat) (A : Nat → Prop) (hAD : AD A bd 9) (mVil mBad mFul mLen mSig mWay mLef mSpo mBeg mTok mVal mWor mNum mThe : Int32) (mRts mLns mOpn mTxt mAns mWys mSiz mNbs : Nat → Int32) (p0 : Int32) (zmSig : Int32) (zmAns : Nat → Int32) (hf : fX9_putNumber mSig mAns p0 = some (zmSig, zmAns)) : Met l yX9_putNumber wsX9_putNumber (rmN 1 21) (PR D (tyL cI cB cZ) (wM cI cB cZ bd mVil mBad mFul mLen mSig mWay mLef mSpo mBeg mTok mVal mWor mNum mThe mRts mLns mOpn mTxt mAns mWys mSiz mNbs) [.ref (bd 0), .int p0]) (QV D (wM cI cB cZ bd mVil mBad mFul mLen zmSig mWay mLef mSpo mBeg mTok mVal mWor mNum mThe mRts mLns mOpn mTxt zmAns mWys mSiz mNbs) A) 0 0 A := by
  refine mk_met cX9_putNumber 3 none (by decide) rfl (Nat.le_of_ble_eq_true rfl) ?_
  intro p e s m args below meth c ls hx hb hr hlk hml hown hts hPK hl
  obtain ⟨hP, hK⟩ := hPK
  replace hl : lv_has ls 3 [(0, .ref (bd 0)), (1, .int p0)] := hl
  replace hown : s.vm.findClass RX9 = some m.cls := hown
  have hS : va_S A s.heap s.heap [] := va_S.rf
  unfold fX9_putNumber at hf
  refine lv_iconst (v := (1 : Int32)) hx hb dX9_putNumber_0 (by decide) ?_
  refine lv_istore_n (lv' := [(2, .int (1 : Int32)), (0, .ref (bd 0)), (1, .int p0)]) hx hb dX9_putNumber_1 rfl hl (by decide) rfl (fun ls hl => ?_)
  have hL2 : ∀ (n : Nat) (v2_1 : Int32) (ov2_1 : Int32) (H : Heap) (locs : List Loc) (ls : Array Slot), lp (fX9_putNumber_L2 p0) n v2_1 = some ov2_1 → va_P D vwCl (wM cI cB cZ bd mVil mBad mFul mLen mSig mWay mLef mSpo mBeg mTok mVal mWor mNum mThe mRts mLns mOpn mTxt mAns mWys mSiz mNbs) H → va_S A s.heap H locs → lv_has ls 3 [(0, .ref (bd 0)), (1, .int p0), (2, .int v2_1)] → (∀ (H : Heap) (locs : List Loc) (ls : Array Slot), va_P D vwCl (wM cI cB cZ bd mVil mBad mFul mLen mSig mWay mLef mSpo mBeg mTok mVal mWor mNum mThe mRts mLns mOpn mTxt mAns mWys mSiz mNbs) H → va_S A s.heap H locs → lv_has ls 3 [(0, .ref (bd 0)), (1, .int p0), (2, .int ov2_1)] → W p l e (rmN 1 21) s m args below meth c H locs 0 0 (MQ below (QV D (wM cI cB cZ bd mVil mBad mFul mLen zmSig mWay mLef mSpo mBeg mTok mVal mWor mNum mThe mRts mLns mOpn mTxt zmAns mWys mSiz mNbs) A) args s 0 0 A) (F0 m 18 ls [])) → W p l e (rmN 1 21) s m args below meth c H locs 0 0 (MQ below (QV D (wM cI cB cZ bd mVil mBad mFul mLen zmSig mWay mLef mSpo mBeg mTok mVal mWor mNum mThe mRts mLns mOpn mTxt zmAns mWys mSiz mNbs) A) args s 0 0 A) (F0 m 2 ls []) := by
    intro n
    induction n with
    | zero => intro v2_1 ov2_1 H locs ls hf; exact (lp_0 hf).elim
    | succ n ih =>
      intro v2_1 ov2_1 H locs ls hf hP hS hl hE
      replace hf := lp_s hf
      dsimp only [fX9_putNumber_L2] at hf
      refine lv_iload_n hx hb dX9_putNumber_2 rfl (lv_at hl 1 rfl) ?_
      refine lv_iload_n hx hb dX9_putNumber_3 rfl (lv_at hl 2 rfl) ?_
      obtain ⟨hg, hf⟩ := og hf
      refine lv_idiv hx hb dX9_putNumber_4 (gN_ne hg) ?_
      refine lv_bipush (v := (9 : Int32)) hx hb dX9_putNumber_5 (by decide) ?_
      refine lv_icmp_le (tgt := 18) hx hb dX9_putNumber_7 (by decide) (fun hc => ?_) (fun hc => ?_)
      · replace hf := (if_pos hc).symm.trans hf
        cases hf
        exact hE _ _ _ hP hS (lv_sub hl [0, 1, 2] rfl)
      · replace hf := (if_neg hc).symm.trans hf
        refine lv_iload_n hx hb dX9_putNumber_10 rfl (lv_at hl 2 rfl) ?_
        refine lv_bipush (v := (10 : Int32)) hx hb dX9_putNumber_11 (by decide) ?_
        refine lv_imul hx hb dX9_putNumber_13 ?_
        refine lv_istore_n (lv' := [(2, .int (v2_1 * (10 : Int32))), (0, .ref (bd 0)), (1, .int p0)]) hx hb dX9_putNumber_14 rfl hl (by decide) rfl (fun ls hl => ?_)
        refine lv_goto (tgt := 2) hx hb dX9_putNumber_15 (by decide) ?_
        exact ih _ _ _ _ _ hf hP hS (lv_sub hl [1, 2, 0] rfl) hE
  obtain ⟨ov2_1, hq, hf⟩ := ob hf
  try dsimp only at hf
  refine hL2 FU _ ov2_1 _ _ ls hq hP hS (lv_sub hl [1, 2, 0] rfl) (fun H locs ls hP hS hl => ?_)
  have hL18 : ∀ (n : Nat) (v2_2 : Int32) (wmSig_3 : Int32) (wmAns_4 : Nat → Int32) (ov2_2 : Int32) (owmSig_3 : Int32) (owmAns_4 : Nat → Int32) (H : Heap) (locs : List Loc) (ls : Array Slot), lp (fX9_putNumber_L18 p0) n (v2_2, wmSig_3, wmAns_4) = some (ov2_2, owmSig_3, owmAns_4) → va_P D vwCl (wM cI cB cZ bd mVil mBad mFul mLen wmSig_3 mWay mLef mSpo mBeg mTok mVal mWor mNum mThe mRts mLns mOpn mTxt wmAns_4 mWys mSiz mNbs) H → va_S A s.heap H locs → lv_has ls 3 [(0, .ref (bd 0)), (1, .int p0), (2, .int v2_2)] → (∀ (H : Heap) (locs : List Loc) (ls : Array Slot), va_P D vwCl (wM cI cB cZ bd mVil mBad mFul mLen owmSig_3 mWay mLef mSpo mBeg mTok mVal mWor mNum mThe mRts mLns mOpn mTxt owmAns_4 mWys mSiz mNbs) H → va_S A s.heap H locs → lv_has ls 3 [(0, .ref (bd 0)), (1, .int p0), (2, .int ov2_2)] → W p l e (rmN 1 21) s m args below meth c H locs 0 0 (MQ below (QV D (wM cI cB cZ bd mVil mBad mFul mLen zmSig mWay mLef mSpo mBeg mTok mVal mWor mNum mThe mRts mLns mOpn mTxt zmAns mWys mSiz mNbs) A) args s 0 0 A) (F0 m 43 ls [])) → W p l e (rmN 1 21) s m args below meth c H locs 0 0 (MQ below (QV D (wM cI cB cZ bd mVil mBad mFul mLen zmSig mWay mLef mSpo mBeg mTok mVal mWor mNum mThe mRts mLns mOpn mTxt zmAns mWys mSiz mNbs) A) args s 0 0 A) (F0 m 18 ls []) := by
    intro n
    induction n with
    | zero => intro v2_2 wmSig_3 wmAns_4 ov2_2 owmSig_3 owmAns_4 H locs ls hf; exact (lp_0 hf).elim
    | succ n ih =>
      intro v2_2 wmSig_3 wmAns_4 ov2_2 owmSig_3 owmAns_4 H locs ls hf hP hS hl hE
      replace hf := lp_s hf
      dsimp only [fX9_putNumber_L18] at hf
      refine lv_iload_n hx hb dX9_putNumber_18 rfl (lv_at hl 2 rfl) ?_
      refine lv_if_le (tgt := 43) hx hb dX9_putNumber_19 (by decide) (fun hc => ?_) (fun hc => ?_)
      · replace hf := (if_pos hc).symm.trans hf
        cases hf
        exact hE _ _ _ hP hS (lv_sub hl [0, 1, 2] rfl)
      · replace hf := (if_neg hc).symm.trans hf
        refine lv_aload_n hx hb dX9_putNumber_22 rfl (lv_at hl 0 rfl) ?_
        refine lv_bipush (v := (48 : Int32)) hx hb dX9_putNumber_23 (by decide) ?_
        refine lv_iload_n hx hb dX9_putNumber_25 rfl (lv_at hl 1 rfl) ?_
        refine lv_iload_n hx hb dX9_putNumber_26 rfl (lv_at hl 2 rfl) ?_
        obtain ⟨hg, hf⟩ := og hf
        refine lv_idiv hx hb dX9_putNumber_27 (gN_ne hg) ?_
        refine lv_bipush (v := (10 : Int32)) hx hb dX9_putNumber_28 (by decide) ?_
        refine lv_irem hx hb dX9_putNumber_30 (by decide) ?_
        refine lv_iadd hx hb dX9_putNumber_31 ?_
        obtain ⟨⟨qmSig_5, qmAns_6⟩, hq, hf⟩ := ob hf
        try dsimp only at hf
        refine mcVv 0 8 (As := [.int ((48 : Int32) + ((p0 / v2_2) - (p0 / v2_2) / (10 : Int32) * (10 : Int32)))]) (rest := []) ⟨hx, hb, hml, hown, hts⟩ (ctX9_putSign l D cI cB cZ bd A hAD mVil mBad mFul mLen wmSig_3 mWay mLef mSpo mBeg mTok mVal mWor mNum mThe mRts mLns mOpn mTxt wmAns_4 mWys mSiz mNbs ((48 : Int32) + ((p0 / v2_2) - (p0 / v2_2) / (10 : Int32) * (10 : Int32))) qmSig_5 qmAns_6 hq) (cwV 1 hts gX9_putNumber_X9_putSign rfl rfl rfl (by decide +kernel) ⟨Nat.le_of_ble_eq_true rfl, Nat.le_of_ble_eq_true rfl⟩) hK hP hS rfl rfl rfl hl.1 rfl (Nat.le_of_ble_eq_true rfl) dX9_putNumber_32 ⟨Nat.zero_le _, Nat.zero_le _⟩ (fun H locs hP hS => ?_)
        refine lv_iload_n hx hb dX9_putNumber_35 rfl (lv_at hl 2 rfl) ?_
        refine lv_bipush (v := (10 : Int32)) hx hb dX9_putNumber_36 (by decide) ?_
        refine lv_idiv hx hb dX9_putNumber_38 (by decide) ?_
        refine lv_istore_n (lv' := [(2, .int (v2_2 / (10 : Int32))), (0, .ref (bd 0)), (1, .int p0)]) hx hb dX9_putNumber_39 rfl hl (by decide) rfl (fun ls hl => ?_)
        refine lv_goto (tgt := 18) hx hb dX9_putNumber_40 (by decide) ?_
        exact ih _ _ _ _ _ _ _ _ _ hf hP hS (lv_sub hl [1, 2, 0] rfl) hE
  obtain ⟨⟨ov2_2, owmSig_3, owmAns_4⟩, hq, hf⟩ := ob hf
  try dsimp only at hf
  refine hL18 FU _ _ _ ov2_2 owmSig_3 owmAns_4 _ _ ls hq hP hS (lv_sub hl [0, 1, 2] rfl) (fun H locs ls hP hS hl => ?_)
  obtain ⟨e0, hz1⟩ := Prod.mk.inj (Option.some.inj hf)
  subst e0
  subst hz1
  exact rm_v hx hb hr hlk hP hS dX9_putNumber_43

def fX9_sayWay_J36 (qmWys_2 : Nat → Int32) (v1_3 : Int32) (kk : (Int32 × Int32 × (Nat → Int32)) → Option (Int32 × Int32 × (Nat → Int32))) (wmSig_6 : Int32) (wmAns_7 : Nat → Int32) : Option (Int32 × Int32 × (Nat → Int32)) :=
  (if gI v1_3 60 then ((fX9_putNumber wmSig_6 wmAns_7 (qmWys_2 (v1_3).toNatClampNeg)).bind fun (qmSig_8, qmAns_9) => (kk ((v1_3 + (1 : Int32)), qmSig_8, qmAns_9))) else none)
def fX9_sayWay_L18 (qmWay_1 : Int32) (qmWys_2 : Nat → Int32) (kk : (Int32 × Int32 × (Nat → Int32)) → Option (Int32 × Int32 × (Nat → Int32))) (ww : Int32 × Int32 × (Nat → Int32)) : Option (Int32 × Int32 × (Nat → Int32)) :=
  match ww with
  | (v1_3, wmSig_4, wmAns_5) => (if qmWay_1 ≤ v1_3 then (some (v1_3, wmSig_4, wmAns_5)) else (if v1_3 ≤ 0 then (fX9_sayWay_J36 qmWys_2 v1_3 kk wmSig_4 wmAns_5) else ((fX9_putSign wmSig_4 wmAns_5 (62 : Int32)).bind fun (qmSig_10, qmAns_11) => (fX9_sayWay_J36 qmWys_2 v1_3 kk qmSig_10 qmAns_11))))
def fX9_sayWay (mSig : Int32) (mWay : Int32) (mRts : Nat → Int32) (mAns : Nat → Int32) (mWys : Nat → Int32) (mNbs : Nat → Int32)  : Option (Int32 × Int32 × (Nat → Int32) × (Nat → Int32)) :=
  (if gI (0 : Int32) 2 then (if gI (1 : Int32) 2 then ((fX9_findWay mWay mRts mWys (mNbs (0 : Int32).toNatClampNeg) (mNbs (1 : Int32).toNatClampNeg)).bind fun (qmWay_1, qmWys_2) => ((lp (fX9_sayWay_L18 qmWay_1 qmWys_2) FU ((0 : Int32), mSig, mAns)).bind fun (ov1_3, owmSig_4, owmAns_5) => (some (owmSig_4, qmWay_1, owmAns_5, qmWys_2)))) else none) else none)
set_option maxRecDepth 100000 in
set_option maxHeartbeats 4000000 in
theorem ctX9_sayWay (l : Launch) (D : va_G) (cI cB cZ : ClassId) (bd : Nat → Nat) (A : Nat → Prop) (hAD : AD A bd 9) (mVil mBad mFul mLen mSig mWay mLef mSpo mBeg mTok mVal mWor mNum mThe : Int32) (mRts mLns mOpn mTxt mAns mWys mSiz mNbs : Nat → Int32)  (zmSig : Int32) (zmWay : Int32) (zmAns : Nat → Int32) (zmWys : Nat → Int32) (hf : fX9_sayWay mSig mWay mRts mAns mWys mNbs = some (zmSig, zmWay, zmAns, zmWys)) : Met l yX9_sayWay wsX9_sayWay (rmN 2 43) (PR D (tyL cI cB cZ) (wM cI cB cZ bd mVil mBad mFul mLen mSig mWay mLef mSpo mBeg mTok mVal mWor mNum mThe mRts mLns mOpn mTxt mAns mWys mSiz mNbs) [.ref (bd 0)]) (QV D (wM cI cB cZ bd mVil mBad mFul mLen zmSig zmWay mLef mSpo mBeg mTok mVal mWor mNum mThe mRts mLns mOpn mTxt zmAns zmWys mSiz mNbs) A) 0 0 A := by
  refine mk_met cX9_sayWay 2 none (by decide) rfl (Nat.le_of_ble_eq_true rfl) ?_
  intro p e s m args below meth c ls hx hb hr hlk hml hown hts hPK hl
  obtain ⟨hP, hK⟩ := hPK
  replace hl : lv_has ls 2 [(0, .ref (bd 0))] := hl
  replace hown : s.vm.findClass RX9 = some m.cls := hown
  have hiX9 : ∀ w ∈ wsX90, w ∈ wsX9_sayWay := fun w h => List.mem_cons_of_mem _ (List.mem_append_right _ h)
  have hS : va_S A s.heap s.heap [] := va_S.rf
  unfold fX9_sayWay at hf
  refine lv_aload_n hx hb dX9_sayWay_0 rfl (lv_at hl 0 rfl) ?_
  refine lv_aload_n hx hb dX9_sayWay_1 rfl (lv_at hl 0 rfl) ?_
  refine va_get (ci := 8) (v := .ref (bd 8)) (C := RX9) (T := TX9) (N := 22) hx hb hts hiX9 hown hK hP 0 rfl rfl 20 (by decide) (hts _ (List.mem_of_getElem? (i := 1) rfl)) (fun _ h9 => h9) rfl dX9_sayWay_2 ?_
  refine lv_iconst (v := (0 : Int32)) hx hb dX9_sayWay_5 (by decide) ?_
  obtain ⟨hg, hf⟩ := og hf
  refine va_iald hx hb hK hP 8 0 rfl rfl (gI_in hg) dX9_sayWay_6 ?_
  refine lv_aload_n hx hb dX9_sayWay_7 rfl (lv_at hl 0 rfl) ?_
  refine va_get (ci := 8) (v := .ref (bd 8)) (C := RX9) (T := TX9) (N := 22) hx hb hts hiX9 hown hK hP 0 rfl rfl 20 (by decide) (hts _ (List.mem_of_getElem? (i := 1) rfl)) (fun _ h9 => h9) rfl dX9_sayWay_8 ?_
  refine lv_iconst (v := (1 : Int32)) hx hb dX9_sayWay_11 (by decide) ?_
  obtain ⟨hg, hf⟩ := og hf
  refine va_iald hx hb hK hP 8 0 rfl rfl (gI_in hg) dX9_sayWay_12 ?_
  obtain ⟨⟨qmWay_1, qmWys_2⟩, hq, hf⟩ := ob hf
  try dsimp only at hf
  refine mcVv 0 8 (As := [.int (mNbs (0 : Int32).toNatClampNeg), .int (mNbs (1 : Int32).toNatClampNeg)]) (rest := []) ⟨hx, hb, hml, hown, hts⟩ (ctX9_findWay l D cI cB cZ bd A hAD mVil mBad mFul mLen mSig mWay mLef mSpo mBeg mTok mVal mWor mNum mThe mRts mLns mOpn mTxt mAns mWys mSiz mNbs (mNbs (0 : Int32).toNatClampNeg) (mNbs (1 : Int32).toNatClampNeg) qmWay_1 qmWys_2 hq) (cwV 2 hts gX9_sayWay_X9_findWay rfl rfl rfl (by decide +kernel) ⟨Nat.le_of_ble_eq_true rfl, Nat.le_of_ble_eq_true rfl⟩) hK hP hS rfl rfl rfl hl.1 rfl (Nat.le_of_ble_eq_true rfl) dX9_sayWay_13 ⟨Nat.zero_le _, Nat.zero_le _⟩ (fun H locs hP hS => ?_)
  refine lv_iconst (v := (0 : Int32)) hx hb dX9_sayWay_16 (by decide) ?_
  refine lv_istore_n (lv' := [(1, .int (0 : Int32)), (0, .ref (bd 0))]) hx hb dX9_sayWay_17 rfl hl (by decide) rfl (fun ls hl => ?_)
  have hL18 : ∀ (n : Nat) (v1_3 : Int32) (wmSig_4 : Int32) (wmAns_5 : Nat → Int32) (ov1_3 : Int32) (owmSig_4 : Int32) (owmAns_5 : Nat → Int32) (H : Heap) (locs : List Loc) (ls : Array Slot), lp (fX9_sayWay_L18 qmWay_1 qmWys_2) n (v1_3, wmSig_4, wmAns_5) = some (ov1_3, owmSig_4, owmAns_5) → va_P D vwCl (wM cI cB cZ bd mVil mBad mFul mLen wmSig_4 qmWay_1 mLef mSpo mBeg mTok mVal mWor mNum mThe mRts mLns mOpn mTxt wmAns_5 qmWys_2 mSiz mNbs) H → va_S A s.heap H locs → lv_has ls 2 [(0, .ref (bd 0)), (1, .int v1_3)] → (∀ (H : Heap) (locs : List Loc) (ls : Array Slot), va_P D vwCl (wM cI cB cZ bd mVil mBad mFul mLen owmSig_4 qmWay_1 mLef mSpo mBeg mTok mVal mWor mNum mThe mRts mLns mOpn mTxt owmAns_5 qmWys_2 mSiz mNbs) H → va_S A s.heap H locs → lv_has ls 2 [(0, .ref (bd 0)), (1, .int ov1_3)] → W p l e (rmN 2 43) s m args below meth c H locs 0 0 (MQ below (QV D (wM cI cB cZ bd mVil mBad mFul mLen zmSig zmWay mLef mSpo mBeg mTok mVal mWor mNum mThe mRts mLns mOpn mTxt zmAns zmWys mSiz mNbs) A) args s 0 0 A) (F0 m 52 ls [])) → W p l e (rmN 2 43) s m args below meth c H locs 0 0 (MQ below (QV D (wM cI cB cZ bd mVil mBad mFul mLen zmSig zmWay mLef mSpo mBeg mTok mVal mWor mNum mThe mRts mLns mOpn mTxt zmAns zmWys mSiz mNbs) A) args s 0 0 A) (F0 m 18 ls []) := by
    intro n
    induction n with
    | zero => intro v1_3 wmSig_4 wmAns_5 ov1_3 owmSig_4 owmAns_5 H locs ls hf; exact (lp_0 hf).elim
    | succ n ih =>
      intro v1_3 wmSig_4 wmAns_5 ov1_3 owmSig_4 owmAns_5 H locs ls hf hP hS hl hE
      replace hf := lp_s hf
      dsimp only [fX9_sayWay_L18] at hf
      refine lv_iload_n hx hb dX9_sayWay_18 rfl (lv_at hl 1 rfl) ?_
      refine lv_aload_n hx hb dX9_sayWay_19 rfl (lv_at hl 0 rfl) ?_
      refine va_get (ci := 8) (v := .int qmWay_1) (C := RX9) (T := TX9) (N := 22) hx hb hts hiX9 hown hK hP 0 rfl rfl 10 (by decide) (hts _ (List.mem_of_getElem? (i := 2) rfl)) (fun _ h9 => h9) rfl dX9_sayWay_20 ?_
      refine lv_icmp_ge (tgt := 52) hx hb dX9_sayWay_23 (by decide) (fun hc => ?_) (fun hc => ?_)
      · replace hf := (if_pos hc).symm.trans hf
        cases hf
        exact hE _ _ _ hP hS (lv_sub hl [0, 1] rfl)
      · replace hf := (if_neg hc).symm.trans hf
        refine lv_iload_n hx hb dX9_sayWay_26 rfl (lv_at hl 1 rfl) ?_
        have hJ36 : ∀ (wmSig_6 : Int32) (wmAns_7 : Nat → Int32) (H : Heap) (locs : List Loc) (ls : Array Slot), fX9_sayWay_J36 qmWys_2 v1_3 (lp (fX9_sayWay_L18 qmWay_1 qmWys_2) n) wmSig_6 wmAns_7 = some (ov1_3, owmSig_4, owmAns_5) → va_P D vwCl (wM cI cB cZ bd mVil mBad mFul mLen wmSig_6 qmWay_1 mLef mSpo mBeg mTok mVal mWor mNum mThe mRts mLns mOpn mTxt wmAns_7 qmWys_2 mSiz mNbs) H → va_S A s.heap H locs → lv_has ls 2 [(0, .ref (bd 0)), (1, .int v1_3)] → W p l e (rmN 2 43) s m args below meth c H locs 0 0 (MQ below (QV D (wM cI cB cZ bd mVil mBad mFul mLen zmSig zmWay mLef mSpo mBeg mTok mVal mWor mNum mThe mRts mLns mOpn mTxt zmAns zmWys mSiz mNbs) A) args s 0 0 A) (F0 m 36 ls []) := by
          intro wmSig_6 wmAns_7 H locs ls hf hP hS hl
          unfold fX9_sayWay_J36 at hf
          refine lv_aload_n hx hb dX9_sayWay_36 rfl (lv_at hl 0 rfl) ?_
          refine lv_aload_n hx hb dX9_sayWay_37 rfl (lv_at hl 0 rfl) ?_
          refine va_get (ci := 8) (v := .ref (bd 6)) (C := RX9) (T := TX9) (N := 22) hx hb hts hiX9 hown hK hP 0 rfl rfl 11 (by decide) (hts _ (List.mem_of_getElem? (i := 3) rfl)) (fun _ h9 => h9) rfl dX9_sayWay_38 ?_
          refine lv_iload_n hx hb dX9_sayWay_41 rfl (lv_at hl 1 rfl) ?_
          obtain ⟨hg, hf⟩ := og hf
          refine va_iald hx hb hK hP 6 0 rfl rfl (gI_in hg) dX9_sayWay_42 ?_
          obtain ⟨⟨qmSig_8, qmAns_9⟩, hq, hf⟩ := ob hf
          try dsimp only at hf
          refine mcVv 0 8 (As := [.int (qmWys_2 (v1_3).toNatClampNeg)]) (rest := []) ⟨hx, hb, hml, hown, hts⟩ (ctX9_putNumber l D cI cB cZ bd A hAD mVil mBad mFul mLen wmSig_6 qmWay_1 mLef mSpo mBeg mTok mVal mWor mNum mThe mRts mLns mOpn mTxt wmAns_7 qmWys_2 mSiz mNbs (qmWys_2 (v1_3).toNatClampNeg) qmSig_8 qmAns_9 hq) (cwV 1 hts gX9_sayWay_X9_putNumber rfl rfl rfl (by decide +kernel) ⟨Nat.le_of_ble_eq_true rfl, Nat.le_of_ble_eq_true rfl⟩) hK hP hS rfl rfl rfl hl.1 rfl (Nat.le_of_ble_eq_true rfl) dX9_sayWay_43 ⟨Nat.zero_le _, Nat.zero_le _⟩ (fun H locs hP hS => ?_)
          refine lv_iinc (v := (v1_3 + (1 : Int32))) (lv' := [(1, .int (v1_3 + (1 : Int32))), (0, .ref (bd 0))]) hx hb dX9_sayWay_46 hl (k := 1) rfl rfl (by decide) rfl (fun ls hl => ?_)
          refine lv_goto (tgt := 18) hx hb dX9_sayWay_49 (by decide) ?_
          exact ih _ _ _ _ _ _ _ _ _ hf hP hS (lv_sub hl [1, 0] rfl) hE
        refine lv_if_le (tgt := 36) hx hb dX9_sayWay_27 (by decide) (fun hc => ?_) (fun hc => ?_)
        · replace hf := (if_pos hc).symm.trans hf
          exact hJ36 _ _ _ _ _ hf hP hS (lv_sub hl [0, 1] rfl)
        · replace hf := (if_neg hc).symm.trans hf
          refine lv_aload_n hx hb dX9_sayWay_30 rfl (lv_at hl 0 rfl) ?_
          refine lv_bipush (v := (62 : Int32)) hx hb dX9_sayWay_31 (by decide) ?_
          obtain ⟨⟨qmSig_10, qmAns_11⟩, hq, hf⟩ := ob hf
          try dsimp only at hf
          refine mcVv 0 8 (As := [.int (62 : Int32)]) (rest := []) ⟨hx, hb, hml, hown, hts⟩ (ctX9_putSign l D cI cB cZ bd A hAD mVil mBad mFul mLen wmSig_4 qmWay_1 mLef mSpo mBeg mTok mVal mWor mNum mThe mRts mLns mOpn mTxt wmAns_5 qmWys_2 mSiz mNbs (62 : Int32) qmSig_10 qmAns_11 hq) (cwV 1 hts gX9_sayWay_X9_putSign rfl rfl rfl (by decide +kernel) ⟨Nat.le_of_ble_eq_true rfl, Nat.le_of_ble_eq_true rfl⟩) hK hP hS rfl rfl rfl hl.1 rfl (Nat.le_of_ble_eq_true rfl) dX9_sayWay_33 ⟨Nat.zero_le _, Nat.zero_le _⟩ (fun H locs hP hS => ?_)
          exact hJ36 _ _ _ _ _ hf hP hS (lv_sub hl [0, 1] rfl)
  obtain ⟨⟨ov1_3, owmSig_4, owmAns_5⟩, hq, hf⟩ := ob hf
  try dsimp only at hf
  refine hL18 FU _ _ _ ov1_3 owmSig_4 owmAns_5 _ _ ls hq hP hS (lv_sub hl [1, 0] rfl) (fun H locs ls hP hS hl => ?_)
  obtain ⟨e0, hz1⟩ := Prod.mk.inj (Option.some.inj hf)
  obtain ⟨e1, hz2⟩ := Prod.mk.inj hz1
  obtain ⟨e2, hz3⟩ := Prod.mk.inj hz2
  subst e0
  subst e1
  subst e2
  subst hz3
  exact rm_v hx hb hr hlk hP hS dX9_sayWay_52

def fX9_sayAll_J38 (v2_2 : Int32) (kk : (Int32 × Int32 × Int32 × (Nat → Int32)) → Option (Int32 × Int32 × Int32 × (Nat → Int32))) (v1_5 : Int32) (wmSig_6 : Int32) (wmAns_7 : Nat → Int32) : Option (Int32 × Int32 × Int32 × (Nat → Int32)) :=
  (kk (v1_5, (v2_2 + (1 : Int32)), wmSig_6, wmAns_7))
def fX9_sayAll_J31 (v2_2 : Int32) (kk : (Int32 × Int32 × Int32 × (Nat → Int32)) → Option (Int32 × Int32 × Int32 × (Nat → Int32))) (wmSig_8 : Int32) (wmAns_9 : Nat → Int32) : Option (Int32 × Int32 × Int32 × (Nat → Int32)) :=
  ((fX9_putNumber wmSig_8 wmAns_9 v2_2).bind fun (qmSig_10, qmAns_11) => (fX9_sayAll_J38 v2_2 kk (1 : Int32) qmSig_10 qmAns_11))
def fX9_sayAll_L4 (mVil : Int32) (mOpn : Nat → Int32) (kk : (Int32 × Int32 × Int32 × (Nat → Int32)) → Option (Int32 × Int32 × Int32 × (Nat → Int32))) (ww : Int32 × Int32 × Int32 × (Nat → Int32)) : Option (Int32 × Int32 × Int32 × (Nat → Int32)) :=
  match ww with
  | (v1_1, v2_2, wmSig_3, wmAns_4) => (if mVil ≤ v2_2 then (some (v1_1, v2_2, wmSig_3, wmAns_4)) else (if gI v2_2 60 then (if (mOpn (v2_2).toNatClampNeg) = 0 then (fX9_sayAll_J38 v2_2 kk v1_1 wmSig_3 wmAns_4) else (if v1_1 = 0 then (fX9_sayAll_J31 v2_2 kk wmSig_3 wmAns_4) else ((fX9_putSign wmSig_3 wmAns_4 (44 : Int32)).bind fun (qmSig_12, qmAns_13) => (fX9_sayAll_J31 v2_2 kk qmSig_12 qmAns_13)))) else none))
def fX9_sayAll (mVil : Int32) (mSig : Int32) (mOpn : Nat → Int32) (mAns : Nat → Int32)  : Option (Int32 × (Nat → Int32)) :=
  ((lp (fX9_sayAll_L4 mVil mOpn) FU ((0 : Int32), (0 : Int32), mSig, mAns)).bind fun (ov1_1, ov2_2, owmSig_3, owmAns_4) => (if ov1_1 = 0 then ((fX9_putSign owmSig_3 owmAns_4 (45 : Int32)).bind fun (qmSig_14, qmAns_15) => (some (qmSig_14, qmAns_15))) else (some (owmSig_3, owmAns_4))))
set_option maxRecDepth 100000 in
set_option maxHeartbeats 4000000 in
theorem ctX9_sayAll (l : Launch) (D : va_G) (cI cB cZ : ClassId) (bd : Nat → Nat) (A : Nat → Prop) (hAD : AD A bd 9) (mVil mBad mFul mLen mSig mWay mLef mSpo mBeg mTok mVal mWor mNum mThe : Int32) (mRts mLns mOpn mTxt mAns mWys mSiz mNbs : Nat → Int32)  (zmSig : Int32) (zmAns : Nat → Int32) (hf : fX9_sayAll mVil mSig mOpn mAns = some (zmSig, zmAns)) : Met l yX9_sayAll wsX9_sayAll (rmN 2 43) (PR D (tyL cI cB cZ) (wM cI cB cZ bd mVil mBad mFul mLen mSig mWay mLef mSpo mBeg mTok mVal mWor mNum mThe mRts mLns mOpn mTxt mAns mWys mSiz mNbs) [.ref (bd 0)]) (QV D (wM cI cB cZ bd mVil mBad mFul mLen zmSig mWay mLef mSpo mBeg mTok mVal mWor mNum mThe mRts mLns mOpn mTxt zmAns mWys mSiz mNbs) A) 0 0 A := by
  refine mk_met cX9_sayAll 3 none (by decide) rfl (Nat.le_of_ble_eq_true rfl) ?_
  intro p e s m args below meth c ls hx hb hr hlk hml hown hts hPK hl
  obtain ⟨hP, hK⟩ := hPK
  replace hl : lv_has ls 3 [(0, .ref (bd 0))] := hl
  replace hown : s.vm.findClass RX9 = some m.cls := hown
  have hiX9 : ∀ w ∈ wsX90, w ∈ wsX9_sayAll := fun w h => List.mem_cons_of_mem _ (List.mem_append_right _ h)
  have hS : va_S A s.heap s.heap [] := va_S.rf
  unfold fX9_sayAll at hf
  refine lv_iconst (v := (0 : Int32)) hx hb dX9_sayAll_0 (by decide) ?_
  refine lv_istore_n (lv' := [(1, .int (0 : Int32)), (0, .ref (bd 0))]) hx hb dX9_sayAll_1 rfl hl (by decide) rfl (fun ls hl => ?_)
  refine lv_iconst (v := (0 : Int32)) hx hb dX9_sayAll_2 (by decide) ?_
  refine lv_istore_n (lv' := [(2, .int (0 : Int32)), (1, .int (0 : Int32)), (0, .ref (bd 0))]) hx hb dX9_sayAll_3 rfl hl (by decide) rfl (fun ls hl => ?_)
  have hL4 : ∀ (n : Nat) (v1_1 : Int32) (v2_2 : Int32) (wmSig_3 : Int32) (wmAns_4 : Nat → Int32) (ov1_1 : Int32) (ov2_2 : Int32) (owmSig_3 : Int32) (owmAns_4 : Nat → Int32) (H : Heap) (locs : List Loc) (ls : Array Slot), lp (fX9_sayAll_L4 mVil mOpn) n (v1_1, v2_2, wmSig_3, wmAns_4) = some (ov1_1, ov2_2, owmSig_3, owmAns_4) → va_P D vwCl (wM cI cB cZ bd mVil mBad mFul mLen wmSig_3 mWay mLef mSpo mBeg mTok mVal mWor mNum mThe mRts mLns mOpn mTxt wmAns_4 mWys mSiz mNbs) H → va_S A s.heap H locs → lv_has ls 3 [(0, .ref (bd 0)), (1, .int v1_1), (2, .int v2_2)] → (∀ (H : Heap) (locs : List Loc) (ls : Array Slot), va_P D vwCl (wM cI cB cZ bd mVil mBad mFul mLen owmSig_3 mWay mLef mSpo mBeg mTok mVal mWor mNum mThe mRts mLns mOpn mTxt owmAns_4 mWys mSiz mNbs) H → va_S A s.heap H locs → lv_has ls 3 [(0, .ref (bd 0)), (1, .int ov1_1), (2, .int ov2_2)] → W p l e (rmN 2 43) s m args below meth c H locs 0 0 (MQ below (QV D (wM cI cB cZ bd mVil mBad mFul mLen zmSig mWay mLef mSpo mBeg mTok mVal mWor mNum mThe mRts mLns mOpn mTxt zmAns mWys mSiz mNbs) A) args s 0 0 A) (F0 m 44 ls [])) → W p l e (rmN 2 43) s m args below meth c H locs 0 0 (MQ below (QV D (wM cI cB cZ bd mVil mBad mFul mLen zmSig mWay mLef mSpo mBeg mTok mVal mWor mNum mThe mRts mLns mOpn mTxt zmAns mWys mSiz mNbs) A) args s 0 0 A) (F0 m 4 ls []) := by
    intro n
    induction n with
    | zero => intro v1_1 v2_2 wmSig_3 wmAns_4 ov1_1 ov2_2 owmSig_3 owmAns_4 H locs ls hf; exact (lp_0 hf).elim
    | succ n ih =>
      intro v1_1 v2_2 wmSig_3 wmAns_4 ov1_1 ov2_2 owmSig_3 owmAns_4 H locs ls hf hP hS hl hE
      replace hf := lp_s hf
      dsimp only [fX9_sayAll_L4] at hf
      refine lv_iload_n hx hb dX9_sayAll_4 rfl (lv_at hl 2 rfl) ?_
      refine lv_aload_n hx hb dX9_sayAll_5 rfl (lv_at hl 0 rfl) ?_
      refine va_get (ci := 8) (v := .int mVil) (C := RX9) (T := TX9) (N := 22) hx hb hts hiX9 hown hK hP 0 rfl rfl 0 (by decide) (hts _ (List.mem_of_getElem? (i := 1) rfl)) (fun _ h9 => h9) rfl dX9_sayAll_6 ?_
      refine lv_icmp_ge (tgt := 44) hx hb dX9_sayAll_9 (by decide) (fun hc => ?_) (fun hc => ?_)
      · replace hf := (if_pos hc).symm.trans hf
        cases hf
        exact hE _ _ _ hP hS (lv_sub hl [0, 1, 2] rfl)
      · replace hf := (if_neg hc).symm.trans hf
        refine lv_aload_n hx hb dX9_sayAll_12 rfl (lv_at hl 0 rfl) ?_
        refine va_get (ci := 8) (v := .ref (bd 3)) (C := RX9) (T := TX9) (N := 22) hx hb hts hiX9 hown hK hP 0 rfl rfl 3 (by decide) (hts _ (List.mem_of_getElem? (i := 2) rfl)) (fun _ h9 => h9) rfl dX9_sayAll_13 ?_
        refine lv_iload_n hx hb dX9_sayAll_16 rfl (lv_at hl 2 rfl) ?_
        obtain ⟨hg, hf⟩ := og hf
        refine va_zald hx hb hK hP 3 2 rfl rfl (gI_in hg) dX9_sayAll_17 ?_
        have hJ38 : ∀ (v1_5 : Int32) (wmSig_6 : Int32) (wmAns_7 : Nat → Int32) (H : Heap) (locs : List Loc) (ls : Array Slot), fX9_sayAll_J38 v2_2 (lp (fX9_sayAll_L4 mVil mOpn) n) v1_5 wmSig_6 wmAns_7 = some (ov1_1, ov2_2, owmSig_3, owmAns_4) → va_P D vwCl (wM cI cB cZ bd mVil mBad mFul mLen wmSig_6 mWay mLef mSpo mBeg mTok mVal mWor mNum mThe mRts mLns mOpn mTxt wmAns_7 mWys mSiz mNbs) H → va_S A s.heap H locs → lv_has ls 3 [(0, .ref (bd 0)), (1, .int v1_5), (2, .int v2_2)] → W p l e (rmN 2 43) s m args below meth c H locs 0 0 (MQ below (QV D (wM cI cB cZ bd mVil mBad mFul mLen zmSig mWay mLef mSpo mBeg mTok mVal mWor mNum mThe mRts mLns mOpn mTxt zmAns mWys mSiz mNbs) A) args s 0 0 A) (F0 m 38 ls []) := by
          intro v1_5 wmSig_6 wmAns_7 H locs ls hf hP hS hl
          unfold fX9_sayAll_J38 at hf
          refine lv_iinc (v := (v2_2 + (1 : Int32))) (lv' := [(2, .int (v2_2 + (1 : Int32))), (0, .ref (bd 0)), (1, .int v1_5)]) hx hb dX9_sayAll_38 hl (k := 2) rfl rfl (by decide) rfl (fun ls hl => ?_)
          refine lv_goto (tgt := 4) hx hb dX9_sayAll_41 (by decide) ?_
          exact ih _ _ _ _ _ _ _ _ _ _ _ hf hP hS (lv_sub hl [1, 2, 0] rfl) hE
        refine lv_if_eq (tgt := 38) hx hb dX9_sayAll_18 (by decide) (fun hc => ?_) (fun hc => ?_)
        · replace hf := (if_pos hc).symm.trans hf
          exact hJ38 _ _ _ _ _ _ hf hP hS (lv_sub hl [0, 1, 2] rfl)
        · replace hf := (if_neg hc).symm.trans hf
          refine lv_iload_n hx hb dX9_sayAll_21 rfl (lv_at hl 1 rfl) ?_
          have hJ31 : ∀ (wmSig_8 : Int32) (wmAns_9 : Nat → Int32) (H : Heap) (locs : List Loc) (ls : Array Slot), fX9_sayAll_J31 v2_2 (lp (fX9_sayAll_L4 mVil mOpn) n) wmSig_8 wmAns_9 = some (ov1_1, ov2_2, owmSig_3, owmAns_4) → va_P D vwCl (wM cI cB cZ bd mVil mBad mFul mLen wmSig_8 mWay mLef mSpo mBeg mTok mVal mWor mNum mThe mRts mLns mOpn mTxt wmAns_9 mWys mSiz mNbs) H → va_S A s.heap H locs → lv_has ls 3 [(0, .ref (bd 0)), (1, .int v1_1), (2, .int v2_2)] → W p l e (rmN 2 43) s m args below meth c H locs 0 0 (MQ below (QV D (wM cI cB cZ bd mVil mBad mFul mLen zmSig mWay mLef mSpo mBeg mTok mVal mWor mNum mThe mRts mLns mOpn mTxt zmAns mWys mSiz mNbs) A) args s 0 0 A) (F0 m 31 ls []) := by
            intro wmSig_8 wmAns_9 H locs ls hf hP hS hl
            unfold fX9_sayAll_J31 at hf
            refine lv_aload_n hx hb dX9_sayAll_31 rfl (lv_at hl 0 rfl) ?_
            refine lv_iload_n hx hb dX9_sayAll_32 rfl (lv_at hl 2 rfl) ?_
            obtain ⟨⟨qmSig_10, qmAns_11⟩, hq, hf⟩ := ob hf
            try dsimp only at hf
            refine mcVv 0 8 (As := [.int v2_2]) (rest := []) ⟨hx, hb, hml, hown, hts⟩ (ctX9_putNumber l D cI cB cZ bd A hAD mVil mBad mFul mLen wmSig_8 mWay mLef mSpo mBeg mTok mVal mWor mNum mThe mRts mLns mOpn mTxt wmAns_9 mWys mSiz mNbs v2_2 qmSig_10 qmAns_11 hq) (cwV 1 hts gX9_sayAll_X9_putNumber rfl rfl rfl (by decide +kernel) ⟨Nat.le_of_ble_eq_true rfl, Nat.le_of_ble_eq_true rfl⟩) hK hP hS rfl rfl rfl hl.1 rfl (Nat.le_of_ble_eq_true rfl) dX9_sayAll_33 ⟨Nat.zero_le _, Nat.zero_le _⟩ (fun H locs hP hS => ?_)
            refine lv_iconst (v := (1 : Int32)) hx hb dX9_sayAll_36 (by decide) ?_
            refine lv_istore_n (lv' := [(1, .int (1 : Int32)), (0, .ref (bd 0)), (2, .int v2_2)]) hx hb dX9_sayAll_37 rfl hl (by decide) rfl (fun ls hl => ?_)
            exact hJ38 _ _ _ _ _ _ hf hP hS (lv_sub hl [1, 0, 2] rfl)
          refine lv_if_eq (tgt := 31) hx hb dX9_sayAll_22 (by decide) (fun hc => ?_) (fun hc => ?_)
          · replace hf := (if_pos hc).symm.trans hf
            exact hJ31 _ _ _ _ _ hf hP hS (lv_sub hl [0, 1, 2] rfl)
          · replace hf := (if_neg hc).symm.trans hf
            refine lv_aload_n hx hb dX9_sayAll_25 rfl (lv_at hl 0 rfl) ?_
            refine lv_bipush (v := (44 : Int32)) hx hb dX9_sayAll_26 (by decide) ?_
            obtain ⟨⟨qmSig_12, qmAns_13⟩, hq, hf⟩ := ob hf
            try dsimp only at hf
            refine mcVv 0 8 (As := [.int (44 : Int32)]) (rest := []) ⟨hx, hb, hml, hown, hts⟩ (ctX9_putSign l D cI cB cZ bd A hAD mVil mBad mFul mLen wmSig_3 mWay mLef mSpo mBeg mTok mVal mWor mNum mThe mRts mLns mOpn mTxt wmAns_4 mWys mSiz mNbs (44 : Int32) qmSig_12 qmAns_13 hq) (cwV 1 hts gX9_sayAll_X9_putSign rfl rfl rfl (by decide +kernel) ⟨Nat.le_of_ble_eq_true rfl, Nat.le_of_ble_eq_true rfl⟩) hK hP hS rfl rfl rfl hl.1 rfl (Nat.le_of_ble_eq_true rfl) dX9_sayAll_28 ⟨Nat.zero_le _, Nat.zero_le _⟩ (fun H locs hP hS => ?_)
            exact hJ31 _ _ _ _ _ hf hP hS (lv_sub hl [0, 1, 2] rfl)
  obtain ⟨⟨ov1_1, ov2_2, owmSig_3, owmAns_4⟩, hq, hf⟩ := ob hf
  try dsimp only at hf
  refine hL4 FU _ _ _ _ ov1_1 ov2_2 owmSig_3 owmAns_4 _ _ ls hq hP hS (lv_sub hl [2, 1, 0] rfl) (fun H locs ls hP hS hl => ?_)
  refine lv_iload_n hx hb dX9_sayAll_44 rfl (lv_at hl 1 rfl) ?_
  refine lv_if_ne (tgt := 54) hx hb dX9_sayAll_45 (by decide) (fun hc => ?_) (fun hc => ?_)
  · replace hf := (if_neg hc).symm.trans hf
    obtain ⟨e0, hz1⟩ := Prod.mk.inj (Option.some.inj hf)
    subst e0
    subst hz1
    exact rm_v hx hb hr hlk hP hS dX9_sayAll_54
  · replace hf := (if_pos hc).symm.trans hf
    refine lv_aload_n hx hb dX9_sayAll_48 rfl (lv_at hl 0 rfl) ?_
    refine lv_bipush (v := (45 : Int32)) hx hb dX9_sayAll_49 (by decide) ?_
    obtain ⟨⟨qmSig_14, qmAns_15⟩, hq, hf⟩ := ob hf
    try dsimp only at hf
    refine mcVv 0 8 (As := [.int (45 : Int32)]) (rest := []) ⟨hx, hb, hml, hown, hts⟩ (ctX9_putSign l D cI cB cZ bd A hAD mVil mBad mFul mLen owmSig_3 mWay mLef mSpo mBeg mTok mVal mWor mNum mThe mRts mLns mOpn mTxt owmAns_4 mWys mSiz mNbs (45 : Int32) qmSig_14 qmAns_15 hq) (cwV 1 hts gX9_sayAll_X9_putSign rfl rfl rfl (by decide +kernel) ⟨Nat.le_of_ble_eq_true rfl, Nat.le_of_ble_eq_true rfl⟩) hK hP hS rfl rfl rfl hl.1 rfl (Nat.le_of_ble_eq_true rfl) dX9_sayAll_51 ⟨Nat.zero_le _, Nat.zero_le _⟩ (fun H locs hP hS => ?_)
    obtain ⟨e0, hz1⟩ := Prod.mk.inj (Option.some.inj hf)
    subst e0
    subst hz1
    exact rm_v hx hb hr hlk hP hS dX9_sayAll_54

def fX9_sayNear (mVil : Int32) (mSig : Int32) (mRts : Nat → Int32) (mLns : Nat → Int32) (mOpn : Nat → Int32) (mAns : Nat → Int32) (mNbs : Nat → Int32)  : Option (Int32 × (Nat → Int32)) :=
  (if gI (0 : Int32) 2 then ((fX9_nearestOf mVil mRts mLns mOpn (mNbs (0 : Int32).toNatClampNeg)).bind fun r_1 => (if r_1 = (-1 : Int32) then ((fX9_putSign mSig mAns (45 : Int32)).bind fun (qmSig_9, qmAns_10) => (some (qmSig_9, qmAns_10))) else ((fX9_putNumber mSig mAns r_1).bind fun (qmSig_2, qmAns_3) => ((fX9_putSign qmSig_2 qmAns_3 (64 : Int32)).bind fun (qmSig_4, qmAns_5) => (if gI (0 : Int32) 2 then ((fX9_farFrom mRts mLns r_1 (mNbs (0 : Int32).toNatClampNeg)).bind fun r_6 => ((fX9_putNumber qmSig_4 qmAns_5 r_6).bind fun (qmSig_7, qmAns_8) => (some (qmSig_7, qmAns_8)))) else none))))) else none)
set_option maxRecDepth 100000 in
set_option maxHeartbeats 4000000 in
theorem ctX9_sayNear (l : Launch) (D : va_G) (cI cB cZ : ClassId) (bd : Nat → Nat) (A : Nat → Prop) (hAD : AD A bd 9) (mVil mBad mFul mLen mSig mWay mLef mSpo mBeg mTok mVal mWor mNum mThe : Int32) (mRts mLns mOpn mTxt mAns mWys mSiz mNbs : Nat → Int32)  (zmSig : Int32) (zmAns : Nat → Int32) (hf : fX9_sayNear mVil mSig mRts mLns mOpn mAns mNbs = some (zmSig, zmAns)) : Met l yX9_sayNear wsX9_sayNear (rmN 2 48) (PR D (tyL cI cB cZ) (wM cI cB cZ bd mVil mBad mFul mLen mSig mWay mLef mSpo mBeg mTok mVal mWor mNum mThe mRts mLns mOpn mTxt mAns mWys mSiz mNbs) [.ref (bd 0)]) (QV D (wM cI cB cZ bd mVil mBad mFul mLen zmSig mWay mLef mSpo mBeg mTok mVal mWor mNum mThe mRts mLns mOpn mTxt zmAns mWys mSiz mNbs) A) 0 0 A := by
  refine mk_met cX9_sayNear 2 none (by decide) rfl (Nat.le_of_ble_eq_true rfl) ?_
  intro p e s m args below meth c ls hx hb hr hlk hml hown hts hPK hl
  obtain ⟨hP, hK⟩ := hPK
  replace hl : lv_has ls 2 [(0, .ref (bd 0))] := hl
  replace hown : s.vm.findClass RX9 = some m.cls := hown
  have hiX9 : ∀ w ∈ wsX90, w ∈ wsX9_sayNear := fun w h => List.mem_cons_of_mem _ (List.mem_append_right _ h)
  have hS : va_S A s.heap s.heap [] := va_S.rf
  unfold fX9_sayNear at hf
  refine lv_aload_n hx hb dX9_sayNear_0 rfl (lv_at hl 0 rfl) ?_
  refine lv_aload_n hx hb dX9_sayNear_1 rfl (lv_at hl 0 rfl) ?_
  refine va_get (ci := 8) (v := .ref (bd 8)) (C := RX9) (T := TX9) (N := 22) hx hb hts hiX9 hown hK hP 0 rfl rfl 20 (by decide) (hts _ (List.mem_of_getElem? (i := 1) rfl)) (fun _ h9 => h9) rfl dX9_sayNear_2 ?_
  refine lv_iconst (v := (0 : Int32)) hx hb dX9_sayNear_5 (by decide) ?_
  obtain ⟨hg, hf⟩ := og hf
  refine va_iald hx hb hK hP 8 0 rfl rfl (gI_in hg) dX9_sayNear_6 ?_
  obtain ⟨r_1, hq, hf⟩ := ob hf
  try dsimp only at hf
  refine rcV 0 8 (As := [.int (mNbs (0 : Int32).toNatClampNeg)]) (rest := []) ⟨hx, hb, hml, hown, hts⟩ (ctX9_nearestOf l D cI cB cZ bd mVil mBad mFul mLen mSig mWay mLef mSpo mBeg mTok mVal mWor mNum mThe mRts mLns mOpn mTxt mAns mWys mSiz mNbs (mNbs (0 : Int32).toNatClampNeg) r_1 hq) (cwV 1 hts gX9_sayNear_X9_nearestOf rfl rfl rfl (by decide +kernel) ⟨Nat.le_of_ble_eq_true rfl, Nat.le_of_ble_eq_true rfl⟩) hK hP rfl rfl rfl hl.1 rfl (Nat.le_of_ble_eq_true rfl) dX9_sayNear_7 ⟨Nat.zero_le _, Nat.zero_le _⟩ ?_
  refine lv_istore_n (lv' := [(1, .int r_1), (0, .ref (bd 0))]) hx hb dX9_sayNear_10 rfl hl (by decide) rfl (fun ls hl => ?_)
  refine lv_iload_n hx hb dX9_sayNear_11 rfl (lv_at hl 0 rfl) ?_
  refine lv_iconst (v := (-1 : Int32)) hx hb dX9_sayNear_12 (by decide) ?_
  refine lv_icmp_ne (tgt := 25) hx hb dX9_sayNear_13 (by decide) (fun hc => ?_) (fun hc => ?_)
  · replace hf := (if_neg hc).symm.trans hf
    refine lv_aload_n hx hb dX9_sayNear_25 rfl (lv_at hl 1 rfl) ?_
    refine lv_iload_n hx hb dX9_sayNear_26 rfl (lv_at hl 0 rfl) ?_
    obtain ⟨⟨qmSig_2, qmAns_3⟩, hq, hf⟩ := ob hf
    try dsimp only at hf
    refine mcVv 0 8 (As := [.int r_1]) (rest := []) ⟨hx, hb, hml, hown, hts⟩ (ctX9_putNumber l D cI cB cZ bd A hAD mVil mBad mFul mLen mSig mWay mLef mSpo mBeg mTok mVal mWor mNum mThe mRts mLns mOpn mTxt mAns mWys mSiz mNbs r_1 qmSig_2 qmAns_3 hq) (cwV 1 hts gX9_sayNear_X9_putNumber rfl rfl rfl (by decide +kernel) ⟨Nat.le_of_ble_eq_true rfl, Nat.le_of_ble_eq_true rfl⟩) hK hP hS rfl rfl rfl hl.1 rfl (Nat.le_of_ble_eq_true rfl) dX9_sayNear_27 ⟨Nat.zero_le _, Nat.zero_le _⟩ (fun H locs hP hS => ?_)
    refine lv_aload_n hx hb dX9_sayNear_30 rfl (lv_at hl 1 rfl) ?_
    refine lv_bipush (v := (64 : Int32)) hx hb dX9_sayNear_31 (by decide) ?_
    obtain ⟨⟨qmSig_4, qmAns_5⟩, hq, hf⟩ := ob hf
    try dsimp only at hf
    refine mcVv 0 8 (As := [.int (64 : Int32)]) (rest := []) ⟨hx, hb, hml, hown, hts⟩ (ctX9_putSign l D cI cB cZ bd A hAD mVil mBad mFul mLen qmSig_2 mWay mLef mSpo mBeg mTok mVal mWor mNum mThe mRts mLns mOpn mTxt qmAns_3 mWys mSiz mNbs (64 : Int32) qmSig_4 qmAns_5 hq) (cwV 1 hts gX9_sayNear_X9_putSign rfl rfl rfl (by decide +kernel) ⟨Nat.le_of_ble_eq_true rfl, Nat.le_of_ble_eq_true rfl⟩) hK hP hS rfl rfl rfl hl.1 rfl (Nat.le_of_ble_eq_true rfl) dX9_sayNear_33 ⟨Nat.zero_le _, Nat.zero_le _⟩ (fun H locs hP hS => ?_)
    refine lv_aload_n hx hb dX9_sayNear_36 rfl (lv_at hl 1 rfl) ?_
    refine lv_aload_n hx hb dX9_sayNear_37 rfl (lv_at hl 1 rfl) ?_
    refine lv_iload_n hx hb dX9_sayNear_38 rfl (lv_at hl 0 rfl) ?_
    refine lv_aload_n hx hb dX9_sayNear_39 rfl (lv_at hl 1 rfl) ?_
    refine va_get (ci := 8) (v := .ref (bd 8)) (C := RX9) (T := TX9) (N := 22) hx hb hts hiX9 hown hK hP 0 rfl rfl 20 (by decide) (hts _ (List.mem_of_getElem? (i := 1) rfl)) (fun _ h9 => h9) rfl dX9_sayNear_40 ?_
    refine lv_iconst (v := (0 : Int32)) hx hb dX9_sayNear_43 (by decide) ?_
    obtain ⟨hg, hf⟩ := og hf
    refine va_iald hx hb hK hP 8 0 rfl rfl (gI_in hg) dX9_sayNear_44 ?_
    obtain ⟨r_6, hq, hf⟩ := ob hf
    try dsimp only at hf
    refine rcV 0 8 (As := [.int r_1, .int (mNbs (0 : Int32).toNatClampNeg)]) (rest := [.ref (bd 0)]) ⟨hx, hb, hml, hown, hts⟩ (ctX9_farFrom l D cI cB cZ bd mVil mBad mFul mLen qmSig_4 mWay mLef mSpo mBeg mTok mVal mWor mNum mThe mRts mLns mOpn mTxt qmAns_5 mWys mSiz mNbs r_1 (mNbs (0 : Int32).toNatClampNeg) r_6 hq) (cwV 2 hts gX9_sayNear_X9_farFrom rfl rfl rfl (by decide +kernel) ⟨Nat.le_of_ble_eq_true rfl, Nat.le_of_ble_eq_true rfl⟩) hK hP rfl rfl rfl hl.1 rfl (Nat.le_of_ble_eq_true rfl) dX9_sayNear_45 ⟨Nat.zero_le _, Nat.zero_le _⟩ ?_
    obtain ⟨⟨qmSig_7, qmAns_8⟩, hq, hf⟩ := ob hf
    try dsimp only at hf
    refine mcVv 0 8 (As := [.int r_6]) (rest := []) ⟨hx, hb, hml, hown, hts⟩ (ctX9_putNumber l D cI cB cZ bd A hAD mVil mBad mFul mLen qmSig_4 mWay mLef mSpo mBeg mTok mVal mWor mNum mThe mRts mLns mOpn mTxt qmAns_5 mWys mSiz mNbs r_6 qmSig_7 qmAns_8 hq) (cwV 1 hts gX9_sayNear_X9_putNumber rfl rfl rfl (by decide +kernel) ⟨Nat.le_of_ble_eq_true rfl, Nat.le_of_ble_eq_true rfl⟩) hK hP hS rfl rfl rfl hl.1 rfl (Nat.le_of_ble_eq_true rfl) dX9_sayNear_48 ⟨Nat.zero_le _, Nat.zero_le _⟩ (fun H locs hP hS => ?_)
    obtain ⟨e0, hz1⟩ := Prod.mk.inj (Option.some.inj hf)
    subst e0
    subst hz1
    exact rm_v hx hb hr hlk hP hS dX9_sayNear_51
  · replace hf := (if_pos hc).symm.trans hf
    refine lv_aload_n hx hb dX9_sayNear_16 rfl (lv_at hl 1 rfl) ?_
    refine lv_bipush (v := (45 : Int32)) hx hb dX9_sayNear_17 (by decide) ?_
    obtain ⟨⟨qmSig_9, qmAns_10⟩, hq, hf⟩ := ob hf
    try dsimp only at hf
    refine mcVv 0 8 (As := [.int (45 : Int32)]) (rest := []) ⟨hx, hb, hml, hown, hts⟩ (ctX9_putSign l D cI cB cZ bd A hAD mVil mBad mFul mLen mSig mWay mLef mSpo mBeg mTok mVal mWor mNum mThe mRts mLns mOpn mTxt mAns mWys mSiz mNbs (45 : Int32) qmSig_9 qmAns_10 hq) (cwV 1 hts gX9_sayNear_X9_putSign rfl rfl rfl (by decide +kernel) ⟨Nat.le_of_ble_eq_true rfl, Nat.le_of_ble_eq_true rfl⟩) hK hP hS rfl rfl rfl hl.1 rfl (Nat.le_of_ble_eq_true rfl) dX9_sayNear_19 ⟨Nat.zero_le _, Nat.zero_le _⟩ (fun H locs hP hS => ?_)
    refine lv_goto (tgt := 51) hx hb dX9_sayNear_22 (by decide) ?_
    obtain ⟨e0, hz1⟩ := Prod.mk.inj (Option.some.inj hf)
    subst e0
    subst hz1
    exact rm_v hx hb hr hlk hP hS dX9_sayNear_51

def fX9_say_J130 (mVil : Int32) (mSig : Int32) (mWay : Int32) (mRts : Nat → Int32) (mLns : Nat → Int32) (mOpn : Nat → Int32) (mAns : Nat → Int32) (mWys : Nat → Int32) (mNbs : Nat → Int32) (t_1 : Int32) : Option (Int32 × Int32 × Int32 × (Nat → Int32) × (Nat → Int32) × (Nat → Int32) × (Nat → Int32) × (Nat → Int32)) :=
  ((fX9_becomes mOpn (mNbs (0 : Int32).toNatClampNeg) t_1).bind fun (r_2, qmOpn_3) => ((fX9_putNumber mSig mAns r_2).bind fun (qmSig_4, qmAns_5) => (some (mVil, qmSig_4, mWay, mRts, mLns, qmOpn_3, qmAns_5, mWys))))
def fX9_say_J113 (mVil : Int32) (mSig : Int32) (mWay : Int32) (mWor : Int32) (mRts : Nat → Int32) (mLns : Nat → Int32) (mOpn : Nat → Int32) (mAns : Nat → Int32) (mWys : Nat → Int32) (mNbs : Nat → Int32) : Option (Int32 × Int32 × Int32 × (Nat → Int32) × (Nat → Int32) × (Nat → Int32) × (Nat → Int32) × (Nat → Int32)) :=
  (if mWor = (508078 : Int32) then (fX9_say_J130 mVil mSig mWay mRts mLns mOpn mAns mWys mNbs (1 : Int32)) else (fX9_say_J130 mVil mSig mWay mRts mLns mOpn mAns mWys mNbs (0 : Int32)))
def fX9_say (mVil : Int32) (mSig : Int32) (mWay : Int32) (mWor : Int32) (mRts : Nat → Int32) (mLns : Nat → Int32) (mOpn : Nat → Int32) (mAns : Nat → Int32) (mWys : Nat → Int32) (mNbs : Nat → Int32)  : Option (Int32 × Int32 × Int32 × (Nat → Int32) × (Nat → Int32) × (Nat → Int32) × (Nat → Int32) × (Nat → Int32)) :=
  (if gI (0 : Int32) 2 then (if gI (1 : Int32) 2 then (if mWor = (1156 : Int32) then ((fX9_come mVil mRts mLns mOpn (mNbs (0 : Int32).toNatClampNeg) (mNbs (1 : Int32).toNatClampNeg)).bind fun (r_6, qmVil_7, qmRts_8, qmLns_9, qmOpn_10) => ((fX9_putNumber mSig mAns r_6).bind fun (qmSig_11, qmAns_12) => (some (qmVil_7, qmSig_11, mWay, qmRts_8, qmLns_9, qmOpn_10, qmAns_12, mWys)))) else (if mWor = (1420 : Int32) then ((fX9_sayAll mVil mSig mOpn mAns).bind fun (qmSig_13, qmAns_14) => (some (mVil, qmSig_13, mWay, mRts, mLns, mOpn, qmAns_14, mWys))) else (if mWor = (6194 : Int32) then ((fX9_farFrom mRts mLns (mNbs (0 : Int32).toNatClampNeg) (mNbs (1 : Int32).toNatClampNeg)).bind fun r_15 => ((fX9_putNumber mSig mAns r_15).bind fun (qmSig_16, qmAns_17) => (some (mVil, qmSig_16, mWay, mRts, mLns, mOpn, qmAns_17, mWys)))) else (if mWor = (23609 : Int32) then ((fX9_sayWay mSig mWay mRts mAns mWys mNbs).bind fun (qmSig_18, qmWay_19, qmAns_20, qmWys_21) => (some (mVil, qmSig_18, qmWay_19, mRts, mLns, mOpn, qmAns_20, qmWys_21))) else (if mWor = (463922 : Int32) then ((fX9_sayNear mVil mSig mRts mLns mOpn mAns mNbs).bind fun (qmSig_22, qmAns_23) => (some (mVil, qmSig_22, mWay, mRts, mLns, mOpn, qmAns_23, mWys))) else (if mWor = (508078 : Int32) then (fX9_say_J113 mVil mSig mWay mWor mRts mLns mOpn mAns mWys mNbs) else (if mWor = (605220 : Int32) then ((fX9_lengthen mLns (mNbs (0 : Int32).toNatClampNeg) (mNbs (1 : Int32).toNatClampNeg)).bind fun (r_24, qmLns_25) => ((fX9_putNumber mSig mAns r_24).bind fun (qmSig_26, qmAns_27) => (some (mVil, qmSig_26, mWay, mRts, qmLns_25, mOpn, qmAns_27, mWys)))) else (if mWor = (631476 : Int32) then (fX9_say_J113 mVil mSig mWay mWor mRts mLns mOpn mAns mWys mNbs) else (if mWor = (781852974 : Int32) then ((fX9_manyWithin mVil mRts mLns mOpn (mNbs (0 : Int32).toNatClampNeg) (mNbs (1 : Int32).toNatClampNeg)).bind fun r_28 => ((fX9_putNumber mSig mAns r_28).bind fun (qmSig_29, qmAns_30) => (some (mVil, qmSig_29, mWay, mRts, mLns, mOpn, qmAns_30, mWys)))) else ((fX9_sumOfOpen mVil mRts mLns mOpn (mNbs (0 : Int32).toNatClampNeg)).bind fun r_31 => ((fX9_putNumber mSig mAns r_31).bind fun (qmSig_32, qmAns_33) => (some (mVil, qmSig_32, mWay, mRts, mLns, mOpn, qmAns_33, mWys))))))))))))) else none) else none)
set_option maxRecDepth 100000 in
set_option maxHeartbeats 4000000 in
theorem ctX9_say (l : Launch) (D : va_G) (cI cB cZ : ClassId) (bd : Nat → Nat) (A : Nat → Prop) (hAD : AD A bd 9) (mVil mBad mFul mLen mSig mWay mLef mSpo mBeg mTok mVal mWor mNum mThe : Int32) (mRts mLns mOpn mTxt mAns mWys mSiz mNbs : Nat → Int32)  (zmVil : Int32) (zmSig : Int32) (zmWay : Int32) (zmRts : Nat → Int32) (zmLns : Nat → Int32) (zmOpn : Nat → Int32) (zmAns : Nat → Int32) (zmWys : Nat → Int32) (hf : fX9_say mVil mSig mWay mWor mRts mLns mOpn mAns mWys mNbs = some (zmVil, zmSig, zmWay, zmRts, zmLns, zmOpn, zmAns, zmWys)) : Met l yX9_say wsX9_say (rmN 3 69) (PR D (tyL cI cB cZ) (wM cI cB cZ bd mVil mBad mFul mLen mSig mWay mLef mSpo mBeg mTok mVal mWor mNum mThe mRts mLns mOpn mTxt mAns mWys mSiz mNbs) [.ref (bd 0)]) (QV D (wM cI cB cZ bd zmVil mBad mFul mLen zmSig zmWay mLef mSpo mBeg mTok mVal mWor mNum mThe zmRts zmLns zmOpn mTxt zmAns zmWys mSiz mNbs) A) 0 0 A := by
  refine mk_met cX9_say 3 none (by decide) rfl (Nat.le_of_ble_eq_true rfl) ?_
  intro p e s m args below meth c ls hx hb hr hlk hml hown hts hPK hl
  obtain ⟨hP, hK⟩ := hPK
  replace hl : lv_has ls 3 [(0, .ref (bd 0))] := hl
  replace hown : s.vm.findClass RX9 = some m.cls := hown
  have hiX9 : ∀ w ∈ wsX90, w ∈ wsX9_say := fun w h => List.mem_cons_of_mem _ (List.mem_append_right _ h)
  have hS : va_S A s.heap s.heap [] := va_S.rf
  unfold fX9_say at hf
  refine lv_aload_n hx hb dX9_say_0 rfl (lv_at hl 0 rfl) ?_
  refine va_get (ci := 8) (v := .ref (bd 8)) (C := RX9) (T := TX9) (N := 22) hx hb hts hiX9 hown hK hP 0 rfl rfl 20 (by decide) (hts _ (List.mem_of_getElem? (i := 1) rfl)) (fun _ h9 => h9) rfl dX9_say_1 ?_
  refine lv_iconst (v := (0 : Int32)) hx hb dX9_say_4 (by decide) ?_
  obtain ⟨hg, hf⟩ := og hf
  refine va_iald hx hb hK hP 8 0 rfl rfl (gI_in hg) dX9_say_5 ?_
  refine lv_istore_n (lv' := [(1, .int (mNbs (0 : Int32).toNatClampNeg)), (0, .ref (bd 0))]) hx hb dX9_say_6 rfl hl (by decide) rfl (fun ls hl => ?_)
  refine lv_aload_n hx hb dX9_say_7 rfl (lv_at hl 1 rfl) ?_
  refine va_get (ci := 8) (v := .ref (bd 8)) (C := RX9) (T := TX9) (N := 22) hx hb hts hiX9 hown hK hP 0 rfl rfl 20 (by decide) (hts _ (List.mem_of_getElem? (i := 1) rfl)) (fun _ h9 => h9) rfl dX9_say_8 ?_
  refine lv_iconst (v := (1 : Int32)) hx hb dX9_say_11 (by decide) ?_
  obtain ⟨hg, hf⟩ := og hf
  refine va_iald hx hb hK hP 8 0 rfl rfl (gI_in hg) dX9_say_12 ?_
  refine lv_istore_n (lv' := [(2, .int (mNbs (1 : Int32).toNatClampNeg)), (1, .int (mNbs (0 : Int32).toNatClampNeg)), (0, .ref (bd 0))]) hx hb dX9_say_13 rfl hl (by decide) rfl (fun ls hl => ?_)
  refine lv_aload_n hx hb dX9_say_14 rfl (lv_at hl 2 rfl) ?_
  refine va_get (ci := 8) (v := .int mWor) (C := RX9) (T := TX9) (N := 22) hx hb hts hiX9 hown hK hP 0 rfl rfl 18 (by decide) (hts _ (List.mem_of_getElem? (i := 2) rfl)) (fun _ h9 => h9) rfl dX9_say_15 ?_
  have hJ113 : ∀  (H : Heap) (locs : List Loc) (ls : Array Slot), fX9_say_J113 mVil mSig mWay mWor mRts mLns mOpn mAns mWys mNbs = some (zmVil, zmSig, zmWay, zmRts, zmLns, zmOpn, zmAns, zmWys) → va_P D vwCl (wM cI cB cZ bd mVil mBad mFul mLen mSig mWay mLef mSpo mBeg mTok mVal mWor mNum mThe mRts mLns mOpn mTxt mAns mWys mSiz mNbs) H → va_S A s.heap H locs → lv_has ls 3 [(0, .ref (bd 0)), (1, .int (mNbs (0 : Int32).toNatClampNeg)), (2, .int (mNbs (1 : Int32).toNatClampNeg))] → W p l e (rmN 3 69) s m args below meth c H locs 0 0 (MQ below (QV D (wM cI cB cZ bd zmVil mBad mFul mLen zmSig zmWay mLef mSpo mBeg mTok mVal mWor mNum mThe zmRts zmLns zmOpn mTxt zmAns zmWys mSiz mNbs) A) args s 0 0 A) (F0 m 113 ls []) := by
    intro  H locs ls hf hP hS hl
    unfold fX9_say_J113 at hf
    refine lv_aload_n hx hb dX9_say_113 rfl (lv_at hl 0 rfl) ?_
    refine lv_aload_n hx hb dX9_say_114 rfl (lv_at hl 0 rfl) ?_
    refine lv_iload_n hx hb dX9_say_115 rfl (lv_at hl 1 rfl) ?_
    refine lv_aload_n hx hb dX9_say_116 rfl (lv_at hl 0 rfl) ?_
    refine va_get (ci := 8) (v := .int mWor) (C := RX9) (T := TX9) (N := 22) hx hb hts hiX9 hown hK hP 0 rfl rfl 18 (by decide) (hts _ (List.mem_of_getElem? (i := 2) rfl)) (fun _ h9 => h9) rfl dX9_say_117 ?_
    refine lv_ldc (v := (508078 : Int32)) hx hb hown (hts _ (List.mem_of_getElem? (i := 3) rfl)) dX9_say_120 ?_
    have hJ130 : ∀ (t_1 : Int32) (H : Heap) (locs : List Loc) (ls : Array Slot), fX9_say_J130 mVil mSig mWay mRts mLns mOpn mAns mWys mNbs t_1 = some (zmVil, zmSig, zmWay, zmRts, zmLns, zmOpn, zmAns, zmWys) → va_P D vwCl (wM cI cB cZ bd mVil mBad mFul mLen mSig mWay mLef mSpo mBeg mTok mVal mWor mNum mThe mRts mLns mOpn mTxt mAns mWys mSiz mNbs) H → va_S A s.heap H locs → lv_has ls 3 [(0, .ref (bd 0)), (1, .int (mNbs (0 : Int32).toNatClampNeg)), (2, .int (mNbs (1 : Int32).toNatClampNeg))] → W p l e (rmN 3 69) s m args below meth c H locs 0 0 (MQ below (QV D (wM cI cB cZ bd zmVil mBad mFul mLen zmSig zmWay mLef mSpo mBeg mTok mVal mWor mNum mThe zmRts zmLns zmOpn mTxt zmAns zmWys mSiz mNbs) A) args s 0 0 A) (F0 m 130 ls [.int t_1, .int (mNbs (0 : Int32).toNatClampNeg), .ref (bd 0), .ref (bd 0)]) := by
      intro t_1 H locs ls hf hP hS hl
      unfold fX9_say_J130 at hf
      obtain ⟨⟨r_2, qmOpn_3⟩, hq, hf⟩ := ob hf
      try dsimp only at hf
      refine mcVi 0 8 (As := [.int (mNbs (0 : Int32).toNatClampNeg), .int t_1]) (rest := [.ref (bd 0)]) ⟨hx, hb, hml, hown, hts⟩ (ctX9_becomes l D cI cB cZ bd A hAD mVil mBad mFul mLen mSig mWay mLef mSpo mBeg mTok mVal mWor mNum mThe mRts mLns mOpn mTxt mAns mWys mSiz mNbs (mNbs (0 : Int32).toNatClampNeg) t_1 r_2 qmOpn_3 hq) (cwV 2 hts gX9_say_X9_becomes rfl rfl rfl (by decide +kernel) ⟨Nat.le_of_ble_eq_true rfl, Nat.le_of_ble_eq_true rfl⟩) hK hP hS rfl rfl rfl hl.1 rfl (Nat.le_of_ble_eq_true rfl) dX9_say_130 ⟨Nat.zero_le _, Nat.zero_le _⟩ (fun H locs hP hS => ?_)
      obtain ⟨⟨qmSig_4, qmAns_5⟩, hq, hf⟩ := ob hf
      try dsimp only at hf
      refine mcVv 0 8 (As := [.int r_2]) (rest := []) ⟨hx, hb, hml, hown, hts⟩ (ctX9_putNumber l D cI cB cZ bd A hAD mVil mBad mFul mLen mSig mWay mLef mSpo mBeg mTok mVal mWor mNum mThe mRts mLns qmOpn_3 mTxt mAns mWys mSiz mNbs r_2 qmSig_4 qmAns_5 hq) (cwV 1 hts gX9_say_X9_putNumber rfl rfl rfl (by decide +kernel) ⟨Nat.le_of_ble_eq_true rfl, Nat.le_of_ble_eq_true rfl⟩) hK hP hS rfl rfl rfl hl.1 rfl (Nat.le_of_ble_eq_true rfl) dX9_say_133 ⟨Nat.zero_le _, Nat.zero_le _⟩ (fun H locs hP hS => ?_)
      refine lv_goto (tgt := 208) hx hb dX9_say_136 (by decide) ?_
      obtain ⟨e0, hz1⟩ := Prod.mk.inj (Option.some.inj hf)
      obtain ⟨e1, hz2⟩ := Prod.mk.inj hz1
      obtain ⟨e2, hz3⟩ := Prod.mk.inj hz2
      obtain ⟨e3, hz4⟩ := Prod.mk.inj hz3
      obtain ⟨e4, hz5⟩ := Prod.mk.inj hz4
      obtain ⟨e5, hz6⟩ := Prod.mk.inj hz5
      obtain ⟨e6, hz7⟩ := Prod.mk.inj hz6
      subst e0
      subst e1
      subst e2
      subst e3
      subst e4
      subst e5
      subst e6
      subst hz7
      exact rm_v hx hb hr hlk hP hS dX9_say_208
    refine lv_icmp_ne (tgt := 129) hx hb dX9_say_122 (by decide) (fun hc => ?_) (fun hc => ?_)
    · replace hf := (if_neg hc).symm.trans hf
      refine lv_iconst (v := (0 : Int32)) hx hb dX9_say_129 (by decide) ?_
      exact hJ130 _ _ _ _ hf hP hS (lv_sub hl [0, 1, 2] rfl)
    · replace hf := (if_pos hc).symm.trans hf
      refine lv_iconst (v := (1 : Int32)) hx hb dX9_say_125 (by decide) ?_
      refine lv_goto (tgt := 130) hx hb dX9_say_126 (by decide) ?_
      exact hJ130 _ _ _ _ hf hP hS (lv_sub hl [0, 1, 2] rfl)
  by_cases hc1156 : mWor = (1156 : Int32)
  · replace hf := (if_pos hc1156).symm.trans hf
    refine lv_lookup (tgt := 100) (off := 82) hx hb dX9_say_18 (by decide) (by rw [hc1156]; decide) (by decide) ?_
    refine lv_aload_n hx hb dX9_say_100 rfl (lv_at hl 2 rfl) ?_
    refine lv_aload_n hx hb dX9_say_101 rfl (lv_at hl 2 rfl) ?_
    refine lv_iload_n hx hb dX9_say_102 rfl (lv_at hl 1 rfl) ?_
    refine lv_iload_n hx hb dX9_say_103 rfl (lv_at hl 0 rfl) ?_
    obtain ⟨⟨r_6, qmVil_7, qmRts_8, qmLns_9, qmOpn_10⟩, hq, hf⟩ := ob hf
    try dsimp only at hf
    refine mcVi 0 8 (As := [.int (mNbs (0 : Int32).toNatClampNeg), .int (mNbs (1 : Int32).toNatClampNeg)]) (rest := [.ref (bd 0)]) ⟨hx, hb, hml, hown, hts⟩ (ctX9_come l D cI cB cZ bd A hAD mVil mBad mFul mLen mSig mWay mLef mSpo mBeg mTok mVal mWor mNum mThe mRts mLns mOpn mTxt mAns mWys mSiz mNbs (mNbs (0 : Int32).toNatClampNeg) (mNbs (1 : Int32).toNatClampNeg) r_6 qmVil_7 qmRts_8 qmLns_9 qmOpn_10 hq) (cwV 2 hts gX9_say_X9_come rfl rfl rfl (by decide +kernel) ⟨Nat.le_of_ble_eq_true rfl, Nat.le_of_ble_eq_true rfl⟩) hK hP hS rfl rfl rfl hl.1 rfl (Nat.le_of_ble_eq_true rfl) dX9_say_104 ⟨Nat.zero_le _, Nat.zero_le _⟩ (fun H locs hP hS => ?_)
    obtain ⟨⟨qmSig_11, qmAns_12⟩, hq, hf⟩ := ob hf
    try dsimp only at hf
    refine mcVv 0 8 (As := [.int r_6]) (rest := []) ⟨hx, hb, hml, hown, hts⟩ (ctX9_putNumber l D cI cB cZ bd A hAD qmVil_7 mBad mFul mLen mSig mWay mLef mSpo mBeg mTok mVal mWor mNum mThe qmRts_8 qmLns_9 qmOpn_10 mTxt mAns mWys mSiz mNbs r_6 qmSig_11 qmAns_12 hq) (cwV 1 hts gX9_say_X9_putNumber rfl rfl rfl (by decide +kernel) ⟨Nat.le_of_ble_eq_true rfl, Nat.le_of_ble_eq_true rfl⟩) hK hP hS rfl rfl rfl hl.1 rfl (Nat.le_of_ble_eq_true rfl) dX9_say_107 ⟨Nat.zero_le _, Nat.zero_le _⟩ (fun H locs hP hS => ?_)
    refine lv_goto (tgt := 208) hx hb dX9_say_110 (by decide) ?_
    obtain ⟨e0, hz1⟩ := Prod.mk.inj (Option.some.inj hf)
    obtain ⟨e1, hz2⟩ := Prod.mk.inj hz1
    obtain ⟨e2, hz3⟩ := Prod.mk.inj hz2
    obtain ⟨e3, hz4⟩ := Prod.mk.inj hz3
    obtain ⟨e4, hz5⟩ := Prod.mk.inj hz4
    obtain ⟨e5, hz6⟩ := Prod.mk.inj hz5
    obtain ⟨e6, hz7⟩ := Prod.mk.inj hz6
    subst e0
    subst e1
    subst e2
    subst e3
    subst e4
    subst e5
    subst e6
    subst hz7
    exact rm_v hx hb hr hlk hP hS dX9_say_208
  replace hf := (if_neg hc1156).symm.trans hf
  by_cases hc1420 : mWor = (1420 : Int32)
  · replace hf := (if_pos hc1420).symm.trans hf
    refine lv_lookup (tgt := 192) (off := 174) hx hb dX9_say_18 (by decide) (by rw [hc1420]; decide) (by decide) ?_
    refine lv_aload_n hx hb dX9_say_192 rfl (lv_at hl 2 rfl) ?_
    obtain ⟨⟨qmSig_13, qmAns_14⟩, hq, hf⟩ := ob hf
    try dsimp only at hf
    refine mcVv 0 8 (As := []) (rest := []) ⟨hx, hb, hml, hown, hts⟩ (ctX9_sayAll l D cI cB cZ bd A hAD mVil mBad mFul mLen mSig mWay mLef mSpo mBeg mTok mVal mWor mNum mThe mRts mLns mOpn mTxt mAns mWys mSiz mNbs  qmSig_13 qmAns_14 hq) (cwV 0 hts gX9_say_X9_sayAll rfl rfl rfl (by decide +kernel) ⟨Nat.le_of_ble_eq_true rfl, Nat.le_of_ble_eq_true rfl⟩) hK hP hS rfl rfl rfl hl.1 rfl (Nat.le_of_ble_eq_true rfl) dX9_say_193 ⟨Nat.zero_le _, Nat.zero_le _⟩ (fun H locs hP hS => ?_)
    refine lv_goto (tgt := 208) hx hb dX9_say_196 (by decide) ?_
    obtain ⟨e0, hz1⟩ := Prod.mk.inj (Option.some.inj hf)
    obtain ⟨e1, hz2⟩ := Prod.mk.inj hz1
    obtain ⟨e2, hz3⟩ := Prod.mk.inj hz2
    obtain ⟨e3, hz4⟩ := Prod.mk.inj hz3
    obtain ⟨e4, hz5⟩ := Prod.mk.inj hz4
    obtain ⟨e5, hz6⟩ := Prod.mk.inj hz5
    obtain ⟨e6, hz7⟩ := Prod.mk.inj hz6
    subst e0
    subst e1
    subst e2
    subst e3
    subst e4
    subst e5
    subst e6
    subst hz7
    exact rm_v hx hb hr hlk hP hS dX9_say_208
  replace hf := (if_neg hc1420).symm.trans hf
  by_cases hc6194 : mWor = (6194 : Int32)
  · replace hf := (if_pos hc6194).symm.trans hf
    refine lv_lookup (tgt := 159) (off := 141) hx hb dX9_say_18 (by decide) (by rw [hc6194]; decide) (by decide) ?_
    refine lv_aload_n hx hb dX9_say_159 rfl (lv_at hl 2 rfl) ?_
    refine lv_aload_n hx hb dX9_say_160 rfl (lv_at hl 2 rfl) ?_
    refine lv_iload_n hx hb dX9_say_161 rfl (lv_at hl 1 rfl) ?_
    refine lv_iload_n hx hb dX9_say_162 rfl (lv_at hl 0 rfl) ?_
    obtain ⟨r_15, hq, hf⟩ := ob hf
    try dsimp only at hf
    refine rcV 0 8 (As := [.int (mNbs (0 : Int32).toNatClampNeg), .int (mNbs (1 : Int32).toNatClampNeg)]) (rest := [.ref (bd 0)]) ⟨hx, hb, hml, hown, hts⟩ (ctX9_farFrom l D cI cB cZ bd mVil mBad mFul mLen mSig mWay mLef mSpo mBeg mTok mVal mWor mNum mThe mRts mLns mOpn mTxt mAns mWys mSiz mNbs (mNbs (0 : Int32).toNatClampNeg) (mNbs (1 : Int32).toNatClampNeg) r_15 hq) (cwV 2 hts gX9_say_X9_farFrom rfl rfl rfl (by decide +kernel) ⟨Nat.le_of_ble_eq_true rfl, Nat.le_of_ble_eq_true rfl⟩) hK hP rfl rfl rfl hl.1 rfl (Nat.le_of_ble_eq_true rfl) dX9_say_163 ⟨Nat.zero_le _, Nat.zero_le _⟩ ?_
    obtain ⟨⟨qmSig_16, qmAns_17⟩, hq, hf⟩ := ob hf
    try dsimp only at hf
    refine mcVv 0 8 (As := [.int r_15]) (rest := []) ⟨hx, hb, hml, hown, hts⟩ (ctX9_putNumber l D cI cB cZ bd A hAD mVil mBad mFul mLen mSig mWay mLef mSpo mBeg mTok mVal mWor mNum mThe mRts mLns mOpn mTxt mAns mWys mSiz mNbs r_15 qmSig_16 qmAns_17 hq) (cwV 1 hts gX9_say_X9_putNumber rfl rfl rfl (by decide +kernel) ⟨Nat.le_of_ble_eq_true rfl, Nat.le_of_ble_eq_true rfl⟩) hK hP hS rfl rfl rfl hl.1 rfl (Nat.le_of_ble_eq_true rfl) dX9_say_166 ⟨Nat.zero_le _, Nat.zero_le _⟩ (fun H locs hP hS => ?_)
    refine lv_goto (tgt := 208) hx hb dX9_say_169 (by decide) ?_
    obtain ⟨e0, hz1⟩ := Prod.mk.inj (Option.some.inj hf)
    obtain ⟨e1, hz2⟩ := Prod.mk.inj hz1
    obtain ⟨e2, hz3⟩ := Prod.mk.inj hz2
    obtain ⟨e3, hz4⟩ := Prod.mk.inj hz3
    obtain ⟨e4, hz5⟩ := Prod.mk.inj hz4
    obtain ⟨e5, hz6⟩ := Prod.mk.inj hz5
    obtain ⟨e6, hz7⟩ := Prod.mk.inj hz6
    subst e0
    subst e1
    subst e2
    subst e3
    subst e4
    subst e5
    subst e6
    subst hz7
    exact rm_v hx hb hr hlk hP hS dX9_say_208
  replace hf := (if_neg hc6194).symm.trans hf
  by_cases hc23609 : mWor = (23609 : Int32)
  · replace hf := (if_pos hc23609).symm.trans hf
    refine lv_lookup (tgt := 172) (off := 154) hx hb dX9_say_18 (by decide) (by rw [hc23609]; decide) (by decide) ?_
    refine lv_aload_n hx hb dX9_say_172 rfl (lv_at hl 2 rfl) ?_
    obtain ⟨⟨qmSig_18, qmWay_19, qmAns_20, qmWys_21⟩, hq, hf⟩ := ob hf
    try dsimp only at hf
    refine mcVv 0 8 (As := []) (rest := []) ⟨hx, hb, hml, hown, hts⟩ (ctX9_sayWay l D cI cB cZ bd A hAD mVil mBad mFul mLen mSig mWay mLef mSpo mBeg mTok mVal mWor mNum mThe mRts mLns mOpn mTxt mAns mWys mSiz mNbs  qmSig_18 qmWay_19 qmAns_20 qmWys_21 hq) (cwV 0 hts gX9_say_X9_sayWay rfl rfl rfl (by decide +kernel) ⟨Nat.le_of_ble_eq_true rfl, Nat.le_of_ble_eq_true rfl⟩) hK hP hS rfl rfl rfl hl.1 rfl (Nat.le_of_ble_eq_true rfl) dX9_say_173 ⟨Nat.zero_le _, Nat.zero_le _⟩ (fun H locs hP hS => ?_)
    refine lv_goto (tgt := 208) hx hb dX9_say_176 (by decide) ?_
    obtain ⟨e0, hz1⟩ := Prod.mk.inj (Option.some.inj hf)
    obtain ⟨e1, hz2⟩ := Prod.mk.inj hz1
    obtain ⟨e2, hz3⟩ := Prod.mk.inj hz2
    obtain ⟨e3, hz4⟩ := Prod.mk.inj hz3
    obtain ⟨e4, hz5⟩ := Prod.mk.inj hz4
    obtain ⟨e5, hz6⟩ := Prod.mk.inj hz5
    obtain ⟨e6, hz7⟩ := Prod.mk.inj hz6
    subst e0
    subst e1
    subst e2
    subst e3
    subst e4
    subst e5
    subst e6
    subst hz7
    exact rm_v hx hb hr hlk hP hS dX9_say_208
  replace hf := (if_neg hc23609).symm.trans hf
  by_cases hc463922 : mWor = (463922 : Int32)
  · replace hf := (if_pos hc463922).symm.trans hf
    refine lv_lookup (tgt := 152) (off := 134) hx hb dX9_say_18 (by decide) (by rw [hc463922]; decide) (by decide) ?_
    refine lv_aload_n hx hb dX9_say_152 rfl (lv_at hl 2 rfl) ?_
    obtain ⟨⟨qmSig_22, qmAns_23⟩, hq, hf⟩ := ob hf
    try dsimp only at hf
    refine mcVv 0 8 (As := []) (rest := []) ⟨hx, hb, hml, hown, hts⟩ (ctX9_sayNear l D cI cB cZ bd A hAD mVil mBad mFul mLen mSig mWay mLef mSpo mBeg mTok mVal mWor mNum mThe mRts mLns mOpn mTxt mAns mWys mSiz mNbs  qmSig_22 qmAns_23 hq) (cwV 0 hts gX9_say_X9_sayNear rfl rfl rfl (by decide +kernel) ⟨Nat.le_of_ble_eq_true rfl, Nat.le_of_ble_eq_true rfl⟩) hK hP hS rfl rfl rfl hl.1 rfl (Nat.le_of_ble_eq_true rfl) dX9_say_153 ⟨Nat.zero_le _, Nat.zero_le _⟩ (fun H locs hP hS => ?_)
    refine lv_goto (tgt := 208) hx hb dX9_say_156 (by decide) ?_
    obtain ⟨e0, hz1⟩ := Prod.mk.inj (Option.some.inj hf)
    obtain ⟨e1, hz2⟩ := Prod.mk.inj hz1
    obtain ⟨e2, hz3⟩ := Prod.mk.inj hz2
    obtain ⟨e3, hz4⟩ := Prod.mk.inj hz3
    obtain ⟨e4, hz5⟩ := Prod.mk.inj hz4
    obtain ⟨e5, hz6⟩ := Prod.mk.inj hz5
    obtain ⟨e6, hz7⟩ := Prod.mk.inj hz6
    subst e0
    subst e1
    subst e2
    subst e3
    subst e4
    subst e5
    subst e6
    subst hz7
    exact rm_v hx hb hr hlk hP hS dX9_say_208
  replace hf := (if_neg hc463922).symm.trans hf
  by_cases hc508078 : mWor = (508078 : Int32)
  · replace hf := (if_pos hc508078).symm.trans hf
    refine lv_lookup (tgt := 113) (off := 95) hx hb dX9_say_18 (by decide) (by rw [hc508078]; decide) (by decide) ?_
    exact hJ113  _ _ _ hf hP hS (lv_sub hl [2, 1, 0] rfl)
  replace hf := (if_neg hc508078).symm.trans hf
  by_cases hc605220 : mWor = (605220 : Int32)
  · replace hf := (if_pos hc605220).symm.trans hf
    refine lv_lookup (tgt := 139) (off := 121) hx hb dX9_say_18 (by decide) (by rw [hc605220]; decide) (by decide) ?_
    refine lv_aload_n hx hb dX9_say_139 rfl (lv_at hl 2 rfl) ?_
    refine lv_aload_n hx hb dX9_say_140 rfl (lv_at hl 2 rfl) ?_
    refine lv_iload_n hx hb dX9_say_141 rfl (lv_at hl 1 rfl) ?_
    refine lv_iload_n hx hb dX9_say_142 rfl (lv_at hl 0 rfl) ?_
    obtain ⟨⟨r_24, qmLns_25⟩, hq, hf⟩ := ob hf
    try dsimp only at hf
    refine mcVi 0 8 (As := [.int (mNbs (0 : Int32).toNatClampNeg), .int (mNbs (1 : Int32).toNatClampNeg)]) (rest := [.ref (bd 0)]) ⟨hx, hb, hml, hown, hts⟩ (ctX9_lengthen l D cI cB cZ bd A hAD mVil mBad mFul mLen mSig mWay mLef mSpo mBeg mTok mVal mWor mNum mThe mRts mLns mOpn mTxt mAns mWys mSiz mNbs (mNbs (0 : Int32).toNatClampNeg) (mNbs (1 : Int32).toNatClampNeg) r_24 qmLns_25 hq) (cwV 2 hts gX9_say_X9_lengthen rfl rfl rfl (by decide +kernel) ⟨Nat.le_of_ble_eq_true rfl, Nat.le_of_ble_eq_true rfl⟩) hK hP hS rfl rfl rfl hl.1 rfl (Nat.le_of_ble_eq_true rfl) dX9_say_143 ⟨Nat.zero_le _, Nat.zero_le _⟩ (fun H locs hP hS => ?_)
    obtain ⟨⟨qmSig_26, qmAns_27⟩, hq, hf⟩ := ob hf
    try dsimp only at hf
    refine mcVv 0 8 (As := [.int r_24]) (rest := []) ⟨hx, hb, hml, hown, hts⟩ (ctX9_putNumber l D cI cB cZ bd A hAD mVil mBad mFul mLen mSig mWay mLef mSpo mBeg mTok mVal mWor mNum mThe mRts qmLns_25 mOpn mTxt mAns mWys mSiz mNbs r_24 qmSig_26 qmAns_27 hq) (cwV 1 hts gX9_say_X9_putNumber rfl rfl rfl (by decide +kernel) ⟨Nat.le_of_ble_eq_true rfl, Nat.le_of_ble_eq_true rfl⟩) hK hP hS rfl rfl rfl hl.1 rfl (Nat.le_of_ble_eq_true rfl) dX9_say_146 ⟨Nat.zero_le _, Nat.zero_le _⟩ (fun H locs hP hS => ?_)
    refine lv_goto (tgt := 208) hx hb dX9_say_149 (by decide) ?_
    obtain ⟨e0, hz1⟩ := Prod.mk.inj (Option.some.inj hf)
    obtain ⟨e1, hz2⟩ := Prod.mk.inj hz1
    obtain ⟨e2, hz3⟩ := Prod.mk.inj hz2
    obtain ⟨e3, hz4⟩ := Prod.mk.inj hz3
    obtain ⟨e4, hz5⟩ := Prod.mk.inj hz4
    obtain ⟨e5, hz6⟩ := Prod.mk.inj hz5
    obtain ⟨e6, hz7⟩ := Prod.mk.inj hz6
    subst e0
    subst e1
    subst e2
    subst e3
    subst e4
    subst e5
    subst e6
    subst hz7
    exact rm_v hx hb hr hlk hP hS dX9_say_208
  replace hf := (if_neg hc605220).symm.trans hf
  by_cases hc631476 : mWor = (631476 : Int32)
  · replace hf := (if_pos hc631476).symm.trans hf
    refine lv_lookup (tgt := 113) (off := 95) hx hb dX9_say_18 (by decide) (by rw [hc631476]; decide) (by decide) ?_
    exact hJ113  _ _ _ hf hP hS (lv_sub hl [2, 1, 0] rfl)
  replace hf := (if_neg hc631476).symm.trans hf
  by_cases hc781852974 : mWor = (781852974 : Int32)
  · replace hf := (if_pos hc781852974).symm.trans hf
    refine lv_lookup (tgt := 179) (off := 161) hx hb dX9_say_18 (by decide) (by rw [hc781852974]; decide) (by decide) ?_
    refine lv_aload_n hx hb dX9_say_179 rfl (lv_at hl 2 rfl) ?_
    refine lv_aload_n hx hb dX9_say_180 rfl (lv_at hl 2 rfl) ?_
    refine lv_iload_n hx hb dX9_say_181 rfl (lv_at hl 1 rfl) ?_
    refine lv_iload_n hx hb dX9_say_182 rfl (lv_at hl 0 rfl) ?_
    obtain ⟨r_28, hq, hf⟩ := ob hf
    try dsimp only at hf
    refine rcV 0 8 (As := [.int (mNbs (0 : Int32).toNatClampNeg), .int (mNbs (1 : Int32).toNatClampNeg)]) (rest := [.ref (bd 0)]) ⟨hx, hb, hml, hown, hts⟩ (ctX9_manyWithin l D cI cB cZ bd mVil mBad mFul mLen mSig mWay mLef mSpo mBeg mTok mVal mWor mNum mThe mRts mLns mOpn mTxt mAns mWys mSiz mNbs (mNbs (0 : Int32).toNatClampNeg) (mNbs (1 : Int32).toNatClampNeg) r_28 hq) (cwV 2 hts gX9_say_X9_manyWithin rfl rfl rfl (by decide +kernel) ⟨Nat.le_of_ble_eq_true rfl, Nat.le_of_ble_eq_true rfl⟩) hK hP rfl rfl rfl hl.1 rfl (Nat.le_of_ble_eq_true rfl) dX9_say_183 ⟨Nat.zero_le _, Nat.zero_le _⟩ ?_
    obtain ⟨⟨qmSig_29, qmAns_30⟩, hq, hf⟩ := ob hf
    try dsimp only at hf
    refine mcVv 0 8 (As := [.int r_28]) (rest := []) ⟨hx, hb, hml, hown, hts⟩ (ctX9_putNumber l D cI cB cZ bd A hAD mVil mBad mFul mLen mSig mWay mLef mSpo mBeg mTok mVal mWor mNum mThe mRts mLns mOpn mTxt mAns mWys mSiz mNbs r_28 qmSig_29 qmAns_30 hq) (cwV 1 hts gX9_say_X9_putNumber rfl rfl rfl (by decide +kernel) ⟨Nat.le_of_ble_eq_true rfl, Nat.le_of_ble_eq_true rfl⟩) hK hP hS rfl rfl rfl hl.1 rfl (Nat.le_of_ble_eq_true rfl) dX9_say_186 ⟨Nat.zero_le _, Nat.zero_le _⟩ (fun H locs hP hS => ?_)
    refine lv_goto (tgt := 208) hx hb dX9_say_189 (by decide) ?_
    obtain ⟨e0, hz1⟩ := Prod.mk.inj (Option.some.inj hf)
    obtain ⟨e1, hz2⟩ := Prod.mk.inj hz1
    obtain ⟨e2, hz3⟩ := Prod.mk.inj hz2
    obtain ⟨e3, hz4⟩ := Prod.mk.inj hz3
    obtain ⟨e4, hz5⟩ := Prod.mk.inj hz4
    obtain ⟨e5, hz6⟩ := Prod.mk.inj hz5
    obtain ⟨e6, hz7⟩ := Prod.mk.inj hz6
    subst e0
    subst e1
    subst e2
    subst e3
    subst e4
    subst e5
    subst e6
    subst hz7
    exact rm_v hx hb hr hlk hP hS dX9_say_208
  replace hf := (if_neg hc781852974).symm.trans hf
  refine lv_lookup (tgt := 199) (off := 181) hx hb dX9_say_18 (by decide) (by rw [lv_osw hc1156 (by decide)]; rw [lv_osw hc1420 (by decide)]; rw [lv_osw hc6194 (by decide)]; rw [lv_osw hc23609 (by decide)]; rw [lv_osw hc463922 (by decide)]; rw [lv_osw hc508078 (by decide)]; rw [lv_osw hc605220 (by decide)]; rw [lv_osw hc631476 (by decide)]; rw [lv_osw hc781852974 (by decide)]; rfl) (by decide) ?_
  refine lv_aload_n hx hb dX9_say_199 rfl (lv_at hl 2 rfl) ?_
  refine lv_aload_n hx hb dX9_say_200 rfl (lv_at hl 2 rfl) ?_
  refine lv_iload_n hx hb dX9_say_201 rfl (lv_at hl 1 rfl) ?_
  obtain ⟨r_31, hq, hf⟩ := ob hf
  try dsimp only at hf
  refine rcV 0 8 (As := [.int (mNbs (0 : Int32).toNatClampNeg)]) (rest := [.ref (bd 0)]) ⟨hx, hb, hml, hown, hts⟩ (ctX9_sumOfOpen l D cI cB cZ bd mVil mBad mFul mLen mSig mWay mLef mSpo mBeg mTok mVal mWor mNum mThe mRts mLns mOpn mTxt mAns mWys mSiz mNbs (mNbs (0 : Int32).toNatClampNeg) r_31 hq) (cwV 1 hts gX9_say_X9_sumOfOpen rfl rfl rfl (by decide +kernel) ⟨Nat.le_of_ble_eq_true rfl, Nat.le_of_ble_eq_true rfl⟩) hK hP rfl rfl rfl hl.1 rfl (Nat.le_of_ble_eq_true rfl) dX9_say_202 ⟨Nat.zero_le _, Nat.zero_le _⟩ ?_
  obtain ⟨⟨qmSig_32, qmAns_33⟩, hq, hf⟩ := ob hf
  try dsimp only at hf
  refine mcVv 0 8 (As := [.int r_31]) (rest := []) ⟨hx, hb, hml, hown, hts⟩ (ctX9_putNumber l D cI cB cZ bd A hAD mVil mBad mFul mLen mSig mWay mLef mSpo mBeg mTok mVal mWor mNum mThe mRts mLns mOpn mTxt mAns mWys mSiz mNbs r_31 qmSig_32 qmAns_33 hq) (cwV 1 hts gX9_say_X9_putNumber rfl rfl rfl (by decide +kernel) ⟨Nat.le_of_ble_eq_true rfl, Nat.le_of_ble_eq_true rfl⟩) hK hP hS rfl rfl rfl hl.1 rfl (Nat.le_of_ble_eq_true rfl) dX9_say_205 ⟨Nat.zero_le _, Nat.zero_le _⟩ (fun H locs hP hS => ?_)
  obtain ⟨e0, hz1⟩ := Prod.mk.inj (Option.some.inj hf)
  obtain ⟨e1, hz2⟩ := Prod.mk.inj hz1
  obtain ⟨e2, hz3⟩ := Prod.mk.inj hz2
  obtain ⟨e3, hz4⟩ := Prod.mk.inj hz3
  obtain ⟨e4, hz5⟩ := Prod.mk.inj hz4
  obtain ⟨e5, hz6⟩ := Prod.mk.inj hz5
  obtain ⟨e6, hz7⟩ := Prod.mk.inj hz6
  subst e0
  subst e1
  subst e2
  subst e3
  subst e4
  subst e5
  subst e6
  subst hz7
  exact rm_v hx hb hr hlk hP hS dX9_say_208

def fX9_says_J26 (mVil : Int32) (mLen : Int32) (mSig : Int32) (mWay : Int32) (mRts : Nat → Int32) (mLns : Nat → Int32) (mOpn : Nat → Int32) (mTxt : Nat → Int32) (mAns : Nat → Int32) (mWys : Nat → Int32) (v1_1 : Int32) (wmSpo_2 : Int32) (wmBeg_3 : Int32) (wmTok_4 : Int32) (wmVal_5 : Int32) (wmWor_6 : Int32) (wmThe_7 : Int32) (wmNbs_8 : Nat → Int32) (kk : (Int32 × Int32 × Int32 × Int32 × Int32 × Int32 × Int32 × (Nat → Int32)) → Option (Int32 × Int32 × Int32 × Int32 × Int32 × Int32 × Int32 × Int32 × Int32 × Int32 × (Nat → Int32) × (Nat → Int32) × (Nat → Int32) × (Nat → Int32) × (Nat → Int32) × (Nat → Int32))) : Option (Int32 × Int32 × Int32 × Int32 × Int32 × Int32 × Int32 × Int32 × Int32 × Int32 × (Nat → Int32) × (Nat → Int32) × (Nat → Int32) × (Nat → Int32) × (Nat → Int32) × (Nat → Int32)) :=
  ((fX9_isSentence mLen wmSpo_2 wmBeg_3 wmTok_4 wmVal_5 wmWor_6 wmThe_7 mTxt wmNbs_8).bind fun (r_9, qmSpo_10, qmBeg_11, qmTok_12, qmVal_13, qmWor_14, qmThe_15, qmNbs_16) => (if r_9 = 0 then (some (((-10 : Int32) - qmBeg_11), mVil, mSig, mWay, qmSpo_10, qmBeg_11, qmTok_12, qmVal_13, qmWor_14, qmThe_15, mRts, mLns, mOpn, mAns, mWys, qmNbs_16)) else (kk ((v1_1 + (1 : Int32)), qmSpo_10, qmBeg_11, qmTok_12, qmVal_13, qmWor_14, qmThe_15, qmNbs_16))))
def fX9_says_J87 (v2_18 : Int32) (wmVil_19 : Int32) (wmWay_21 : Int32) (wmRts_28 : Nat → Int32) (wmLns_29 : Nat → Int32) (wmOpn_30 : Nat → Int32) (wmWys_32 : Nat → Int32) (kk : (Int32 × Int32 × Int32 × Int32 × Int32 × Int32 × Int32 × Int32 × Int32 × Int32 × (Nat → Int32) × (Nat → Int32) × (Nat → Int32) × (Nat → Int32) × (Nat → Int32) × (Nat → Int32)) → Option (Int32 × Int32 × Int32 × Int32 × Int32 × Int32 × Int32 × Int32 × Int32 × Int32 × (Nat → Int32) × (Nat → Int32) × (Nat → Int32) × (Nat → Int32) × (Nat → Int32) × (Nat → Int32))) (qmSpo_35 : Int32) (qmBeg_36 : Int32) (qmTok_37 : Int32) (qmVal_38 : Int32) (qmWor_39 : Int32) (qmThe_40 : Int32) (qmNbs_41 : Nat → Int32) (wmSig_42 : Int32) (wmAns_43 : Nat → Int32) : Option (Int32 × Int32 × Int32 × Int32 × Int32 × Int32 × Int32 × Int32 × Int32 × Int32 × (Nat → Int32) × (Nat → Int32) × (Nat → Int32) × (Nat → Int32) × (Nat → Int32) × (Nat → Int32)) :=
  ((fX9_say wmVil_19 wmSig_42 wmWay_21 qmWor_39 wmRts_28 wmLns_29 wmOpn_30 wmAns_43 wmWys_32 qmNbs_41).bind fun (qmVil_44, qmSig_45, qmWay_46, qmRts_47, qmLns_48, qmOpn_49, qmAns_50, qmWys_51) => (kk ((v2_18 + (1 : Int32)), qmVil_44, qmSig_45, qmWay_46, qmSpo_35, qmBeg_36, qmTok_37, qmVal_38, qmWor_39, qmThe_40, qmRts_47, qmLns_48, qmOpn_49, qmAns_50, qmWys_51, qmNbs_41)))
def fX9_says_L67 (mLen : Int32) (mTxt : Nat → Int32) (v1_1 : Int32) (kk : (Int32 × Int32 × Int32 × Int32 × Int32 × Int32 × Int32 × Int32 × Int32 × Int32 × (Nat → Int32) × (Nat → Int32) × (Nat → Int32) × (Nat → Int32) × (Nat → Int32) × (Nat → Int32)) → Option (Int32 × Int32 × Int32 × Int32 × Int32 × Int32 × Int32 × Int32 × Int32 × Int32 × (Nat → Int32) × (Nat → Int32) × (Nat → Int32) × (Nat → Int32) × (Nat → Int32) × (Nat → Int32))) (ww : Int32 × Int32 × Int32 × Int32 × Int32 × Int32 × Int32 × Int32 × Int32 × Int32 × (Nat → Int32) × (Nat → Int32) × (Nat → Int32) × (Nat → Int32) × (Nat → Int32) × (Nat → Int32)) : Option (Int32 × Int32 × Int32 × Int32 × Int32 × Int32 × Int32 × Int32 × Int32 × Int32 × (Nat → Int32) × (Nat → Int32) × (Nat → Int32) × (Nat → Int32) × (Nat → Int32) × (Nat → Int32)) :=
  match ww with
  | (v2_18, wmVil_19, wmSig_20, wmWay_21, wmSpo_22, wmBeg_23, wmTok_24, wmVal_25, wmWor_26, wmThe_27, wmRts_28, wmLns_29, wmOpn_30, wmAns_31, wmWys_32, wmNbs_33) => (if v1_1 ≤ v2_18 then (some (v2_18, wmVil_19, wmSig_20, wmWay_21, wmSpo_22, wmBeg_23, wmTok_24, wmVal_25, wmWor_26, wmThe_27, wmRts_28, wmLns_29, wmOpn_30, wmAns_31, wmWys_32, wmNbs_33)) else ((fX9_isSentence mLen wmSpo_22 wmBeg_23 wmTok_24 wmVal_25 wmWor_26 wmThe_27 mTxt wmNbs_33).bind fun (r_34, qmSpo_35, qmBeg_36, qmTok_37, qmVal_38, qmWor_39, qmThe_40, qmNbs_41) => (if v2_18 ≤ 0 then (fX9_says_J87 v2_18 wmVil_19 wmWay_21 wmRts_28 wmLns_29 wmOpn_30 wmWys_32 kk qmSpo_35 qmBeg_36 qmTok_37 qmVal_38 qmWor_39 qmThe_40 qmNbs_41 wmSig_20 wmAns_31) else ((fX9_putSign wmSig_20 wmAns_31 (32 : Int32)).bind fun (qmSig_52, qmAns_53) => (fX9_says_J87 v2_18 wmVil_19 wmWay_21 wmRts_28 wmLns_29 wmOpn_30 wmWys_32 kk qmSpo_35 qmBeg_36 qmTok_37 qmVal_38 qmWor_39 qmThe_40 qmNbs_41 qmSig_52 qmAns_53)))))
def fX9_says_L15 (mVil : Int32) (mLen : Int32) (mSig : Int32) (mWay : Int32) (mRts : Nat → Int32) (mLns : Nat → Int32) (mOpn : Nat → Int32) (mTxt : Nat → Int32) (mAns : Nat → Int32) (mWys : Nat → Int32) (kk : (Int32 × Int32 × Int32 × Int32 × Int32 × Int32 × Int32 × (Nat → Int32)) → Option (Int32 × Int32 × Int32 × Int32 × Int32 × Int32 × Int32 × Int32 × Int32 × Int32 × (Nat → Int32) × (Nat → Int32) × (Nat → Int32) × (Nat → Int32) × (Nat → Int32) × (Nat → Int32))) (ww : Int32 × Int32 × Int32 × Int32 × Int32 × Int32 × Int32 × (Nat → Int32)) : Option (Int32 × Int32 × Int32 × Int32 × Int32 × Int32 × Int32 × Int32 × Int32 × Int32 × (Nat → Int32) × (Nat → Int32) × (Nat → Int32) × (Nat → Int32) × (Nat → Int32) × (Nat → Int32)) :=
  match ww with
  | (v1_1, wmSpo_2, wmBeg_3, wmTok_4, wmVal_5, wmWor_6, wmThe_7, wmNbs_8) => (if v1_1 = 0 then (fX9_says_J26 mVil mLen mSig mWay mRts mLns mOpn mTxt mAns mWys v1_1 wmSpo_2 wmBeg_3 wmTok_4 wmVal_5 wmWor_6 wmThe_7 wmNbs_8 kk) else ((fX9_isMore mLen wmSpo_2 mTxt).bind fun r_17 => (if r_17 = 0 then ((lp (fX9_says_L67 mLen mTxt v1_1) FU ((0 : Int32), mVil, (0 : Int32), mWay, (0 : Int32), wmBeg_3, wmTok_4, wmVal_5, wmWor_6, mVil, mRts, mLns, mOpn, mAns, mWys, wmNbs_8)).bind fun (ov2_18, owmVil_19, owmSig_20, owmWay_21, owmSpo_22, owmBeg_23, owmTok_24, owmVal_25, owmWor_26, owmThe_27, owmRts_28, owmLns_29, owmOpn_30, owmAns_31, owmWys_32, owmNbs_33) => (some (v1_1, owmVil_19, owmSig_20, owmWay_21, owmSpo_22, owmBeg_23, owmTok_24, owmVal_25, owmWor_26, owmThe_27, owmRts_28, owmLns_29, owmOpn_30, owmAns_31, owmWys_32, owmNbs_33))) else (fX9_says_J26 mVil mLen mSig mWay mRts mLns mOpn mTxt mAns mWys v1_1 wmSpo_2 wmBeg_3 wmTok_4 wmVal_5 wmWor_6 wmThe_7 wmNbs_8 kk))))
def fX9_says (mVil : Int32) (mLen : Int32) (mSig : Int32) (mWay : Int32) (mSpo : Int32) (mBeg : Int32) (mTok : Int32) (mVal : Int32) (mWor : Int32) (mThe : Int32) (mRts : Nat → Int32) (mLns : Nat → Int32) (mOpn : Nat → Int32) (mTxt : Nat → Int32) (mAns : Nat → Int32) (mWys : Nat → Int32) (mNbs : Nat → Int32)  : Option (Int32 × Int32 × Int32 × Int32 × Int32 × Int32 × Int32 × Int32 × Int32 × Int32 × (Nat → Int32) × (Nat → Int32) × (Nat → Int32) × (Nat → Int32) × (Nat → Int32) × (Nat → Int32)) :=
  (lp (fX9_says_L15 mVil mLen mSig mWay mRts mLns mOpn mTxt mAns mWys) FU ((0 : Int32), (0 : Int32), mBeg, mTok, mVal, mWor, mVil, mNbs))
set_option maxRecDepth 100000 in
set_option maxHeartbeats 4000000 in
theorem ctX9_says (l : Launch) (D : va_G) (cI cB cZ : ClassId) (bd : Nat → Nat) (A : Nat → Prop) (hAD : AD A bd 9) (mVil mBad mFul mLen mSig mWay mLef mSpo mBeg mTok mVal mWor mNum mThe : Int32) (mRts mLns mOpn mTxt mAns mWys mSiz mNbs : Nat → Int32)  (rv : Int32) (zmVil : Int32) (zmSig : Int32) (zmWay : Int32) (zmSpo : Int32) (zmBeg : Int32) (zmTok : Int32) (zmVal : Int32) (zmWor : Int32) (zmThe : Int32) (zmRts : Nat → Int32) (zmLns : Nat → Int32) (zmOpn : Nat → Int32) (zmAns : Nat → Int32) (zmWys : Nat → Int32) (zmNbs : Nat → Int32) (hf : fX9_says mVil mLen mSig mWay mSpo mBeg mTok mVal mWor mThe mRts mLns mOpn mTxt mAns mWys mNbs = some (rv, zmVil, zmSig, zmWay, zmSpo, zmBeg, zmTok, zmVal, zmWor, zmThe, zmRts, zmLns, zmOpn, zmAns, zmWys, zmNbs)) : Met l yX9_says wsX9_says (rmN 4 91) (PR D (tyL cI cB cZ) (wM cI cB cZ bd mVil mBad mFul mLen mSig mWay mLef mSpo mBeg mTok mVal mWor mNum mThe mRts mLns mOpn mTxt mAns mWys mSiz mNbs) [.ref (bd 0)]) (QI D (wM cI cB cZ bd zmVil mBad mFul mLen zmSig zmWay mLef zmSpo zmBeg zmTok zmVal zmWor mNum zmThe zmRts zmLns zmOpn mTxt zmAns zmWys mSiz zmNbs) A rv) 0 0 A := by
  refine mk_met cX9_says 3 (some .int) (by decide) rfl (Nat.le_of_ble_eq_true rfl) ?_
  intro p e s m args below meth c ls hx hb hr hlk hml hown hts hPK hl
  obtain ⟨hP, hK⟩ := hPK
  replace hl : lv_has ls 3 [(0, .ref (bd 0))] := hl
  replace hown : s.vm.findClass RX9 = some m.cls := hown
  have hiX9 : ∀ w ∈ wsX90, w ∈ wsX9_says := fun w h => List.mem_cons_of_mem _ (List.mem_append_right _ h)
  have hS : va_S A s.heap s.heap [] := va_S.rf
  unfold fX9_says at hf
  refine lv_aload_n hx hb dX9_says_0 rfl (lv_at hl 0 rfl) ?_
  refine lv_iconst (v := (0 : Int32)) hx hb dX9_says_1 (by decide) ?_
  refine va_put (ci := 8) (v := .int (0 : Int32)) (ty := .int) (C := RX9) (T := TX9) (N := 22) hx hb hts hiX9 tyX9 tyX9_ok nmX9 hown hK hP (wM_D hAD) hS 0 rfl rfl 14 (by decide) (hts _ (List.mem_of_getElem? (i := 1) rfl)) (fun _ h9 => h9) rfl (tyX9_ok 14 (by decide)) rfl rfl (Nat.le_of_ble_eq_true rfl) dX9_says_2 (fun H locs hP _ hS => ?_)
  have hP : va_P D vwCl (wM cI cB cZ bd mVil mBad mFul mLen mSig mWay mLef (0 : Int32) mBeg mTok mVal mWor mNum mThe mRts mLns mOpn mTxt mAns mWys mSiz mNbs) H := hP
  refine lv_aload_n hx hb dX9_says_5 rfl (lv_at hl 0 rfl) ?_
  refine lv_aload_n hx hb dX9_says_6 rfl (lv_at hl 0 rfl) ?_
  refine va_get (ci := 8) (v := .int mVil) (C := RX9) (T := TX9) (N := 22) hx hb hts hiX9 hown hK hP 0 rfl rfl 0 (by decide) (hts _ (List.mem_of_getElem? (i := 2) rfl)) (fun _ h9 => h9) rfl dX9_says_7 ?_
  refine va_put (ci := 8) (v := .int mVil) (ty := .int) (C := RX9) (T := TX9) (N := 22) hx hb hts hiX9 tyX9 tyX9_ok nmX9 hown hK hP (wM_D hAD) hS 0 rfl rfl 21 (by decide) (hts _ (List.mem_of_getElem? (i := 3) rfl)) (fun _ h9 => h9) rfl (tyX9_ok 21 (by decide)) rfl rfl (Nat.le_of_ble_eq_true rfl) dX9_says_10 (fun H locs hP _ hS => ?_)
  have hP : va_P D vwCl (wM cI cB cZ bd mVil mBad mFul mLen mSig mWay mLef (0 : Int32) mBeg mTok mVal mWor mNum mVil mRts mLns mOpn mTxt mAns mWys mSiz mNbs) H := hP
  refine lv_iconst (v := (0 : Int32)) hx hb dX9_says_13 (by decide) ?_
  refine lv_istore_n (lv' := [(1, .int (0 : Int32)), (0, .ref (bd 0))]) hx hb dX9_says_14 rfl hl (by decide) rfl (fun ls hl => ?_)
  have hL15 : ∀ (n : Nat) (v1_1 : Int32) (wmSpo_2 : Int32) (wmBeg_3 : Int32) (wmTok_4 : Int32) (wmVal_5 : Int32) (wmWor_6 : Int32) (wmThe_7 : Int32) (wmNbs_8 : Nat → Int32) (H : Heap) (locs : List Loc) (ls : Array Slot), lp (fX9_says_L15 mVil mLen mSig mWay mRts mLns mOpn mTxt mAns mWys) n (v1_1, wmSpo_2, wmBeg_3, wmTok_4, wmVal_5, wmWor_6, wmThe_7, wmNbs_8) = some (rv, zmVil, zmSig, zmWay, zmSpo, zmBeg, zmTok, zmVal, zmWor, zmThe, zmRts, zmLns, zmOpn, zmAns, zmWys, zmNbs) → va_P D vwCl (wM cI cB cZ bd mVil mBad mFul mLen mSig mWay mLef wmSpo_2 wmBeg_3 wmTok_4 wmVal_5 wmWor_6 mNum wmThe_7 mRts mLns mOpn mTxt mAns mWys mSiz wmNbs_8) H → va_S A s.heap H locs → lv_has ls 3 [(0, .ref (bd 0)), (1, .int v1_1)] → W p l e (rmN 4 91) s m args below meth c H locs 0 0 (MQ below (QI D (wM cI cB cZ bd zmVil mBad mFul mLen zmSig zmWay mLef zmSpo zmBeg zmTok zmVal zmWor mNum zmThe zmRts zmLns zmOpn mTxt zmAns zmWys mSiz zmNbs) A rv) args s 0 0 A) (F0 m 15 ls []) := by
    intro n
    induction n with
    | zero => intro v1_1 wmSpo_2 wmBeg_3 wmTok_4 wmVal_5 wmWor_6 wmThe_7 wmNbs_8 H locs ls hf; exact (lp_0 hf).elim
    | succ n ih =>
      intro v1_1 wmSpo_2 wmBeg_3 wmTok_4 wmVal_5 wmWor_6 wmThe_7 wmNbs_8 H locs ls hf hP hS hl
      replace hf := lp_s hf
      dsimp only [fX9_says_L15] at hf
      refine lv_iload_n hx hb dX9_says_15 rfl (lv_at hl 1 rfl) ?_
      have hJ26 : ∀  (H : Heap) (locs : List Loc) (ls : Array Slot), fX9_says_J26 mVil mLen mSig mWay mRts mLns mOpn mTxt mAns mWys v1_1 wmSpo_2 wmBeg_3 wmTok_4 wmVal_5 wmWor_6 wmThe_7 wmNbs_8 (lp (fX9_says_L15 mVil mLen mSig mWay mRts mLns mOpn mTxt mAns mWys) n) = some (rv, zmVil, zmSig, zmWay, zmSpo, zmBeg, zmTok, zmVal, zmWor, zmThe, zmRts, zmLns, zmOpn, zmAns, zmWys, zmNbs) → va_P D vwCl (wM cI cB cZ bd mVil mBad mFul mLen mSig mWay mLef wmSpo_2 wmBeg_3 wmTok_4 wmVal_5 wmWor_6 mNum wmThe_7 mRts mLns mOpn mTxt mAns mWys mSiz wmNbs_8) H → va_S A s.heap H locs → lv_has ls 3 [(0, .ref (bd 0)), (1, .int v1_1)] → W p l e (rmN 4 91) s m args below meth c H locs 0 0 (MQ below (QI D (wM cI cB cZ bd zmVil mBad mFul mLen zmSig zmWay mLef zmSpo zmBeg zmTok zmVal zmWor mNum zmThe zmRts zmLns zmOpn mTxt zmAns zmWys mSiz zmNbs) A rv) args s 0 0 A) (F0 m 26 ls []) := by
        intro  H locs ls hf hP hS hl
        unfold fX9_says_J26 at hf
        refine lv_aload_n hx hb dX9_says_26 rfl (lv_at hl 0 rfl) ?_
        obtain ⟨⟨r_9, qmSpo_10, qmBeg_11, qmTok_12, qmVal_13, qmWor_14, qmThe_15, qmNbs_16⟩, hq, hf⟩ := ob hf
        try dsimp only at hf
        refine mcVi 0 8 (As := []) (rest := []) ⟨hx, hb, hml, hown, hts⟩ (ctX9_isSentence l D cI cB cZ bd A hAD mVil mBad mFul mLen mSig mWay mLef wmSpo_2 wmBeg_3 wmTok_4 wmVal_5 wmWor_6 mNum wmThe_7 mRts mLns mOpn mTxt mAns mWys mSiz wmNbs_8  r_9 qmSpo_10 qmBeg_11 qmTok_12 qmVal_13 qmWor_14 qmThe_15 qmNbs_16 hq) (cwV 0 hts gX9_says_X9_isSentence rfl rfl rfl (by decide +kernel) ⟨Nat.le_of_ble_eq_true rfl, Nat.le_of_ble_eq_true rfl⟩) hK hP hS rfl rfl rfl hl.1 rfl (Nat.le_of_ble_eq_true rfl) dX9_says_27 ⟨Nat.zero_le _, Nat.zero_le _⟩ (fun H locs hP hS => ?_)
        refine lv_if_ne (tgt := 41) hx hb dX9_says_30 (by decide) (fun hc => ?_) (fun hc => ?_)
        · replace hf := (if_neg hc).symm.trans hf
          refine lv_iinc (v := (v1_1 + (1 : Int32))) (lv' := [(1, .int (v1_1 + (1 : Int32))), (0, .ref (bd 0))]) hx hb dX9_says_41 hl (k := 1) rfl rfl (by decide) rfl (fun ls hl => ?_)
          refine lv_goto (tgt := 15) hx hb dX9_says_44 (by decide) ?_
          exact ih _ _ _ _ _ _ _ _ _ _ _ hf hP hS (lv_sub hl [1, 0] rfl)
        · replace hf := (if_pos hc).symm.trans hf
          refine lv_bipush (v := (-10 : Int32)) hx hb dX9_says_33 (by decide) ?_
          refine lv_aload_n hx hb dX9_says_35 rfl (lv_at hl 0 rfl) ?_
          refine va_get (ci := 8) (v := .int qmBeg_11) (C := RX9) (T := TX9) (N := 22) hx hb hts hiX9 hown hK hP 0 rfl rfl 15 (by decide) (hts _ (List.mem_of_getElem? (i := 4) rfl)) (fun _ h9 => h9) rfl dX9_says_36 ?_
          refine lv_isub hx hb dX9_says_39 ?_
          obtain ⟨e0, hz1⟩ := Prod.mk.inj (Option.some.inj hf)
          obtain ⟨e1, hz2⟩ := Prod.mk.inj hz1
          obtain ⟨e2, hz3⟩ := Prod.mk.inj hz2
          obtain ⟨e3, hz4⟩ := Prod.mk.inj hz3
          obtain ⟨e4, hz5⟩ := Prod.mk.inj hz4
          obtain ⟨e5, hz6⟩ := Prod.mk.inj hz5
          obtain ⟨e6, hz7⟩ := Prod.mk.inj hz6
          obtain ⟨e7, hz8⟩ := Prod.mk.inj hz7
          obtain ⟨e8, hz9⟩ := Prod.mk.inj hz8
          obtain ⟨e9, hz10⟩ := Prod.mk.inj hz9
          obtain ⟨e10, hz11⟩ := Prod.mk.inj hz10
          obtain ⟨e11, hz12⟩ := Prod.mk.inj hz11
          obtain ⟨e12, hz13⟩ := Prod.mk.inj hz12
          obtain ⟨e13, hz14⟩ := Prod.mk.inj hz13
          obtain ⟨e14, hz15⟩ := Prod.mk.inj hz14
          subst e0
          subst e1
          subst e2
          subst e3
          subst e4
          subst e5
          subst e6
          subst e7
          subst e8
          subst e9
          subst e10
          subst e11
          subst e12
          subst e13
          subst e14
          subst hz15
          exact rm_i hx hb hr hlk hP hS dX9_says_40
      refine lv_if_eq (tgt := 26) hx hb dX9_says_16 (by decide) (fun hc => ?_) (fun hc => ?_)
      · replace hf := (if_pos hc).symm.trans hf
        exact hJ26  _ _ _ hf hP hS (lv_sub hl [0, 1] rfl)
      · replace hf := (if_neg hc).symm.trans hf
        refine lv_aload_n hx hb dX9_says_19 rfl (lv_at hl 0 rfl) ?_
        obtain ⟨r_17, hq, hf⟩ := ob hf
        try dsimp only at hf
        refine rcV 0 8 (As := []) (rest := []) ⟨hx, hb, hml, hown, hts⟩ (ctX9_isMore l D cI cB cZ bd mVil mBad mFul mLen mSig mWay mLef wmSpo_2 wmBeg_3 wmTok_4 wmVal_5 wmWor_6 mNum wmThe_7 mRts mLns mOpn mTxt mAns mWys mSiz wmNbs_8  r_17 hq) (cwV 0 hts gX9_says_X9_isMore rfl rfl rfl (by decide +kernel) ⟨Nat.le_of_ble_eq_true rfl, Nat.le_of_ble_eq_true rfl⟩) hK hP rfl rfl rfl hl.1 rfl (Nat.le_of_ble_eq_true rfl) dX9_says_20 ⟨Nat.zero_le _, Nat.zero_le _⟩ ?_
        refine lv_if_eq (tgt := 47) hx hb dX9_says_23 (by decide) (fun hc => ?_) (fun hc => ?_)
        · replace hf := (if_pos hc).symm.trans hf
          refine lv_aload_n hx hb dX9_says_47 rfl (lv_at hl 0 rfl) ?_
          refine lv_iconst (v := (0 : Int32)) hx hb dX9_says_48 (by decide) ?_
          refine va_put (ci := 8) (v := .int (0 : Int32)) (ty := .int) (C := RX9) (T := TX9) (N := 22) hx hb hts hiX9 tyX9 tyX9_ok nmX9 hown hK hP (wM_D hAD) hS 0 rfl rfl 14 (by decide) (hts _ (List.mem_of_getElem? (i := 1) rfl)) (fun _ h9 => h9) rfl (tyX9_ok 14 (by decide)) rfl rfl (Nat.le_of_ble_eq_true rfl) dX9_says_49 (fun H locs hP _ hS => ?_)
          have hP : va_P D vwCl (wM cI cB cZ bd mVil mBad mFul mLen mSig mWay mLef (0 : Int32) wmBeg_3 wmTok_4 wmVal_5 wmWor_6 mNum wmThe_7 mRts mLns mOpn mTxt mAns mWys mSiz wmNbs_8) H := hP
          refine lv_aload_n hx hb dX9_says_52 rfl (lv_at hl 0 rfl) ?_
          refine lv_aload_n hx hb dX9_says_53 rfl (lv_at hl 0 rfl) ?_
          refine va_get (ci := 8) (v := .int mVil) (C := RX9) (T := TX9) (N := 22) hx hb hts hiX9 hown hK hP 0 rfl rfl 0 (by decide) (hts _ (List.mem_of_getElem? (i := 2) rfl)) (fun _ h9 => h9) rfl dX9_says_54 ?_
          refine va_put (ci := 8) (v := .int mVil) (ty := .int) (C := RX9) (T := TX9) (N := 22) hx hb hts hiX9 tyX9 tyX9_ok nmX9 hown hK hP (wM_D hAD) hS 0 rfl rfl 21 (by decide) (hts _ (List.mem_of_getElem? (i := 3) rfl)) (fun _ h9 => h9) rfl (tyX9_ok 21 (by decide)) rfl rfl (Nat.le_of_ble_eq_true rfl) dX9_says_57 (fun H locs hP _ hS => ?_)
          have hP : va_P D vwCl (wM cI cB cZ bd mVil mBad mFul mLen mSig mWay mLef (0 : Int32) wmBeg_3 wmTok_4 wmVal_5 wmWor_6 mNum mVil mRts mLns mOpn mTxt mAns mWys mSiz wmNbs_8) H := hP
          refine lv_aload_n hx hb dX9_says_60 rfl (lv_at hl 0 rfl) ?_
          refine lv_iconst (v := (0 : Int32)) hx hb dX9_says_61 (by decide) ?_
          refine va_put (ci := 8) (v := .int (0 : Int32)) (ty := .int) (C := RX9) (T := TX9) (N := 22) hx hb hts hiX9 tyX9 tyX9_ok nmX9 hown hK hP (wM_D hAD) hS 0 rfl rfl 8 (by decide) (hts _ (List.mem_of_getElem? (i := 5) rfl)) (fun _ h9 => h9) rfl (tyX9_ok 8 (by decide)) rfl rfl (Nat.le_of_ble_eq_true rfl) dX9_says_62 (fun H locs hP _ hS => ?_)
          have hP : va_P D vwCl (wM cI cB cZ bd mVil mBad mFul mLen (0 : Int32) mWay mLef (0 : Int32) wmBeg_3 wmTok_4 wmVal_5 wmWor_6 mNum mVil mRts mLns mOpn mTxt mAns mWys mSiz wmNbs_8) H := hP
          refine lv_iconst (v := (0 : Int32)) hx hb dX9_says_65 (by decide) ?_
          refine lv_istore_n (lv' := [(2, .int (0 : Int32)), (0, .ref (bd 0)), (1, .int v1_1)]) hx hb dX9_says_66 rfl hl (by decide) rfl (fun ls hl => ?_)
          have hL67 : ∀ (n : Nat) (v2_18 : Int32) (wmVil_19 : Int32) (wmSig_20 : Int32) (wmWay_21 : Int32) (wmSpo_22 : Int32) (wmBeg_23 : Int32) (wmTok_24 : Int32) (wmVal_25 : Int32) (wmWor_26 : Int32) (wmThe_27 : Int32) (wmRts_28 : Nat → Int32) (wmLns_29 : Nat → Int32) (wmOpn_30 : Nat → Int32) (wmAns_31 : Nat → Int32) (wmWys_32 : Nat → Int32) (wmNbs_33 : Nat → Int32) (ov2_18 : Int32) (owmVil_19 : Int32) (owmSig_20 : Int32) (owmWay_21 : Int32) (owmSpo_22 : Int32) (owmBeg_23 : Int32) (owmTok_24 : Int32) (owmVal_25 : Int32) (owmWor_26 : Int32) (owmThe_27 : Int32) (owmRts_28 : Nat → Int32) (owmLns_29 : Nat → Int32) (owmOpn_30 : Nat → Int32) (owmAns_31 : Nat → Int32) (owmWys_32 : Nat → Int32) (owmNbs_33 : Nat → Int32) (H : Heap) (locs : List Loc) (ls : Array Slot), lp (fX9_says_L67 mLen mTxt v1_1) n (v2_18, wmVil_19, wmSig_20, wmWay_21, wmSpo_22, wmBeg_23, wmTok_24, wmVal_25, wmWor_26, wmThe_27, wmRts_28, wmLns_29, wmOpn_30, wmAns_31, wmWys_32, wmNbs_33) = some (ov2_18, owmVil_19, owmSig_20, owmWay_21, owmSpo_22, owmBeg_23, owmTok_24, owmVal_25, owmWor_26, owmThe_27, owmRts_28, owmLns_29, owmOpn_30, owmAns_31, owmWys_32, owmNbs_33) → va_P D vwCl (wM cI cB cZ bd wmVil_19 mBad mFul mLen wmSig_20 wmWay_21 mLef wmSpo_22 wmBeg_23 wmTok_24 wmVal_25 wmWor_26 mNum wmThe_27 wmRts_28 wmLns_29 wmOpn_30 mTxt wmAns_31 wmWys_32 mSiz wmNbs_33) H → va_S A s.heap H locs → lv_has ls 3 [(0, .ref (bd 0)), (1, .int v1_1), (2, .int v2_18)] → (∀ (H : Heap) (locs : List Loc) (ls : Array Slot), va_P D vwCl (wM cI cB cZ bd owmVil_19 mBad mFul mLen owmSig_20 owmWay_21 mLef owmSpo_22 owmBeg_23 owmTok_24 owmVal_25 owmWor_26 mNum owmThe_27 owmRts_28 owmLns_29 owmOpn_30 mTxt owmAns_31 owmWys_32 mSiz owmNbs_33) H → va_S A s.heap H locs → lv_has ls 3 [(0, .ref (bd 0)), (1, .int v1_1), (2, .int ov2_18)] → W p l e (rmN 4 91) s m args below meth c H locs 0 0 (MQ below (QI D (wM cI cB cZ bd zmVil mBad mFul mLen zmSig zmWay mLef zmSpo zmBeg zmTok zmVal zmWor mNum zmThe zmRts zmLns zmOpn mTxt zmAns zmWys mSiz zmNbs) A rv) args s 0 0 A) (F0 m 97 ls [])) → W p l e (rmN 4 91) s m args below meth c H locs 0 0 (MQ below (QI D (wM cI cB cZ bd zmVil mBad mFul mLen zmSig zmWay mLef zmSpo zmBeg zmTok zmVal zmWor mNum zmThe zmRts zmLns zmOpn mTxt zmAns zmWys mSiz zmNbs) A rv) args s 0 0 A) (F0 m 67 ls []) := by
            intro n
            induction n with
            | zero => intro v2_18 wmVil_19 wmSig_20 wmWay_21 wmSpo_22 wmBeg_23 wmTok_24 wmVal_25 wmWor_26 wmThe_27 wmRts_28 wmLns_29 wmOpn_30 wmAns_31 wmWys_32 wmNbs_33 ov2_18 owmVil_19 owmSig_20 owmWay_21 owmSpo_22 owmBeg_23 owmTok_24 owmVal_25 owmWor_26 owmThe_27 owmRts_28 owmLns_29 owmOpn_30 owmAns_31 owmWys_32 owmNbs_33 H locs ls hf; exact (lp_0 hf).elim
            | succ n ih =>
              intro v2_18 wmVil_19 wmSig_20 wmWay_21 wmSpo_22 wmBeg_23 wmTok_24 wmVal_25 wmWor_26 wmThe_27 wmRts_28 wmLns_29 wmOpn_30 wmAns_31 wmWys_32 wmNbs_33 ov2_18 owmVil_19 owmSig_20 owmWay_21 owmSpo_22 owmBeg_23 owmTok_24 owmVal_25 owmWor_26 owmThe_27 owmRts_28 owmLns_29 owmOpn_30 owmAns_31 owmWys_32 owmNbs_33 H locs ls hf hP hS hl hE
              replace hf := lp_s hf
              dsimp only [fX9_says_L67] at hf
              refine lv_iload_n hx hb dX9_says_67 rfl (lv_at hl 2 rfl) ?_
              refine lv_iload_n hx hb dX9_says_68 rfl (lv_at hl 1 rfl) ?_
              refine lv_icmp_ge (tgt := 97) hx hb dX9_says_69 (by decide) (fun hc => ?_) (fun hc => ?_)
              · replace hf := (if_pos hc).symm.trans hf
                cases hf
                exact hE _ _ _ hP hS (lv_sub hl [0, 1, 2] rfl)
              · replace hf := (if_neg hc).symm.trans hf
                refine lv_aload_n hx hb dX9_says_72 rfl (lv_at hl 0 rfl) ?_
                obtain ⟨⟨r_34, qmSpo_35, qmBeg_36, qmTok_37, qmVal_38, qmWor_39, qmThe_40, qmNbs_41⟩, hq, hf⟩ := ob hf
                try dsimp only at hf
                refine mcVi 0 8 (As := []) (rest := []) ⟨hx, hb, hml, hown, hts⟩ (ctX9_isSentence l D cI cB cZ bd A hAD wmVil_19 mBad mFul mLen wmSig_20 wmWay_21 mLef wmSpo_22 wmBeg_23 wmTok_24 wmVal_25 wmWor_26 mNum wmThe_27 wmRts_28 wmLns_29 wmOpn_30 mTxt wmAns_31 wmWys_32 mSiz wmNbs_33  r_34 qmSpo_35 qmBeg_36 qmTok_37 qmVal_38 qmWor_39 qmThe_40 qmNbs_41 hq) (cwV 0 hts gX9_says_X9_isSentence rfl rfl rfl (by decide +kernel) ⟨Nat.le_of_ble_eq_true rfl, Nat.le_of_ble_eq_true rfl⟩) hK hP hS rfl rfl rfl hl.1 rfl (Nat.le_of_ble_eq_true rfl) dX9_says_73 ⟨Nat.zero_le _, Nat.zero_le _⟩ (fun H locs hP hS => ?_)
                refine lv_pop hx hb dX9_says_76 rfl ?_
                refine lv_iload_n hx hb dX9_says_77 rfl (lv_at hl 2 rfl) ?_
                have hJ87 : ∀ (wmSig_42 : Int32) (wmAns_43 : Nat → Int32) (H : Heap) (locs : List Loc) (ls : Array Slot), fX9_says_J87 v2_18 wmVil_19 wmWay_21 wmRts_28 wmLns_29 wmOpn_30 wmWys_32 (lp (fX9_says_L67 mLen mTxt v1_1) n) qmSpo_35 qmBeg_36 qmTok_37 qmVal_38 qmWor_39 qmThe_40 qmNbs_41 wmSig_42 wmAns_43 = some (ov2_18, owmVil_19, owmSig_20, owmWay_21, owmSpo_22, owmBeg_23, owmTok_24, owmVal_25, owmWor_26, owmThe_27, owmRts_28, owmLns_29, owmOpn_30, owmAns_31, owmWys_32, owmNbs_33) → va_P D vwCl (wM cI cB cZ bd wmVil_19 mBad mFul mLen wmSig_42 wmWay_21 mLef qmSpo_35 qmBeg_36 qmTok_37 qmVal_38 qmWor_39 mNum qmThe_40 wmRts_28 wmLns_29 wmOpn_30 mTxt wmAns_43 wmWys_32 mSiz qmNbs_41) H → va_S A s.heap H locs → lv_has ls 3 [(0, .ref (bd 0)), (1, .int v1_1), (2, .int v2_18)] → W p l e (rmN 4 91) s m args below meth c H locs 0 0 (MQ below (QI D (wM cI cB cZ bd zmVil mBad mFul mLen zmSig zmWay mLef zmSpo zmBeg zmTok zmVal zmWor mNum zmThe zmRts zmLns zmOpn mTxt zmAns zmWys mSiz zmNbs) A rv) args s 0 0 A) (F0 m 87 ls []) := by
                  intro wmSig_42 wmAns_43 H locs ls hf hP hS hl
                  unfold fX9_says_J87 at hf
                  refine lv_aload_n hx hb dX9_says_87 rfl (lv_at hl 0 rfl) ?_
                  obtain ⟨⟨qmVil_44, qmSig_45, qmWay_46, qmRts_47, qmLns_48, qmOpn_49, qmAns_50, qmWys_51⟩, hq, hf⟩ := ob hf
                  try dsimp only at hf
                  refine mcVv 0 8 (As := []) (rest := []) ⟨hx, hb, hml, hown, hts⟩ (ctX9_say l D cI cB cZ bd A hAD wmVil_19 mBad mFul mLen wmSig_42 wmWay_21 mLef qmSpo_35 qmBeg_36 qmTok_37 qmVal_38 qmWor_39 mNum qmThe_40 wmRts_28 wmLns_29 wmOpn_30 mTxt wmAns_43 wmWys_32 mSiz qmNbs_41  qmVil_44 qmSig_45 qmWay_46 qmRts_47 qmLns_48 qmOpn_49 qmAns_50 qmWys_51 hq) (cwV 0 hts gX9_says_X9_say rfl rfl rfl (by decide +kernel) ⟨Nat.le_of_ble_eq_true rfl, Nat.le_of_ble_eq_true rfl⟩) hK hP hS rfl rfl rfl hl.1 rfl (Nat.le_of_ble_eq_true rfl) dX9_says_88 ⟨Nat.zero_le _, Nat.zero_le _⟩ (fun H locs hP hS => ?_)
                  refine lv_iinc (v := (v2_18 + (1 : Int32))) (lv' := [(2, .int (v2_18 + (1 : Int32))), (0, .ref (bd 0)), (1, .int v1_1)]) hx hb dX9_says_91 hl (k := 2) rfl rfl (by decide) rfl (fun ls hl => ?_)
                  refine lv_goto (tgt := 67) hx hb dX9_says_94 (by decide) ?_
                  exact ih _ _ _ _ _ _ _ _ _ _ _ _ _ _ _ _ _ _ _ _ _ _ _ _ _ _ _ _ _ _ _ _ _ _ _ hf hP hS (lv_sub hl [1, 2, 0] rfl) hE
                refine lv_if_le (tgt := 87) hx hb dX9_says_78 (by decide) (fun hc => ?_) (fun hc => ?_)
                · replace hf := (if_pos hc).symm.trans hf
                  exact hJ87 _ _ _ _ _ hf hP hS (lv_sub hl [0, 1, 2] rfl)
                · replace hf := (if_neg hc).symm.trans hf
                  refine lv_aload_n hx hb dX9_says_81 rfl (lv_at hl 0 rfl) ?_
                  refine lv_bipush (v := (32 : Int32)) hx hb dX9_says_82 (by decide) ?_
                  obtain ⟨⟨qmSig_52, qmAns_53⟩, hq, hf⟩ := ob hf
                  try dsimp only at hf
                  refine mcVv 0 8 (As := [.int (32 : Int32)]) (rest := []) ⟨hx, hb, hml, hown, hts⟩ (ctX9_putSign l D cI cB cZ bd A hAD wmVil_19 mBad mFul mLen wmSig_20 wmWay_21 mLef qmSpo_35 qmBeg_36 qmTok_37 qmVal_38 qmWor_39 mNum qmThe_40 wmRts_28 wmLns_29 wmOpn_30 mTxt wmAns_31 wmWys_32 mSiz qmNbs_41 (32 : Int32) qmSig_52 qmAns_53 hq) (cwV 1 hts gX9_says_X9_putSign rfl rfl rfl (by decide +kernel) ⟨Nat.le_of_ble_eq_true rfl, Nat.le_of_ble_eq_true rfl⟩) hK hP hS rfl rfl rfl hl.1 rfl (Nat.le_of_ble_eq_true rfl) dX9_says_84 ⟨Nat.zero_le _, Nat.zero_le _⟩ (fun H locs hP hS => ?_)
                  exact hJ87 _ _ _ _ _ hf hP hS (lv_sub hl [0, 1, 2] rfl)
          obtain ⟨⟨ov2_18, owmVil_19, owmSig_20, owmWay_21, owmSpo_22, owmBeg_23, owmTok_24, owmVal_25, owmWor_26, owmThe_27, owmRts_28, owmLns_29, owmOpn_30, owmAns_31, owmWys_32, owmNbs_33⟩, hq, hf⟩ := ob hf
          try dsimp only at hf
          refine hL67 FU _ _ _ _ _ _ _ _ _ _ _ _ _ _ _ _ ov2_18 owmVil_19 owmSig_20 owmWay_21 owmSpo_22 owmBeg_23 owmTok_24 owmVal_25 owmWor_26 owmThe_27 owmRts_28 owmLns_29 owmOpn_30 owmAns_31 owmWys_32 owmNbs_33 _ _ ls hq hP hS (lv_sub hl [1, 2, 0] rfl) (fun H locs ls hP hS hl => ?_)
          refine lv_iload_n hx hb dX9_says_97 rfl (lv_at hl 1 rfl) ?_
          obtain ⟨e0, hz1⟩ := Prod.mk.inj (Option.some.inj hf)
          obtain ⟨e1, hz2⟩ := Prod.mk.inj hz1
          obtain ⟨e2, hz3⟩ := Prod.mk.inj hz2
          obtain ⟨e3, hz4⟩ := Prod.mk.inj hz3
          obtain ⟨e4, hz5⟩ := Prod.mk.inj hz4
          obtain ⟨e5, hz6⟩ := Prod.mk.inj hz5
          obtain ⟨e6, hz7⟩ := Prod.mk.inj hz6
          obtain ⟨e7, hz8⟩ := Prod.mk.inj hz7
          obtain ⟨e8, hz9⟩ := Prod.mk.inj hz8
          obtain ⟨e9, hz10⟩ := Prod.mk.inj hz9
          obtain ⟨e10, hz11⟩ := Prod.mk.inj hz10
          obtain ⟨e11, hz12⟩ := Prod.mk.inj hz11
          obtain ⟨e12, hz13⟩ := Prod.mk.inj hz12
          obtain ⟨e13, hz14⟩ := Prod.mk.inj hz13
          obtain ⟨e14, hz15⟩ := Prod.mk.inj hz14
          subst e0
          subst e1
          subst e2
          subst e3
          subst e4
          subst e5
          subst e6
          subst e7
          subst e8
          subst e9
          subst e10
          subst e11
          subst e12
          subst e13
          subst e14
          subst hz15
          exact rm_i hx hb hr hlk hP hS dX9_says_98
        · replace hf := (if_neg hc).symm.trans hf
          exact hJ26  _ _ _ hf hP hS (lv_sub hl [0, 1] rfl)
  exact hL15 FU _ _ _ _ _ _ _ _ _ _ ls hf hP hS (lv_sub hl [1, 0] rfl)

def fX9_answer (mBad : Int32) (mSig : Int32) (mAns : Nat → Int32) (p0 : Int32) : Option (Int32 × Int32) :=
  (if (-1 : Int32) ≤ p0 then (if p0 = (-1 : Int32) then (some (mSig, mBad)) else (if mSig ≤ p0 then (some ((-5 : Int32), mBad)) else (if gI p0 400 then (some ((mAns (p0).toNatClampNeg), mBad)) else none))) else ((fX9_refuse mBad).bind fun (r_1, qmBad_2) => (some ((-10 : Int32), qmBad_2))))
set_option maxRecDepth 100000 in
set_option maxHeartbeats 4000000 in
theorem ctX9_answer (l : Launch) (D : va_G) (cI cB cZ : ClassId) (bd : Nat → Nat) (A : Nat → Prop) (hAD : AD A bd 9) (mVil mBad mFul mLen mSig mWay mLef mSpo mBeg mTok mVal mWor mNum mThe : Int32) (mRts mLns mOpn mTxt mAns mWys mSiz mNbs : Nat → Int32) (p0 : Int32) (rv : Int32) (zmBad : Int32) (hf : fX9_answer mBad mSig mAns p0 = some (rv, zmBad)) : Met l yX9_answer wsX9_answer (rmN 1 20) (PR D (tyL cI cB cZ) (wM cI cB cZ bd mVil mBad mFul mLen mSig mWay mLef mSpo mBeg mTok mVal mWor mNum mThe mRts mLns mOpn mTxt mAns mWys mSiz mNbs) [.ref (bd 0), .int p0]) (QI D (wM cI cB cZ bd mVil zmBad mFul mLen mSig mWay mLef mSpo mBeg mTok mVal mWor mNum mThe mRts mLns mOpn mTxt mAns mWys mSiz mNbs) A rv) 0 0 A := by
  refine mk_met cX9_answer 2 (some .int) (by decide) rfl (Nat.le_of_ble_eq_true rfl) ?_
  intro p e s m args below meth c ls hx hb hr hlk hml hown hts hPK hl
  obtain ⟨hP, hK⟩ := hPK
  replace hl : lv_has ls 2 [(0, .ref (bd 0)), (1, .int p0)] := hl
  replace hown : s.vm.findClass RX9 = some m.cls := hown
  have hiX9 : ∀ w ∈ wsX90, w ∈ wsX9_answer := fun w h => List.mem_cons_of_mem _ (List.mem_append_right _ h)
  have hS : va_S A s.heap s.heap [] := va_S.rf
  unfold fX9_answer at hf
  refine lv_iload_n hx hb dX9_answer_0 rfl (lv_at hl 1 rfl) ?_
  refine lv_iconst (v := (-1 : Int32)) hx hb dX9_answer_1 (by decide) ?_
  refine lv_icmp_ge (tgt := 13) hx hb dX9_answer_2 (by decide) (fun hc => ?_) (fun hc => ?_)
  · replace hf := (if_pos hc).symm.trans hf
    refine lv_iload_n hx hb dX9_answer_13 rfl (lv_at hl 1 rfl) ?_
    refine lv_iconst (v := (-1 : Int32)) hx hb dX9_answer_14 (by decide) ?_
    refine lv_icmp_ne (tgt := 25) hx hb dX9_answer_15 (by decide) (fun hc => ?_) (fun hc => ?_)
    · replace hf := (if_neg hc).symm.trans hf
      refine lv_iload_n hx hb dX9_answer_25 rfl (lv_at hl 1 rfl) ?_
      refine lv_aload_n hx hb dX9_answer_26 rfl (lv_at hl 0 rfl) ?_
      refine va_get (ci := 8) (v := .int mSig) (C := RX9) (T := TX9) (N := 22) hx hb hts hiX9 hown hK hP 0 rfl rfl 8 (by decide) (hts _ (List.mem_of_getElem? (i := 1) rfl)) (fun _ h9 => h9) rfl dX9_answer_27 ?_
      refine lv_icmp_ge (tgt := 42) hx hb dX9_answer_30 (by decide) (fun hc => ?_) (fun hc => ?_)
      · replace hf := (if_pos hc).symm.trans hf
        refine lv_bipush (v := (-5 : Int32)) hx hb dX9_answer_42 (by decide) ?_
        obtain ⟨e0, hz1⟩ := Prod.mk.inj (Option.some.inj hf)
        subst e0
        subst hz1
        exact rm_i hx hb hr hlk hP hS dX9_answer_44
      · replace hf := (if_neg hc).symm.trans hf
        refine lv_aload_n hx hb dX9_answer_33 rfl (lv_at hl 0 rfl) ?_
        refine va_get (ci := 8) (v := .ref (bd 5)) (C := RX9) (T := TX9) (N := 22) hx hb hts hiX9 hown hK hP 0 rfl rfl 9 (by decide) (hts _ (List.mem_of_getElem? (i := 2) rfl)) (fun _ h9 => h9) rfl dX9_answer_34 ?_
        refine lv_iload_n hx hb dX9_answer_37 rfl (lv_at hl 1 rfl) ?_
        obtain ⟨hg, hf⟩ := og hf
        refine va_iald hx hb hK hP 5 0 rfl rfl (gI_in hg) dX9_answer_38 ?_
        refine lv_goto (tgt := 44) hx hb dX9_answer_39 (by decide) ?_
        obtain ⟨e0, hz1⟩ := Prod.mk.inj (Option.some.inj hf)
        subst e0
        subst hz1
        exact rm_i hx hb hr hlk hP hS dX9_answer_44
    · replace hf := (if_pos hc).symm.trans hf
      refine lv_aload_n hx hb dX9_answer_18 rfl (lv_at hl 0 rfl) ?_
      refine va_get (ci := 8) (v := .int mSig) (C := RX9) (T := TX9) (N := 22) hx hb hts hiX9 hown hK hP 0 rfl rfl 8 (by decide) (hts _ (List.mem_of_getElem? (i := 1) rfl)) (fun _ h9 => h9) rfl dX9_answer_19 ?_
      refine lv_goto (tgt := 44) hx hb dX9_answer_22 (by decide) ?_
      obtain ⟨e0, hz1⟩ := Prod.mk.inj (Option.some.inj hf)
      subst e0
      subst hz1
      exact rm_i hx hb hr hlk hP hS dX9_answer_44
  · replace hf := (if_neg hc).symm.trans hf
    refine lv_aload_n hx hb dX9_answer_5 rfl (lv_at hl 0 rfl) ?_
    obtain ⟨⟨r_1, qmBad_2⟩, hq, hf⟩ := ob hf
    try dsimp only at hf
    refine mcVi 0 8 (As := []) (rest := []) ⟨hx, hb, hml, hown, hts⟩ (ctX9_refuse l D cI cB cZ bd A hAD mVil mBad mFul mLen mSig mWay mLef mSpo mBeg mTok mVal mWor mNum mThe mRts mLns mOpn mTxt mAns mWys mSiz mNbs  r_1 qmBad_2 hq) (cwV 0 hts gX9_answer_X9_refuse rfl rfl rfl (by decide +kernel) ⟨Nat.le_of_ble_eq_true rfl, Nat.le_of_ble_eq_true rfl⟩) hK hP hS rfl rfl rfl hl.1 rfl (Nat.le_of_ble_eq_true rfl) dX9_answer_6 ⟨Nat.zero_le _, Nat.zero_le _⟩ (fun H locs hP hS => ?_)
    refine lv_pop hx hb dX9_answer_9 rfl ?_
    refine lv_bipush (v := (-10 : Int32)) hx hb dX9_answer_10 (by decide) ?_
    obtain ⟨e0, hz1⟩ := Prod.mk.inj (Option.some.inj hf)
    subst e0
    subst hz1
    exact rm_i hx hb hr hlk hP hS dX9_answer_12

def fX9_tell (mVil : Int32) (mBad : Int32) (mFul : Int32) (mLen : Int32) (mSig : Int32) (mOpn : Nat → Int32) (p0 : Int32) : Option (Int32) :=
  (if p0 = (0 : Int32) then (some mBad) else (if p0 = (1 : Int32) then (some (0 : Int32)) else (if p0 = (2 : Int32) then (some mFul) else (if p0 = (3 : Int32) then (some mLen) else (if p0 = (4 : Int32) then (some mVil) else (if p0 = (5 : Int32) then ((fX9_openMany mVil mOpn).bind fun r_1 => (some r_1)) else (some mSig)))))))
set_option maxRecDepth 100000 in
set_option maxHeartbeats 4000000 in
theorem ctX9_tell (l : Launch) (D : va_G) (cI cB cZ : ClassId) (bd : Nat → Nat) (mVil mBad mFul mLen mSig mWay mLef mSpo mBeg mTok mVal mWor mNum mThe : Int32) (mRts mLns mOpn mTxt mAns mWys mSiz mNbs : Nat → Int32) (p0 : Int32) (rv : Int32) (hf : fX9_tell mVil mBad mFul mLen mSig mOpn p0 = some rv) : Met l yX9_tell wsX9_tell (rmN 1 22) (PR D (tyL cI cB cZ) (wM cI cB cZ bd mVil mBad mFul mLen mSig mWay mLef mSpo mBeg mTok mVal mWor mNum mThe mRts mLns mOpn mTxt mAns mWys mSiz mNbs) [.ref (bd 0), .int p0]) (SI rv) 0 0 (fun _ => False) := by
  refine mk_met cX9_tell 2 (some .int) (by decide) rfl (Nat.le_of_ble_eq_true rfl) ?_
  intro p e s m args below meth c ls hx hb hr hlk hml hown hts hPK hl
  obtain ⟨hP, hK⟩ := hPK
  replace hl : lv_has ls 2 [(0, .ref (bd 0)), (1, .int p0)] := hl
  replace hown : s.vm.findClass RX9 = some m.cls := hown
  have hiX9 : ∀ w ∈ wsX90, w ∈ wsX9_tell := fun w h => List.mem_cons_of_mem _ (List.mem_append_right _ h)
  unfold fX9_tell at hf
  refine lv_iload_n hx hb dX9_tell_0 rfl (lv_at hl 1 rfl) ?_
  by_cases hc0 : p0 = (0 : Int32)
  · replace hf := (if_pos hc0).symm.trans hf
    refine lv_tableIn (tgt := 40) hx hb dX9_tell_1 (by rw [hc0]; decide) (by rw [hc0]; decide) (by rw [hc0]; rfl) (by decide) ?_
    refine lv_aload_n hx hb dX9_tell_40 rfl (lv_at hl 0 rfl) ?_
    refine va_get (ci := 8) (v := .int mBad) (C := RX9) (T := TX9) (N := 22) hx hb hts hiX9 hown hK hP 0 rfl rfl 4 (by decide) (hts _ (List.mem_of_getElem? (i := 1) rfl)) (fun _ h9 => h9) rfl dX9_tell_41 ?_
    exact re_i hx hb hr hlk dX9_tell_44 hf
  replace hf := (if_neg hc0).symm.trans hf
  by_cases hc1 : p0 = (1 : Int32)
  · replace hf := (if_pos hc1).symm.trans hf
    refine lv_tableIn (tgt := 45) hx hb dX9_tell_1 (by rw [hc1]; decide) (by rw [hc1]; decide) (by rw [hc1]; rfl) (by decide) ?_
    refine lv_iconst (v := (0 : Int32)) hx hb dX9_tell_45 (by decide) ?_
    exact re_i hx hb hr hlk dX9_tell_46 hf
  replace hf := (if_neg hc1).symm.trans hf
  by_cases hc2 : p0 = (2 : Int32)
  · replace hf := (if_pos hc2).symm.trans hf
    refine lv_tableIn (tgt := 47) hx hb dX9_tell_1 (by rw [hc2]; decide) (by rw [hc2]; decide) (by rw [hc2]; rfl) (by decide) ?_
    refine lv_aload_n hx hb dX9_tell_47 rfl (lv_at hl 0 rfl) ?_
    refine va_get (ci := 8) (v := .int mFul) (C := RX9) (T := TX9) (N := 22) hx hb hts hiX9 hown hK hP 0 rfl rfl 5 (by decide) (hts _ (List.mem_of_getElem? (i := 2) rfl)) (fun _ h9 => h9) rfl dX9_tell_48 ?_
    exact re_i hx hb hr hlk dX9_tell_51 hf
  replace hf := (if_neg hc2).symm.trans hf
  by_cases hc3 : p0 = (3 : Int32)
  · replace hf := (if_pos hc3).symm.trans hf
    refine lv_tableIn (tgt := 52) hx hb dX9_tell_1 (by rw [hc3]; decide) (by rw [hc3]; decide) (by rw [hc3]; rfl) (by decide) ?_
    refine lv_aload_n hx hb dX9_tell_52 rfl (lv_at hl 0 rfl) ?_
    refine va_get (ci := 8) (v := .int mLen) (C := RX9) (T := TX9) (N := 22) hx hb hts hiX9 hown hK hP 0 rfl rfl 6 (by decide) (hts _ (List.mem_of_getElem? (i := 3) rfl)) (fun _ h9 => h9) rfl dX9_tell_53 ?_
    exact re_i hx hb hr hlk dX9_tell_56 hf
  replace hf := (if_neg hc3).symm.trans hf
  by_cases hc4 : p0 = (4 : Int32)
  · replace hf := (if_pos hc4).symm.trans hf
    refine lv_tableIn (tgt := 57) hx hb dX9_tell_1 (by rw [hc4]; decide) (by rw [hc4]; decide) (by rw [hc4]; rfl) (by decide) ?_
    refine lv_aload_n hx hb dX9_tell_57 rfl (lv_at hl 0 rfl) ?_
    refine va_get (ci := 8) (v := .int mVil) (C := RX9) (T := TX9) (N := 22) hx hb hts hiX9 hown hK hP 0 rfl rfl 0 (by decide) (hts _ (List.mem_of_getElem? (i := 4) rfl)) (fun _ h9 => h9) rfl dX9_tell_58 ?_
    exact re_i hx hb hr hlk dX9_tell_61 hf
  replace hf := (if_neg hc4).symm.trans hf
  by_cases hc5 : p0 = (5 : Int32)
  · replace hf := (if_pos hc5).symm.trans hf
    refine lv_tableIn (tgt := 62) hx hb dX9_tell_1 (by rw [hc5]; decide) (by rw [hc5]; decide) (by rw [hc5]; rfl) (by decide) ?_
    refine lv_aload_n hx hb dX9_tell_62 rfl (lv_at hl 0 rfl) ?_
    obtain ⟨r_1, hq, hf⟩ := ob hf
    try dsimp only at hf
    refine rcV 0 8 (As := []) (rest := []) ⟨hx, hb, hml, hown, hts⟩ (ctX9_openMany l D cI cB cZ bd mVil mBad mFul mLen mSig mWay mLef mSpo mBeg mTok mVal mWor mNum mThe mRts mLns mOpn mTxt mAns mWys mSiz mNbs  r_1 hq) (cwV 0 hts gX9_tell_X9_openMany rfl rfl rfl (by decide +kernel) ⟨Nat.le_of_ble_eq_true rfl, Nat.le_of_ble_eq_true rfl⟩) hK hP rfl rfl rfl hl.1 rfl (Nat.le_of_ble_eq_true rfl) dX9_tell_63 ⟨Nat.zero_le _, Nat.zero_le _⟩ ?_
    exact re_i hx hb hr hlk dX9_tell_66 hf
  replace hf := (if_neg hc5).symm.trans hf
  refine lv_tableOut (tgt := 67) hx hb dX9_tell_1 (by have e0 := ne_ti (z := 0) hc0 (by decide); have e1 := ne_ti (z := 1) hc1 (by decide); have e2 := ne_ti (z := 2) hc2 (by decide); have e3 := ne_ti (z := 3) hc3 (by decide); have e4 := ne_ti (z := 4) hc4 (by decide); have e5 := ne_ti (z := 5) hc5 (by decide); omega) (by decide) ?_
  refine lv_aload_n hx hb dX9_tell_67 rfl (lv_at hl 0 rfl) ?_
  refine va_get (ci := 8) (v := .int mSig) (C := RX9) (T := TX9) (N := 22) hx hb hts hiX9 hown hK hP 0 rfl rfl 8 (by decide) (hts _ (List.mem_of_getElem? (i := 5) rfl)) (fun _ h9 => h9) rfl dX9_tell_68 ?_
  exact re_i hx hb hr hlk dX9_tell_71 hf

def fX9_told (mVil : Int32) (mBad : Int32) (mFul : Int32) (mLen : Int32) (mSig : Int32) (mOpn : Nat → Int32) (p0 : Int32) : Option (Int32 × Int32) :=
  ((fX9_in (p0).toInt64 (0 : Int64) (6 : Int64)).bind fun r_1 => (if r_1 = 0 then ((fX9_refuse mBad).bind fun (r_2, qmBad_3) => (some (r_2, qmBad_3))) else ((fX9_tell mVil mBad mFul mLen mSig mOpn p0).bind fun r_4 => (some (r_4, mBad)))))
set_option maxRecDepth 100000 in
set_option maxHeartbeats 4000000 in
theorem ctX9_told (l : Launch) (D : va_G) (cI cB cZ : ClassId) (bd : Nat → Nat) (A : Nat → Prop) (hAD : AD A bd 9) (mVil mBad mFul mLen mSig mWay mLef mSpo mBeg mTok mVal mWor mNum mThe : Int32) (mRts mLns mOpn mTxt mAns mWys mSiz mNbs : Nat → Int32) (p0 : Int32) (rv : Int32) (zmBad : Int32) (hf : fX9_told mVil mBad mFul mLen mSig mOpn p0 = some (rv, zmBad)) : Met l yX9_told wsX9_told (rmN 2 43) (PR D (tyL cI cB cZ) (wM cI cB cZ bd mVil mBad mFul mLen mSig mWay mLef mSpo mBeg mTok mVal mWor mNum mThe mRts mLns mOpn mTxt mAns mWys mSiz mNbs) [.ref (bd 0), .int p0]) (QI D (wM cI cB cZ bd mVil zmBad mFul mLen mSig mWay mLef mSpo mBeg mTok mVal mWor mNum mThe mRts mLns mOpn mTxt mAns mWys mSiz mNbs) A rv) 0 0 A := by
  refine mk_met cX9_told 2 (some .int) (by decide) rfl (Nat.le_of_ble_eq_true rfl) ?_
  intro p e s m args below meth c ls hx hb hr hlk hml hown hts hPK hl
  obtain ⟨hP, hK⟩ := hPK
  replace hl : lv_has ls 2 [(0, .ref (bd 0)), (1, .int p0)] := hl
  replace hown : s.vm.findClass RX9 = some m.cls := hown
  have hS : va_S A s.heap s.heap [] := va_S.rf
  unfold fX9_told at hf
  refine lv_iload_n hx hb dX9_told_0 rfl (lv_at hl 1 rfl) ?_
  refine lv_i2l (v := (p0).toInt64) hx hb dX9_told_1 rfl ?_
  refine lv_lconst (v := (0 : Int64)) hx hb dX9_told_2 (by decide) ?_
  refine lv_ldc2 (v := (6 : Int64)) hx hb hown (hts _ (List.mem_of_getElem? (i := 1) rfl)) dX9_told_3 ?_
  obtain ⟨r_1, hq, hf⟩ := ob hf
  try dsimp only at hf
  refine rcS (As := [.long (p0).toInt64, .long (0 : Int64), .long (6 : Int64)]) (rest := []) ⟨hx, hb, hml, hown, hts⟩ (ctX9_in l (p0).toInt64 (0 : Int64) (6 : Int64) r_1 hq) (va_cwS 3 hts gX9_told_X9_in rfl rfl rfl (by decide +kernel) ⟨Nat.le_of_ble_eq_true rfl, Nat.le_of_ble_eq_true rfl⟩) rfl hl.1 rfl (Nat.le_of_ble_eq_true rfl) dX9_told_6 ⟨Nat.zero_le _, Nat.zero_le _⟩ ?_
  refine lv_if_eq (tgt := 20) hx hb dX9_told_9 (by decide) (fun hc => ?_) (fun hc => ?_)
  · replace hf := (if_pos hc).symm.trans hf
    refine lv_aload_n hx hb dX9_told_20 rfl (lv_at hl 0 rfl) ?_
    obtain ⟨⟨r_2, qmBad_3⟩, hq, hf⟩ := ob hf
    try dsimp only at hf
    refine mcVi 0 8 (As := []) (rest := []) ⟨hx, hb, hml, hown, hts⟩ (ctX9_refuse l D cI cB cZ bd A hAD mVil mBad mFul mLen mSig mWay mLef mSpo mBeg mTok mVal mWor mNum mThe mRts mLns mOpn mTxt mAns mWys mSiz mNbs  r_2 qmBad_3 hq) (cwV 0 hts gX9_told_X9_refuse rfl rfl rfl (by decide +kernel) ⟨Nat.le_of_ble_eq_true rfl, Nat.le_of_ble_eq_true rfl⟩) hK hP hS rfl rfl rfl hl.1 rfl (Nat.le_of_ble_eq_true rfl) dX9_told_21 ⟨Nat.zero_le _, Nat.zero_le _⟩ (fun H locs hP hS => ?_)
    obtain ⟨e0, hz1⟩ := Prod.mk.inj (Option.some.inj hf)
    subst e0
    subst hz1
    exact rm_i hx hb hr hlk hP hS dX9_told_24
  · replace hf := (if_neg hc).symm.trans hf
    refine lv_aload_n hx hb dX9_told_12 rfl (lv_at hl 0 rfl) ?_
    refine lv_iload_n hx hb dX9_told_13 rfl (lv_at hl 1 rfl) ?_
    obtain ⟨r_4, hq, hf⟩ := ob hf
    try dsimp only at hf
    refine rcV 0 8 (As := [.int p0]) (rest := []) ⟨hx, hb, hml, hown, hts⟩ (ctX9_tell l D cI cB cZ bd mVil mBad mFul mLen mSig mWay mLef mSpo mBeg mTok mVal mWor mNum mThe mRts mLns mOpn mTxt mAns mWys mSiz mNbs p0 r_4 hq) (cwV 1 hts gX9_told_X9_tell rfl rfl rfl (by decide +kernel) ⟨Nat.le_of_ble_eq_true rfl, Nat.le_of_ble_eq_true rfl⟩) hK hP rfl rfl rfl hl.1 rfl (Nat.le_of_ble_eq_true rfl) dX9_told_14 ⟨Nat.zero_le _, Nat.zero_le _⟩ ?_
    refine lv_goto (tgt := 24) hx hb dX9_told_17 (by decide) ?_
    obtain ⟨e0, hz1⟩ := Prod.mk.inj (Option.some.inj hf)
    subst e0
    subst hz1
    exact rm_i hx hb hr hlk hP hS dX9_told_24

def fX9_digest_L6 (mVil : Int32) (mBad : Int32) (mFul : Int32) (mLen : Int32) (mSig : Int32) (mOpn : Nat → Int32) (kk : (Int64 × Int32) → Option (Int64 × Int32)) (ww : Int64 × Int32) : Option (Int64 × Int32) :=
  match ww with
  | (v1_1, v3_2) => (if (7 : Int32) ≤ v3_2 then (some (v1_1, v3_2)) else ((fX9_tell mVil mBad mFul mLen mSig mOpn v3_2).bind fun r_3 => (kk ((((31 : Int64) * v1_1) + (r_3).toInt64), (v3_2 + (1 : Int32))))))
def fX9_digest_L44 (mRts : Nat → Int32) (mLns : Nat → Int32) (mOpn : Nat → Int32) (v3_5 : Int32) (kk : (Int64 × Int32) → Option (Int64 × Int32)) (ww : Int64 × Int32) : Option (Int64 × Int32) :=
  match ww with
  | (v1_6, v4_7) => (if (3 : Int32) ≤ v4_7 then (some (v1_6, v4_7)) else ((fX9_partOf mRts mLns mOpn v3_5 v4_7).bind fun r_8 => (kk ((((31 : Int64) * v1_6) + (r_8).toInt64), (v4_7 + (1 : Int32))))))
def fX9_digest_L33 (mVil : Int32) (mRts : Nat → Int32) (mLns : Nat → Int32) (mOpn : Nat → Int32) (kk : (Int64 × Int32) → Option (Int64 × Int32)) (ww : Int64 × Int32) : Option (Int64 × Int32) :=
  match ww with
  | (v1_4, v3_5) => (if mVil ≤ v3_5 then (some (v1_4, v3_5)) else ((lp (fX9_digest_L44 mRts mLns mOpn v3_5) FU (v1_4, (0 : Int32))).bind fun (ov1_6, ov4_7) => (kk (ov1_6, (v3_5 + (1 : Int32))))))
def fX9_digest_L79 (mSig : Int32) (mAns : Nat → Int32) (kk : (Int64 × Int32) → Option (Int64 × Int32)) (ww : Int64 × Int32) : Option (Int64 × Int32) :=
  match ww with
  | (v1_9, v3_10) => (if mSig ≤ v3_10 then (some (v1_9, v3_10)) else (if gI v3_10 400 then (kk ((((31 : Int64) * v1_9) + (mAns (v3_10).toNatClampNeg).toInt64), (v3_10 + (1 : Int32)))) else none))
def fX9_digest (mVil : Int32) (mBad : Int32) (mFul : Int32) (mLen : Int32) (mSig : Int32) (mRts : Nat → Int32) (mLns : Nat → Int32) (mOpn : Nat → Int32) (mAns : Nat → Int32)  : Option (Int64) :=
  ((lp (fX9_digest_L6 mVil mBad mFul mLen mSig mOpn) FU ((1997 : Int64), (0 : Int32))).bind fun (ov1_1, ov3_2) => ((lp (fX9_digest_L33 mVil mRts mLns mOpn) FU (ov1_1, (0 : Int32))).bind fun (ov1_4, ov3_5) => ((lp (fX9_digest_L79 mSig mAns) FU (ov1_4, (0 : Int32))).bind fun (ov1_9, ov3_10) => (some ov1_9))))
set_option maxRecDepth 100000 in
set_option maxHeartbeats 4000000 in
theorem ctX9_digest (l : Launch) (D : va_G) (cI cB cZ : ClassId) (bd : Nat → Nat) (mVil mBad mFul mLen mSig mWay mLef mSpo mBeg mTok mVal mWor mNum mThe : Int32) (mRts mLns mOpn mTxt mAns mWys mSiz mNbs : Nat → Int32)  (rv : Int64) (hf : fX9_digest mVil mBad mFul mLen mSig mRts mLns mOpn mAns = some rv) : Met l yX9_digest wsX9_digest (rmN 2 43) (PR D (tyL cI cB cZ) (wM cI cB cZ bd mVil mBad mFul mLen mSig mWay mLef mSpo mBeg mTok mVal mWor mNum mThe mRts mLns mOpn mTxt mAns mWys mSiz mNbs) [.ref (bd 0)]) (SL rv) 0 0 (fun _ => False) := by
  refine mk_met cX9_digest 5 (some .long) (by decide) rfl (Nat.le_of_ble_eq_true rfl) ?_
  intro p e s m args below meth c ls hx hb hr hlk hml hown hts hPK hl
  obtain ⟨hP, hK⟩ := hPK
  replace hl : lv_has ls 5 [(0, .ref (bd 0))] := hl
  replace hown : s.vm.findClass RX9 = some m.cls := hown
  have hiX9 : ∀ w ∈ wsX90, w ∈ wsX9_digest := fun w h => List.mem_cons_of_mem _ (List.mem_append_right _ h)
  unfold fX9_digest at hf
  refine lv_ldc2 (v := (1997 : Int64)) hx hb hown (hts _ (List.mem_of_getElem? (i := 1) rfl)) dX9_digest_0 ?_
  refine lv_lstore_n (lv' := [(1, .long (1997 : Int64)), (0, .ref (bd 0))]) hx hb dX9_digest_3 rfl hl (by decide) rfl (fun ls hl => ?_)
  refine lv_iconst (v := (0 : Int32)) hx hb dX9_digest_4 (by decide) ?_
  refine lv_istore_n (lv' := [(3, .int (0 : Int32)), (1, .long (1997 : Int64)), (0, .ref (bd 0))]) hx hb dX9_digest_5 rfl hl (by decide) rfl (fun ls hl => ?_)
  have hL6 : ∀ (n : Nat) (v1_1 : Int64) (v3_2 : Int32) (ov1_1 : Int64) (ov3_2 : Int32) (ls : Array Slot), lp (fX9_digest_L6 mVil mBad mFul mLen mSig mOpn) n (v1_1, v3_2) = some (ov1_1, ov3_2) → lv_has ls 5 [(0, .ref (bd 0)), (1, .long v1_1), (3, .int v3_2)] → (∀ (ls : Array Slot), lv_has ls 5 [(0, .ref (bd 0)), (1, .long ov1_1), (3, .int ov3_2)] → W p l e (rmN 2 43) s m args below meth c s.heap [] 0 0 (MQ below (SL rv) args s 0 0 (fun _ => False)) (F0 m 31 ls [])) → W p l e (rmN 2 43) s m args below meth c s.heap [] 0 0 (MQ below (SL rv) args s 0 0 (fun _ => False)) (F0 m 6 ls []) := by
    intro n
    induction n with
    | zero => intro v1_1 v3_2 ov1_1 ov3_2 ls hf; exact (lp_0 hf).elim
    | succ n ih =>
      intro v1_1 v3_2 ov1_1 ov3_2 ls hf hl hE
      replace hf := lp_s hf
      dsimp only [fX9_digest_L6] at hf
      refine lv_iload_n hx hb dX9_digest_6 rfl (lv_at hl 2 rfl) ?_
      refine lv_bipush (v := (7 : Int32)) hx hb dX9_digest_7 (by decide) ?_
      refine lv_icmp_ge (tgt := 31) hx hb dX9_digest_9 (by decide) (fun hc => ?_) (fun hc => ?_)
      · replace hf := (if_pos hc).symm.trans hf
        cases hf
        exact hE _ (lv_sub hl [0, 1, 2] rfl)
      · replace hf := (if_neg hc).symm.trans hf
        refine lv_ldc2 (v := (31 : Int64)) hx hb hown (hts _ (List.mem_of_getElem? (i := 2) rfl)) dX9_digest_12 ?_
        refine lv_lload_n hx hb dX9_digest_15 rfl (lv_at hl 1 rfl) ?_
        refine lv_lmul hx hb dX9_digest_16 ?_
        refine lv_aload_n hx hb dX9_digest_17 rfl (lv_at hl 0 rfl) ?_
        refine lv_iload_n hx hb dX9_digest_18 rfl (lv_at hl 2 rfl) ?_
        obtain ⟨r_3, hq, hf⟩ := ob hf
        try dsimp only at hf
        refine rcV 0 8 (As := [.int v3_2]) (rest := [.long ((31 : Int64) * v1_1)]) ⟨hx, hb, hml, hown, hts⟩ (ctX9_tell l D cI cB cZ bd mVil mBad mFul mLen mSig mWay mLef mSpo mBeg mTok mVal mWor mNum mThe mRts mLns mOpn mTxt mAns mWys mSiz mNbs v3_2 r_3 hq) (cwV 1 hts gX9_digest_X9_tell rfl rfl rfl (by decide +kernel) ⟨Nat.le_of_ble_eq_true rfl, Nat.le_of_ble_eq_true rfl⟩) hK hP rfl rfl rfl hl.1 rfl (Nat.le_of_ble_eq_true rfl) dX9_digest_19 ⟨Nat.zero_le _, Nat.zero_le _⟩ ?_
        refine lv_i2l (v := (r_3).toInt64) hx hb dX9_digest_22 rfl ?_
        refine lv_ladd hx hb dX9_digest_23 ?_
        refine lv_lstore_n (lv' := [(1, .long (((31 : Int64) * v1_1) + (r_3).toInt64)), (0, .ref (bd 0)), (3, .int v3_2)]) hx hb dX9_digest_24 rfl hl (by decide) rfl (fun ls hl => ?_)
        refine lv_iinc (v := (v3_2 + (1 : Int32))) (lv' := [(3, .int (v3_2 + (1 : Int32))), (1, .long (((31 : Int64) * v1_1) + (r_3).toInt64)), (0, .ref (bd 0))]) hx hb dX9_digest_25 hl (k := 2) rfl rfl (by decide) rfl (fun ls hl => ?_)
        refine lv_goto (tgt := 6) hx hb dX9_digest_28 (by decide) ?_
        exact ih _ _ _ _ _ hf (lv_sub hl [2, 1, 0] rfl) hE
  obtain ⟨⟨ov1_1, ov3_2⟩, hq, hf⟩ := ob hf
  try dsimp only at hf
  refine hL6 FU _ _ ov1_1 ov3_2 ls hq (lv_sub hl [2, 1, 0] rfl) (fun ls hl => ?_)
  refine lv_iconst (v := (0 : Int32)) hx hb dX9_digest_31 (by decide) ?_
  refine lv_istore_n (lv' := [(3, .int (0 : Int32)), (0, .ref (bd 0)), (1, .long ov1_1)]) hx hb dX9_digest_32 rfl hl (by decide) rfl (fun ls hl => ?_)
  have hL33 : ∀ (n : Nat) (v1_4 : Int64) (v3_5 : Int32) (ov1_4 : Int64) (ov3_5 : Int32) (ls : Array Slot), lp (fX9_digest_L33 mVil mRts mLns mOpn) n (v1_4, v3_5) = some (ov1_4, ov3_5) → lv_has ls 5 [(0, .ref (bd 0)), (1, .long v1_4), (3, .int v3_5)] → (∀ (ls : Array Slot), lv_has ls 5 [(0, .ref (bd 0)), (1, .long ov1_4), (3, .int ov3_5)] → W p l e (rmN 2 43) s m args below meth c s.heap [] 0 0 (MQ below (SL rv) args s 0 0 (fun _ => False)) (F0 m 77 ls [])) → W p l e (rmN 2 43) s m args below meth c s.heap [] 0 0 (MQ below (SL rv) args s 0 0 (fun _ => False)) (F0 m 33 ls []) := by
    intro n
    induction n with
    | zero => intro v1_4 v3_5 ov1_4 ov3_5 ls hf; exact (lp_0 hf).elim
    | succ n ih =>
      intro v1_4 v3_5 ov1_4 ov3_5 ls hf hl hE
      replace hf := lp_s hf
      dsimp only [fX9_digest_L33] at hf
      refine lv_iload_n hx hb dX9_digest_33 rfl (lv_at hl 2 rfl) ?_
      refine lv_aload_n hx hb dX9_digest_34 rfl (lv_at hl 0 rfl) ?_
      refine va_get (ci := 8) (v := .int mVil) (C := RX9) (T := TX9) (N := 22) hx hb hts hiX9 hown hK hP 0 rfl rfl 0 (by decide) (hts _ (List.mem_of_getElem? (i := 3) rfl)) (fun _ h9 => h9) rfl dX9_digest_35 ?_
      refine lv_icmp_ge (tgt := 77) hx hb dX9_digest_38 (by decide) (fun hc => ?_) (fun hc => ?_)
      · replace hf := (if_pos hc).symm.trans hf
        cases hf
        exact hE _ (lv_sub hl [0, 1, 2] rfl)
      · replace hf := (if_neg hc).symm.trans hf
        refine lv_iconst (v := (0 : Int32)) hx hb dX9_digest_41 (by decide) ?_
        refine lv_istore (lv' := [(4, .int (0 : Int32)), (0, .ref (bd 0)), (1, .long v1_4), (3, .int v3_5)]) hx hb dX9_digest_42 hl (by decide) rfl (fun ls hl => ?_)
        have hL44 : ∀ (n : Nat) (v1_6 : Int64) (v4_7 : Int32) (ov1_6 : Int64) (ov4_7 : Int32) (ls : Array Slot), lp (fX9_digest_L44 mRts mLns mOpn v3_5) n (v1_6, v4_7) = some (ov1_6, ov4_7) → lv_has ls 5 [(0, .ref (bd 0)), (1, .long v1_6), (3, .int v3_5), (4, .int v4_7)] → (∀ (ls : Array Slot), lv_has ls 5 [(0, .ref (bd 0)), (1, .long ov1_6), (3, .int v3_5), (4, .int ov4_7)] → W p l e (rmN 2 43) s m args below meth c s.heap [] 0 0 (MQ below (SL rv) args s 0 0 (fun _ => False)) (F0 m 71 ls [])) → W p l e (rmN 2 43) s m args below meth c s.heap [] 0 0 (MQ below (SL rv) args s 0 0 (fun _ => False)) (F0 m 44 ls []) := by
          intro n
          induction n with
          | zero => intro v1_6 v4_7 ov1_6 ov4_7 ls hf; exact (lp_0 hf).elim
          | succ n ih =>
            intro v1_6 v4_7 ov1_6 ov4_7 ls hf hl hE
            replace hf := lp_s hf
            dsimp only [fX9_digest_L44] at hf
            refine lv_iload hx hb dX9_digest_44 (lv_at hl 3 rfl) ?_
            refine lv_iconst (v := (3 : Int32)) hx hb dX9_digest_46 (by decide) ?_
            refine lv_icmp_ge (tgt := 71) hx hb dX9_digest_47 (by decide) (fun hc => ?_) (fun hc => ?_)
            · replace hf := (if_pos hc).symm.trans hf
              cases hf
              exact hE _ (lv_sub hl [0, 1, 2, 3] rfl)
            · replace hf := (if_neg hc).symm.trans hf
              refine lv_ldc2 (v := (31 : Int64)) hx hb hown (hts _ (List.mem_of_getElem? (i := 2) rfl)) dX9_digest_50 ?_
              refine lv_lload_n hx hb dX9_digest_53 rfl (lv_at hl 1 rfl) ?_
              refine lv_lmul hx hb dX9_digest_54 ?_
              refine lv_aload_n hx hb dX9_digest_55 rfl (lv_at hl 0 rfl) ?_
              refine lv_iload_n hx hb dX9_digest_56 rfl (lv_at hl 2 rfl) ?_
              refine lv_iload hx hb dX9_digest_57 (lv_at hl 3 rfl) ?_
              obtain ⟨r_8, hq, hf⟩ := ob hf
              try dsimp only at hf
              refine rcV 0 8 (As := [.int v3_5, .int v4_7]) (rest := [.long ((31 : Int64) * v1_6)]) ⟨hx, hb, hml, hown, hts⟩ (ctX9_partOf l D cI cB cZ bd mVil mBad mFul mLen mSig mWay mLef mSpo mBeg mTok mVal mWor mNum mThe mRts mLns mOpn mTxt mAns mWys mSiz mNbs v3_5 v4_7 r_8 hq) (cwV 2 hts gX9_digest_X9_partOf rfl rfl rfl (by decide +kernel) ⟨Nat.le_of_ble_eq_true rfl, Nat.le_of_ble_eq_true rfl⟩) hK hP rfl rfl rfl hl.1 rfl (Nat.le_of_ble_eq_true rfl) dX9_digest_59 ⟨Nat.zero_le _, Nat.zero_le _⟩ ?_
              refine lv_i2l (v := (r_8).toInt64) hx hb dX9_digest_62 rfl ?_
              refine lv_ladd hx hb dX9_digest_63 ?_
              refine lv_lstore_n (lv' := [(1, .long (((31 : Int64) * v1_6) + (r_8).toInt64)), (0, .ref (bd 0)), (3, .int v3_5), (4, .int v4_7)]) hx hb dX9_digest_64 rfl hl (by decide) rfl (fun ls hl => ?_)
              refine lv_iinc (v := (v4_7 + (1 : Int32))) (lv' := [(4, .int (v4_7 + (1 : Int32))), (1, .long (((31 : Int64) * v1_6) + (r_8).toInt64)), (0, .ref (bd 0)), (3, .int v3_5)]) hx hb dX9_digest_65 hl (k := 3) rfl rfl (by decide) rfl (fun ls hl => ?_)
              refine lv_goto (tgt := 44) hx hb dX9_digest_68 (by decide) ?_
              exact ih _ _ _ _ _ hf (lv_sub hl [2, 1, 3, 0] rfl) hE
        obtain ⟨⟨ov1_6, ov4_7⟩, hq, hf⟩ := ob hf
        try dsimp only at hf
        refine hL44 FU _ _ ov1_6 ov4_7 ls hq (lv_sub hl [1, 2, 3, 0] rfl) (fun ls hl => ?_)
        refine lv_iinc (v := (v3_5 + (1 : Int32))) (lv' := [(3, .int (v3_5 + (1 : Int32))), (0, .ref (bd 0)), (1, .long ov1_6), (4, .int ov4_7)]) hx hb dX9_digest_71 hl (k := 2) rfl rfl (by decide) rfl (fun ls hl => ?_)
        refine lv_goto (tgt := 33) hx hb dX9_digest_74 (by decide) ?_
        exact ih _ _ _ _ _ hf (lv_sub hl [1, 2, 0] rfl) hE
  obtain ⟨⟨ov1_4, ov3_5⟩, hq, hf⟩ := ob hf
  try dsimp only at hf
  refine hL33 FU _ _ ov1_4 ov3_5 ls hq (lv_sub hl [1, 2, 0] rfl) (fun ls hl => ?_)
  refine lv_iconst (v := (0 : Int32)) hx hb dX9_digest_77 (by decide) ?_
  refine lv_istore_n (lv' := [(3, .int (0 : Int32)), (0, .ref (bd 0)), (1, .long ov1_4)]) hx hb dX9_digest_78 rfl hl (by decide) rfl (fun ls hl => ?_)
  have hL79 : ∀ (n : Nat) (v1_9 : Int64) (v3_10 : Int32) (ov1_9 : Int64) (ov3_10 : Int32) (ls : Array Slot), lp (fX9_digest_L79 mSig mAns) n (v1_9, v3_10) = some (ov1_9, ov3_10) → lv_has ls 5 [(0, .ref (bd 0)), (1, .long v1_9), (3, .int v3_10)] → (∀ (ls : Array Slot), lv_has ls 5 [(0, .ref (bd 0)), (1, .long ov1_9), (3, .int ov3_10)] → W p l e (rmN 2 43) s m args below meth c s.heap [] 0 0 (MQ below (SL rv) args s 0 0 (fun _ => False)) (F0 m 107 ls [])) → W p l e (rmN 2 43) s m args below meth c s.heap [] 0 0 (MQ below (SL rv) args s 0 0 (fun _ => False)) (F0 m 79 ls []) := by
    intro n
    induction n with
    | zero => intro v1_9 v3_10 ov1_9 ov3_10 ls hf; exact (lp_0 hf).elim
    | succ n ih =>
      intro v1_9 v3_10 ov1_9 ov3_10 ls hf hl hE
      replace hf := lp_s hf
      dsimp only [fX9_digest_L79] at hf
      refine lv_iload_n hx hb dX9_digest_79 rfl (lv_at hl 2 rfl) ?_
      refine lv_aload_n hx hb dX9_digest_80 rfl (lv_at hl 0 rfl) ?_
      refine va_get (ci := 8) (v := .int mSig) (C := RX9) (T := TX9) (N := 22) hx hb hts hiX9 hown hK hP 0 rfl rfl 8 (by decide) (hts _ (List.mem_of_getElem? (i := 4) rfl)) (fun _ h9 => h9) rfl dX9_digest_81 ?_
      refine lv_icmp_ge (tgt := 107) hx hb dX9_digest_84 (by decide) (fun hc => ?_) (fun hc => ?_)
      · replace hf := (if_pos hc).symm.trans hf
        cases hf
        exact hE _ (lv_sub hl [0, 1, 2] rfl)
      · replace hf := (if_neg hc).symm.trans hf
        refine lv_ldc2 (v := (31 : Int64)) hx hb hown (hts _ (List.mem_of_getElem? (i := 2) rfl)) dX9_digest_87 ?_
        refine lv_lload_n hx hb dX9_digest_90 rfl (lv_at hl 1 rfl) ?_
        refine lv_lmul hx hb dX9_digest_91 ?_
        refine lv_aload_n hx hb dX9_digest_92 rfl (lv_at hl 0 rfl) ?_
        refine va_get (ci := 8) (v := .ref (bd 5)) (C := RX9) (T := TX9) (N := 22) hx hb hts hiX9 hown hK hP 0 rfl rfl 9 (by decide) (hts _ (List.mem_of_getElem? (i := 5) rfl)) (fun _ h9 => h9) rfl dX9_digest_93 ?_
        refine lv_iload_n hx hb dX9_digest_96 rfl (lv_at hl 2 rfl) ?_
        obtain ⟨hg, hf⟩ := og hf
        refine va_iald hx hb hK hP 5 0 rfl rfl (gI_in hg) dX9_digest_97 ?_
        refine lv_i2l (v := (mAns (v3_10).toNatClampNeg).toInt64) hx hb dX9_digest_98 rfl ?_
        refine lv_ladd hx hb dX9_digest_99 ?_
        refine lv_lstore_n (lv' := [(1, .long (((31 : Int64) * v1_9) + (mAns (v3_10).toNatClampNeg).toInt64)), (0, .ref (bd 0)), (3, .int v3_10)]) hx hb dX9_digest_100 rfl hl (by decide) rfl (fun ls hl => ?_)
        refine lv_iinc (v := (v3_10 + (1 : Int32))) (lv' := [(3, .int (v3_10 + (1 : Int32))), (1, .long (((31 : Int64) * v1_9) + (mAns (v3_10).toNatClampNeg).toInt64)), (0, .ref (bd 0))]) hx hb dX9_digest_101 hl (k := 2) rfl rfl (by decide) rfl (fun ls hl => ?_)
        refine lv_goto (tgt := 79) hx hb dX9_digest_104 (by decide) ?_
        exact ih _ _ _ _ _ hf (lv_sub hl [2, 1, 0] rfl) hE
  obtain ⟨⟨ov1_9, ov3_10⟩, hq, hf⟩ := ob hf
  try dsimp only at hf
  refine hL79 FU _ _ ov1_9 ov3_10 ls hq (lv_sub hl [1, 2, 0] rfl) (fun ls hl => ?_)
  refine lv_lload_n hx hb dX9_digest_107 rfl (lv_at hl 1 rfl) ?_
  exact re_l hx hb hr hlk dX9_digest_108 hf
