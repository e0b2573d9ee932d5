def fX9_in  (p0 : Int64) (p1 : Int64) (p2 : Int64) : Option (Int32) :=
  (if (lg_cmp p0 p1) < 0 then (some (0 : Int32)) else (if 0 < (lg_cmp p0 p2) then (some (0 : Int32)) else (some (1 : Int32))))
set_option maxRecDepth 100000 in
set_option maxHeartbeats 4000000 in
theorem ctX9_in (l : Launch) (p0 : Int64) (p1 : Int64) (p2 : Int64) (rv : Int32) (hf : fX9_in p0 p1 p2 = some rv) : Met l yX9_in wsX9_in (rmN 0 0) (PS [.long p0, .long p1, .long p2]) (SI rv) 0 0 (fun _ => False) := by
  refine mk_met cX9_in 6 (some .boolean) (by decide) rfl (Nat.le_of_ble_eq_true rfl) ?_
  intro p e s m args below meth c ls hx hb hr hlk hml hown hts _ hl
  replace hl : lv_has ls 6 [(0, .long p0), (2, .long p1), (4, .long p2)] := hl
  replace hown : s.vm.findClass RX9 = some m.cls := hown
  unfold fX9_in at hf
  refine lv_lload_n hx hb dX9_in_0 rfl (lv_at hl 0 rfl) ?_
  refine lv_lload_n hx hb dX9_in_1 rfl (lv_at hl 1 rfl) ?_
  refine W.lcmp hx hb dX9_in_2 ?_
  refine lv_if_lt (tgt := 17) hx hb dX9_in_3 (by decide) (fun hc => ?_) (fun hc => ?_)
  · replace hf := (if_pos hc).symm.trans hf
    refine lv_iconst (v := (0 : Int32)) hx hb dX9_in_17 (by decide) ?_
    exact re_z hx hb hr hlk (by decide) dX9_in_18 hf
  · replace hf := (if_neg hc).symm.trans hf
    refine lv_lload_n hx hb dX9_in_6 rfl (lv_at hl 0 rfl) ?_
    refine lv_lload hx hb dX9_in_7 (lv_at hl 2 rfl) ?_
    refine W.lcmp hx hb dX9_in_9 ?_
    refine lv_if_gt (tgt := 17) hx hb dX9_in_10 (by decide) (fun hc => ?_) (fun hc => ?_)
    · replace hf := (if_pos hc).symm.trans hf
      refine lv_iconst (v := (0 : Int32)) hx hb dX9_in_17 (by decide) ?_
      exact re_z hx hb hr hlk (by decide) dX9_in_18 hf
    · replace hf := (if_neg hc).symm.trans hf
      refine lv_iconst (v := (1 : Int32)) hx hb dX9_in_13 (by decide) ?_
      refine lv_goto (tgt := 18) hx hb dX9_in_14 (by decide) ?_
      exact re_z hx hb hr hlk (by decide) dX9_in_18 hf
theorem nzX9_in {a b c : Int64} {r : Int32} (h : fX9_in a b c = some r) : narrow .boolean (.int r) = .int r := by
  unfold fX9_in at h
  split at h
  · cases h; decide
  · split at h
    · cases h; decide
    · cases h; decide

def fX9_isVillage (mVil : Int32) (p0 : Int32) : Option (Int32) :=
  ((fX9_in (p0).toInt64 (0 : Int64) (mVil - (1 : Int32)).toInt64).bind fun r_1 => (some r_1))
set_option maxRecDepth 100000 in
set_option maxHeartbeats 4000000 in
theorem ctX9_isVillage (l : Launch) (D : va_G) (cI cB cZ : ClassId) (bd : Nat → Nat) (mVil mBad mFul mLen mSig mWay mLef mSpo mBeg mTok mVal mWor mNum mThe : Int32) (mRts mLns mOpn mTxt mAns mWys mSiz mNbs : Nat → Int32) (p0 : Int32) (rv : Int32) (hf : fX9_isVillage mVil p0 = some rv) : Met l yX9_isVillage wsX9_isVillage (rmN 1 25) (PR D (tyL cI cB cZ) (wM cI cB cZ bd mVil mBad mFul mLen mSig mWay mLef mSpo mBeg mTok mVal mWor mNum mThe mRts mLns mOpn mTxt mAns mWys mSiz mNbs) [.ref (bd 0), .int p0]) (SI rv) 0 0 (fun _ => False) := by
  refine mk_met cX9_isVillage 2 (some .boolean) (by decide) rfl (Nat.le_of_ble_eq_true rfl) ?_
  intro p e s m args below meth c ls hx hb hr hlk hml hown hts hPK hl
  obtain ⟨hP, hK⟩ := hPK
  replace hl : lv_has ls 2 [(0, .ref (bd 0)), (1, .int p0)] := hl
  replace hown : s.vm.findClass RX9 = some m.cls := hown
  have hiX9 : ∀ w ∈ wsX90, w ∈ wsX9_isVillage := fun w h => List.mem_cons_of_mem _ (List.mem_append_right _ h)
  unfold fX9_isVillage at hf
  refine lv_iload_n hx hb dX9_isVillage_0 rfl (lv_at hl 1 rfl) ?_
  refine lv_i2l (v := (p0).toInt64) hx hb dX9_isVillage_1 rfl ?_
  refine lv_lconst (v := (0 : Int64)) hx hb dX9_isVillage_2 (by decide) ?_
  refine lv_aload_n hx hb dX9_isVillage_3 rfl (lv_at hl 0 rfl) ?_
  refine va_get (ci := 8) (v := .int mVil) (C := RX9) (T := TX9) (N := 22) hx hb hts hiX9 hown hK hP 0 rfl rfl 0 (by decide) (hts _ (List.mem_of_getElem? (i := 1) rfl)) (fun _ h9 => h9) rfl dX9_isVillage_4 ?_
  refine lv_iconst (v := (1 : Int32)) hx hb dX9_isVillage_7 (by decide) ?_
  refine lv_isub hx hb dX9_isVillage_8 ?_
  refine lv_i2l (v := (mVil - (1 : Int32)).toInt64) hx hb dX9_isVillage_9 rfl ?_
  obtain ⟨r_1, hq, hf⟩ := ob hf
  try dsimp only at hf
  refine rcS (As := [.long (p0).toInt64, .long (0 : Int64), .long (mVil - (1 : Int32)).toInt64]) (rest := []) ⟨hx, hb, hml, hown, hts⟩ (ctX9_in l (p0).toInt64 (0 : Int64) (mVil - (1 : Int32)).toInt64 r_1 hq) (va_cwS 3 hts gX9_isVillage_X9_in rfl rfl rfl (by decide +kernel) ⟨Nat.le_of_ble_eq_true rfl, Nat.le_of_ble_eq_true rfl⟩) rfl hl.1 rfl (Nat.le_of_ble_eq_true rfl) dX9_isVillage_10 ⟨Nat.zero_le _, Nat.zero_le _⟩ ?_
  exact re_z hx hb hr hlk (nzX9_in hq) dX9_isVillage_13 hf

def fX9_refuse (mBad : Int32)  : Option (Int32 × Int32) :=
  (some ((-2 : Int32), (mBad + (1 : Int32))))
set_option maxRecDepth 100000 in
set_option maxHeartbeats 4000000 in
theorem ctX9_refuse (l : Launch) (D : va_G) (cI cB cZ : ClassId) (bd : Nat → Nat) (A : Nat → Prop) (hAD : AD A bd 9) (mVil mBad mFul mLen mSig mWay mLef mSpo mBeg mTok mVal mWor mNum mThe : Int32) (mRts mLns mOpn mTxt mAns mWys mSiz mNbs : Nat → Int32)  (rv : Int32) (zmBad : Int32) (hf : fX9_refuse mBad = some (rv, zmBad)) : Met l yX9_refuse wsX9_refuse (rmN 0 0) (PR D (tyL cI cB cZ) (wM cI cB cZ bd mVil mBad mFul mLen mSig mWay mLef mSpo mBeg mTok mVal mWor mNum mThe mRts mLns mOpn mTxt mAns mWys mSiz mNbs) [.ref (bd 0)]) (QI D (wM cI cB cZ bd mVil zmBad mFul mLen mSig mWay mLef mSpo mBeg mTok mVal mWor mNum mThe mRts mLns mOpn mTxt mAns mWys mSiz mNbs) A rv) 0 0 A := by
  refine mk_met cX9_refuse 1 (some .int) (by decide) rfl (Nat.le_of_ble_eq_true rfl) ?_
  intro p e s m args below meth c ls hx hb hr hlk hml hown hts hPK hl
  obtain ⟨hP, hK⟩ := hPK
  replace hl : lv_has ls 1 [(0, .ref (bd 0))] := hl
  replace hown : s.vm.findClass RX9 = some m.cls := hown
  have hiX9 : ∀ w ∈ wsX90, w ∈ wsX9_refuse := fun w h => List.mem_cons_of_mem _ (List.mem_append_right _ h)
  have hS : va_S A s.heap s.heap [] := va_S.rf
  unfold fX9_refuse at hf
  refine lv_aload_n hx hb dX9_refuse_0 rfl (lv_at hl 0 rfl) ?_
  refine lv_dup hx hb dX9_refuse_1 rfl ?_
  refine va_get (ci := 8) (v := .int mBad) (C := RX9) (T := TX9) (N := 22) hx hb hts hiX9 hown hK hP 0 rfl rfl 4 (by decide) (hts _ (List.mem_of_getElem? (i := 1) rfl)) (fun _ h9 => h9) rfl dX9_refuse_2 ?_
  refine lv_iconst (v := (1 : Int32)) hx hb dX9_refuse_5 (by decide) ?_
  refine lv_iadd hx hb dX9_refuse_6 ?_
  refine va_put (ci := 8) (v := .int (mBad + (1 : Int32))) (ty := .int) (C := RX9) (T := TX9) (N := 22) hx hb hts hiX9 tyX9 tyX9_ok nmX9 hown hK hP (wM_D hAD) hS 0 rfl rfl 4 (by decide) (hts _ (List.mem_of_getElem? (i := 1) rfl)) (fun _ h9 => h9) rfl (tyX9_ok 4 (by decide)) rfl rfl (Nat.le_of_ble_eq_true rfl) dX9_refuse_7 (fun H locs hP _ hS => ?_)
  have hP : va_P D vwCl (wM cI cB cZ bd mVil (mBad + (1 : Int32)) mFul mLen mSig mWay mLef mSpo mBeg mTok mVal mWor mNum mThe mRts mLns mOpn mTxt mAns mWys mSiz mNbs) H := hP
  refine lv_bipush (v := (-2 : Int32)) hx hb dX9_refuse_10 (by decide) ?_
  obtain ⟨e0, hz1⟩ := Prod.mk.inj (Option.some.inj hf)
  subst e0
  subst hz1
  exact rm_i hx hb hr hlk hP hS dX9_refuse_12

def fX9_refuseFull (mFul : Int32)  : Option (Int32 × Int32) :=
  (some ((-4 : Int32), (mFul + (1 : Int32))))
set_option maxRecDepth 100000 in
set_option maxHeartbeats 4000000 in
theorem ctX9_refuseFull (l : Launch) (D : va_G) (cI cB cZ : ClassId) (bd : Nat → Nat) (A : Nat → Prop) (hAD : AD A bd 9) (mVil mBad mFul mLen mSig mWay mLef mSpo mBeg mTok mVal mWor mNum mThe : Int32) (mRts mLns mOpn mTxt mAns mWys mSiz mNbs : Nat → Int32)  (rv : Int32) (zmFul : Int32) (hf : fX9_refuseFull mFul = some (rv, zmFul)) : Met l yX9_refuseFull wsX9_refuseFull (rmN 0 0) (PR D (tyL cI cB cZ) (wM cI cB cZ bd mVil mBad mFul mLen mSig mWay mLef mSpo mBeg mTok mVal mWor mNum mThe mRts mLns mOpn mTxt mAns mWys mSiz mNbs) [.ref (bd 0)]) (QI D (wM cI cB cZ bd mVil mBad zmFul mLen mSig mWay mLef mSpo mBeg mTok mVal mWor mNum mThe mRts mLns mOpn mTxt mAns mWys mSiz mNbs) A rv) 0 0 A := by
  refine mk_met cX9_refuseFull 1 (some .int) (by decide) rfl (Nat.le_of_ble_eq_true rfl) ?_
  intro p e s m args below meth c ls hx hb hr hlk hml hown hts hPK hl
  obtain ⟨hP, hK⟩ := hPK
  replace hl : lv_has ls 1 [(0, .ref (bd 0))] := hl
  replace hown : s.vm.findClass RX9 = some m.cls := hown
  have hiX9 : ∀ w ∈ wsX90, w ∈ wsX9_refuseFull := fun w h => List.mem_cons_of_mem _ (List.mem_append_right _ h)
  have hS : va_S A s.heap s.heap [] := va_S.rf
  unfold fX9_refuseFull at hf
  refine lv_aload_n hx hb dX9_refuseFull_0 rfl (lv_at hl 0 rfl) ?_
  refine lv_dup hx hb dX9_refuseFull_1 rfl ?_
  refine va_get (ci := 8) (v := .int mFul) (C := RX9) (T := TX9) (N := 22) hx hb hts hiX9 hown hK hP 0 rfl rfl 5 (by decide) (hts _ (List.mem_of_getElem? (i := 1) rfl)) (fun _ h9 => h9) rfl dX9_refuseFull_2 ?_
  refine lv_iconst (v := (1 : Int32)) hx hb dX9_refuseFull_5 (by decide) ?_
  refine lv_iadd hx hb dX9_refuseFull_6 ?_
  refine va_put (ci := 8) (v := .int (mFul + (1 : Int32))) (ty := .int) (C := RX9) (T := TX9) (N := 22) hx hb hts hiX9 tyX9 tyX9_ok nmX9 hown hK hP (wM_D hAD) hS 0 rfl rfl 5 (by decide) (hts _ (List.mem_of_getElem? (i := 1) rfl)) (fun _ h9 => h9) rfl (tyX9_ok 5 (by decide)) rfl rfl (Nat.le_of_ble_eq_true rfl) dX9_refuseFull_7 (fun H locs hP _ hS => ?_)
  have hP : va_P D vwCl (wM cI cB cZ bd mVil mBad (mFul + (1 : Int32)) mLen mSig mWay mLef mSpo mBeg mTok mVal mWor mNum mThe mRts mLns mOpn mTxt mAns mWys mSiz mNbs) H := hP
  refine lv_bipush (v := (-4 : Int32)) hx hb dX9_refuseFull_10 (by decide) ?_
  obtain ⟨e0, hz1⟩ := Prod.mk.inj (Option.some.inj hf)
  subst e0
  subst hz1
  exact rm_i hx hb hr hlk hP hS dX9_refuseFull_12

def fX9_come (mVil : Int32) (mRts : Nat → Int32) (mLns : Nat → Int32) (mOpn : Nat → Int32) (p0 : Int32) (p1 : Int32) : Option (Int32 × Int32 × (Nat → Int32) × (Nat → Int32) × (Nat → Int32)) :=
  (if gI mVil 60 then (if gI mVil 60 then (if gI mVil 60 then (some (((mVil + (1 : Int32)) - (1 : Int32)), (mVil + (1 : Int32)), (upd mRts (mVil).toNatClampNeg p0), (upd mLns (mVil).toNatClampNeg p1), (upd mOpn (mVil).toNatClampNeg (vp_nar .boolean (0 : Int32))))) else none) else none) else none)
set_option maxRecDepth 100000 in
set_option maxHeartbeats 4000000 in
theorem ctX9_come (l : Launch) (D : va_G) (cI cB cZ : ClassId) (bd : Nat → Nat) (A : Nat → Prop) (hAD : AD A bd 9) (mVil mBad mFul mLen mSig mWay mLef mSpo mBeg mTok mVal mWor mNum mThe : Int32) (mRts mLns mOpn mTxt mAns mWys mSiz mNbs : Nat → Int32) (p0 : Int32) (p1 : Int32) (rv : Int32) (zmVil : Int32) (zmRts : Nat → Int32) (zmLns : Nat → Int32) (zmOpn : Nat → Int32) (hf : fX9_come mVil mRts mLns mOpn p0 p1 = some (rv, zmVil, zmRts, zmLns, zmOpn)) : Met l yX9_come wsX9_come (rmN 0 0) (PR D (tyL cI cB cZ) (wM cI cB cZ bd mVil mBad mFul mLen mSig mWay mLef mSpo mBeg mTok mVal mWor mNum mThe mRts mLns mOpn mTxt mAns mWys mSiz mNbs) [.ref (bd 0), .int p0, .int p1]) (QI D (wM cI cB cZ bd zmVil mBad mFul mLen mSig mWay mLef mSpo mBeg mTok mVal mWor mNum mThe zmRts zmLns zmOpn mTxt mAns mWys mSiz mNbs) A rv) 0 0 A := by
  refine mk_met cX9_come 3 (some .int) (by decide) rfl (Nat.le_of_ble_eq_true rfl) ?_
  intro p e s m args below meth c ls hx hb hr hlk hml hown hts hPK hl
  obtain ⟨hP, hK⟩ := hPK
  replace hl : lv_has ls 3 [(0, .ref (bd 0)), (1, .int p0), (2, .int p1)] := hl
  replace hown : s.vm.findClass RX9 = some m.cls := hown
  have hiX9 : ∀ w ∈ wsX90, w ∈ wsX9_come := fun w h => List.mem_cons_of_mem _ (List.mem_append_right _ h)
  have hS : va_S A s.heap s.heap [] := va_S.rf
  unfold fX9_come at hf
  refine lv_aload_n hx hb dX9_come_0 rfl (lv_at hl 0 rfl) ?_
  refine va_get (ci := 8) (v := .ref (bd 1)) (C := RX9) (T := TX9) (N := 22) hx hb hts hiX9 hown hK hP 0 rfl rfl 1 (by decide) (hts _ (List.mem_of_getElem? (i := 1) rfl)) (fun _ h9 => h9) rfl dX9_come_1 ?_
  refine lv_aload_n hx hb dX9_come_4 rfl (lv_at hl 0 rfl) ?_
  refine va_get (ci := 8) (v := .int mVil) (C := RX9) (T := TX9) (N := 22) hx hb hts hiX9 hown hK hP 0 rfl rfl 0 (by decide) (hts _ (List.mem_of_getElem? (i := 2) rfl)) (fun _ h9 => h9) rfl dX9_come_5 ?_
  refine lv_iload_n hx hb dX9_come_8 rfl (lv_at hl 1 rfl) ?_
  obtain ⟨hg, hf⟩ := og hf
  refine va_iast hx hb hK hP (wM_D hAD) hS 1 0 rfl rfl (gI_in hg) dX9_come_9 (fun H locs hP _ hS => ?_)
  have hP : va_P D vwCl (wM cI cB cZ bd mVil mBad mFul mLen mSig mWay mLef mSpo mBeg mTok mVal mWor mNum mThe (upd mRts (mVil).toNatClampNeg p0) mLns mOpn mTxt mAns mWys mSiz mNbs) H := hP
  refine lv_aload_n hx hb dX9_come_10 rfl (lv_at hl 0 rfl) ?_
  refine va_get (ci := 8) (v := .ref (bd 2)) (C := RX9) (T := TX9) (N := 22) hx hb hts hiX9 hown hK hP 0 rfl rfl 2 (by decide) (hts _ (List.mem_of_getElem? (i := 3) rfl)) (fun _ h9 => h9) rfl dX9_come_11 ?_
  refine lv_aload_n hx hb dX9_come_14 rfl (lv_at hl 0 rfl) ?_
  refine va_get (ci := 8) (v := .int mVil) (C := RX9) (T := TX9) (N := 22) hx hb hts hiX9 hown hK hP 0 rfl rfl 0 (by decide) (hts _ (List.mem_of_getElem? (i := 2) rfl)) (fun _ h9 => h9) rfl dX9_come_15 ?_
  refine lv_iload_n hx hb dX9_come_18 rfl (lv_at hl 2 rfl) ?_
  obtain ⟨hg, hf⟩ := og hf
  refine va_iast hx hb hK hP (wM_D hAD) hS 2 0 rfl rfl (gI_in hg) dX9_come_19 (fun H locs hP _ hS => ?_)
  have hP : va_P D vwCl (wM cI cB cZ bd mVil mBad mFul mLen mSig mWay mLef mSpo mBeg mTok mVal mWor mNum mThe (upd mRts (mVil).toNatClampNeg p0) (upd mLns (mVil).toNatClampNeg p1) mOpn mTxt mAns mWys mSiz mNbs) H := hP
  refine lv_aload_n hx hb dX9_come_20 rfl (lv_at hl 0 rfl) ?_
  refine va_get (ci := 8) (v := .ref (bd 3)) (C := RX9) (T := TX9) (N := 22) hx hb hts hiX9 hown hK hP 0 rfl rfl 3 (by decide) (hts _ (List.mem_of_getElem? (i := 4) rfl)) (fun _ h9 => h9) rfl dX9_come_21 ?_
  refine lv_aload_n hx hb dX9_come_24 rfl (lv_at hl 0 rfl) ?_
  refine va_get (ci := 8) (v := .int mVil) (C := RX9) (T := TX9) (N := 22) hx hb hts hiX9 hown hK hP 0 rfl rfl 0 (by decide) (hts _ (List.mem_of_getElem? (i := 2) rfl)) (fun _ h9 => h9) rfl dX9_come_25 ?_
  refine lv_iconst (v := (0 : Int32)) hx hb dX9_come_28 (by decide) ?_
  obtain ⟨hg, hf⟩ := og hf
  refine va_zast hx hb hK hP (wM_D hAD) hS 3 2 rfl rfl (gI_in hg) dX9_come_29 (fun H locs hP _ hS => ?_)
  have hP : va_P D vwCl (wM cI cB cZ bd mVil mBad mFul mLen mSig mWay mLef mSpo mBeg mTok mVal mWor mNum mThe (upd mRts (mVil).toNatClampNeg p0) (upd mLns (mVil).toNatClampNeg p1) (upd mOpn (mVil).toNatClampNeg (vp_nar .boolean (0 : Int32))) mTxt mAns mWys mSiz mNbs) H := hP
  refine lv_aload_n hx hb dX9_come_30 rfl (lv_at hl 0 rfl) ?_
  refine lv_dup hx hb dX9_come_31 rfl ?_
  refine va_get (ci := 8) (v := .int mVil) (C := RX9) (T := TX9) (N := 22) hx hb hts hiX9 hown hK hP 0 rfl rfl 0 (by decide) (hts _ (List.mem_of_getElem? (i := 2) rfl)) (fun _ h9 => h9) rfl dX9_come_32 ?_
  refine lv_iconst (v := (1 : Int32)) hx hb dX9_come_35 (by decide) ?_
  refine lv_iadd hx hb dX9_come_36 ?_
  refine va_put (ci := 8) (v := .int (mVil + (1 : Int32))) (ty := .int) (C := RX9) (T := TX9) (N := 22) hx hb hts hiX9 tyX9 tyX9_ok nmX9 hown hK hP (wM_D hAD) hS 0 rfl rfl 0 (by decide) (hts _ (List.mem_of_getElem? (i := 2) rfl)) (fun _ h9 => h9) rfl (tyX9_ok 0 (by decide)) rfl rfl (Nat.le_of_ble_eq_true rfl) dX9_come_37 (fun H locs hP _ hS => ?_)
  have hP : va_P D vwCl (wM cI cB cZ bd (mVil + (1 : Int32)) mBad mFul mLen mSig mWay mLef mSpo mBeg mTok mVal mWor mNum mThe (upd mRts (mVil).toNatClampNeg p0) (upd mLns (mVil).toNatClampNeg p1) (upd mOpn (mVil).toNatClampNeg (vp_nar .boolean (0 : Int32))) mTxt mAns mWys mSiz mNbs) H := hP
  refine lv_aload_n hx hb dX9_come_40 rfl (lv_at hl 0 rfl) ?_
  refine va_get (ci := 8) (v := .int (mVil + (1 : Int32))) (C := RX9) (T := TX9) (N := 22) hx hb hts hiX9 hown hK hP 0 rfl rfl 0 (by decide) (hts _ (List.mem_of_getElem? (i := 2) rfl)) (fun _ h9 => h9) rfl dX9_come_41 ?_
  refine lv_iconst (v := (1 : Int32)) hx hb dX9_come_44 (by decide) ?_
  refine lv_isub hx hb dX9_come_45 ?_
  obtain ⟨e0, hz1⟩ := Prod.mk.inj (Option.some.inj hf)
  obtain ⟨e1, hz2⟩ := Prod.mk.inj hz1
  obtain ⟨e2, hz3⟩ := Prod.mk.inj hz2
  obtain ⟨e3, hz4⟩ := Prod.mk.inj hz3
  subst e0
  subst e1
  subst e2
  subst e3
  subst hz4
  exact rm_i hx hb hr hlk hP hS dX9_come_46

def fX9_add_J20 (mVil : Int32) (mBad : Int32) (mFul : Int32) (mRts : Nat → Int32) (mLns : Nat → Int32) (mOpn : Nat → Int32) : Option (Int32 × Int32 × Int32 × Int32 × (Nat → Int32) × (Nat → Int32) × (Nat → Int32)) :=
  ((fX9_refuse mBad).bind fun (r_2, qmBad_3) => (some (r_2, mVil, qmBad_3, mFul, mRts, mLns, mOpn)))
def fX9_add (mVil : Int32) (mBad : Int32) (mFul : Int32) (mRts : Nat → Int32) (mLns : Nat → Int32) (mOpn : Nat → Int32) (p0 : Int32) (p1 : Int32) : Option (Int32 × Int32 × Int32 × Int32 × (Nat → Int32) × (Nat → Int32) × (Nat → Int32)) :=
  ((fX9_isVillage mVil p0).bind fun r_1 => (if r_1 = 0 then (fX9_add_J20 mVil mBad mFul mRts mLns mOpn) else ((fX9_in (p1).toInt64 (1 : Int64) (99 : Int64)).bind fun r_4 => (if r_4 = 0 then (fX9_add_J20 mVil mBad mFul mRts mLns mOpn) else (if mVil = (60 : Int32) then ((fX9_refuseFull mFul).bind fun (r_10, qmFul_11) => (some (r_10, mVil, mBad, qmFul_11, mRts, mLns, mOpn))) else ((fX9_come mVil mRts mLns mOpn p0 p1).bind fun (r_5, qmVil_6, qmRts_7, qmLns_8, qmOpn_9) => (some (r_5, qmVil_6, mBad, mFul, qmRts_7, qmLns_8, qmOpn_9))))))))
set_option maxRecDepth 100000 in
set_option maxHeartbeats 4000000 in
theorem ctX9_add (l : Launch) (D : va_G) (cI cB cZ : ClassId) (bd : Nat → Nat) (A : Nat → Prop) (hAD : AD A bd 9) (mVil mBad mFul mLen mSig mWay mLef mSpo mBeg mTok mVal mWor mNum mThe : Int32) (mRts mLns mOpn mTxt mAns mWys mSiz mNbs : Nat → Int32) (p0 : Int32) (p1 : Int32) (rv : Int32) (zmVil : Int32) (zmBad : Int32) (zmFul : Int32) (zmRts : Nat → Int32) (zmLns : Nat → Int32) (zmOpn : Nat → Int32) (hf : fX9_add mVil mBad mFul mRts mLns mOpn p0 p1 = some (rv, zmVil, zmBad, zmFul, zmRts, zmLns, zmOpn)) : Met l yX9_add wsX9_add (rmN 2 46) (PR D (tyL cI cB cZ) (wM cI cB cZ bd mVil mBad mFul mLen mSig mWay mLef mSpo mBeg mTok mVal mWor mNum mThe mRts mLns mOpn mTxt mAns mWys mSiz mNbs) [.ref (bd 0), .int p0, .int p1]) (QI D (wM cI cB cZ bd zmVil zmBad zmFul mLen mSig mWay mLef mSpo mBeg mTok mVal mWor mNum mThe zmRts zmLns zmOpn mTxt mAns mWys mSiz mNbs) A rv) 0 0 A := by
  refine mk_met cX9_add 3 (some .int) (by decide) rfl (Nat.le_of_ble_eq_true rfl) ?_
  intro p e s m args below meth c ls hx hb hr hlk hml hown hts hPK hl
  obtain ⟨hP, hK⟩ := hPK
  replace hl : lv_has ls 3 [(0, .ref (bd 0)), (1, .int p0), (2, .int p1)] := hl
  replace hown : s.vm.findClass RX9 = some m.cls := hown
  have hiX9 : ∀ w ∈ wsX90, w ∈ wsX9_add := fun w h => List.mem_cons_of_mem _ (List.mem_append_right _ h)
  have hS : va_S A s.heap s.heap [] := va_S.rf
  unfold fX9_add at hf
  refine lv_aload_n hx hb dX9_add_0 rfl (lv_at hl 0 rfl) ?_
  refine lv_iload_n hx hb dX9_add_1 rfl (lv_at hl 1 rfl) ?_
  obtain ⟨r_1, hq, hf⟩ := ob hf
  try dsimp only at hf
  refine rcV 0 8 (As := [.int p0]) (rest := []) ⟨hx, hb, hml, hown, hts⟩ (ctX9_isVillage l D cI cB cZ bd mVil mBad mFul mLen mSig mWay mLef mSpo mBeg mTok mVal mWor mNum mThe mRts mLns mOpn mTxt mAns mWys mSiz mNbs p0 r_1 hq) (cwV 1 hts gX9_add_X9_isVillage rfl rfl rfl (by decide +kernel) ⟨Nat.le_of_ble_eq_true rfl, Nat.le_of_ble_eq_true rfl⟩) hK hP rfl rfl rfl hl.1 rfl (Nat.le_of_ble_eq_true rfl) dX9_add_2 ⟨Nat.zero_le _, Nat.zero_le _⟩ ?_
  have hJ20 : ∀  (H : Heap) (locs : List Loc) (ls : Array Slot), fX9_add_J20 mVil mBad mFul mRts mLns mOpn = some (rv, zmVil, zmBad, zmFul, zmRts, zmLns, zmOpn) → va_P D vwCl (wM cI cB cZ bd mVil mBad mFul mLen mSig mWay mLef mSpo mBeg mTok mVal mWor mNum mThe mRts mLns mOpn mTxt mAns mWys mSiz mNbs) H → va_S A s.heap H locs → lv_has ls 3 [(0, .ref (bd 0)), (1, .int p0), (2, .int p1)] → W p l e (rmN 2 46) s m args below meth c H locs 0 0 (MQ below (QI D (wM cI cB cZ bd zmVil zmBad zmFul mLen mSig mWay mLef mSpo mBeg mTok mVal mWor mNum mThe zmRts zmLns zmOpn mTxt mAns mWys mSiz mNbs) A rv) args s 0 0 A) (F0 m 20 ls []) := by
    intro  H locs ls hf hP hS hl
    unfold fX9_add_J20 at hf
    refine lv_aload_n hx hb dX9_add_20 rfl (lv_at hl 0 rfl) ?_
    obtain ⟨⟨r_2, qmBad_3⟩, hq, hf⟩ := ob hf
    try dsimp only at hf
    refine mcVi 0 8 (As := []) (rest := []) ⟨hx, hb, hml, hown, hts⟩ (ctX9_refuse l D cI cB cZ bd A hAD mVil mBad mFul mLen mSig mWay mLef mSpo mBeg mTok mVal mWor mNum mThe mRts mLns mOpn mTxt mAns mWys mSiz mNbs  r_2 qmBad_3 hq) (cwV 0 hts gX9_add_X9_refuse rfl rfl rfl (by decide +kernel) ⟨Nat.le_of_ble_eq_true rfl, Nat.le_of_ble_eq_true rfl⟩) hK hP hS rfl rfl rfl hl.1 rfl (Nat.le_of_ble_eq_true rfl) dX9_add_21 ⟨Nat.zero_le _, Nat.zero_le _⟩ (fun H locs hP hS => ?_)
    obtain ⟨e0, hz1⟩ := Prod.mk.inj (Option.some.inj hf)
    obtain ⟨e1, hz2⟩ := Prod.mk.inj hz1
    obtain ⟨e2, hz3⟩ := Prod.mk.inj hz2
    obtain ⟨e3, hz4⟩ := Prod.mk.inj hz3
    obtain ⟨e4, hz5⟩ := Prod.mk.inj hz4
    obtain ⟨e5, hz6⟩ := Prod.mk.inj hz5
    subst e0
    subst e1
    subst e2
    subst e3
    subst e4
    subst e5
    subst hz6
    exact rm_i hx hb hr hlk hP hS dX9_add_24
  refine lv_if_eq (tgt := 20) hx hb dX9_add_5 (by decide) (fun hc => ?_) (fun hc => ?_)
  · replace hf := (if_pos hc).symm.trans hf
    exact hJ20  _ _ _ hf hP hS (lv_sub hl [0, 1, 2] rfl)
  · replace hf := (if_neg hc).symm.trans hf
    refine lv_iload_n hx hb dX9_add_8 rfl (lv_at hl 2 rfl) ?_
    refine lv_i2l (v := (p1).toInt64) hx hb dX9_add_9 rfl ?_
    refine lv_lconst (v := (1 : Int64)) hx hb dX9_add_10 (by decide) ?_
    refine lv_ldc2 (v := (99 : Int64)) hx hb hown (hts _ (List.mem_of_getElem? (i := 1) rfl)) dX9_add_11 ?_
    obtain ⟨r_4, hq, hf⟩ := ob hf
    try dsimp only at hf
    refine rcS (As := [.long (p1).toInt64, .long (1 : Int64), .long (99 : Int64)]) (rest := []) ⟨hx, hb, hml, hown, hts⟩ (ctX9_in l (p1).toInt64 (1 : Int64) (99 : Int64) r_4 hq) (va_cwS 3 hts gX9_add_X9_in rfl rfl rfl (by decide +kernel) ⟨Nat.le_of_ble_eq_true rfl, Nat.le_of_ble_eq_true rfl⟩) rfl hl.1 rfl (Nat.le_of_ble_eq_true rfl) dX9_add_14 ⟨Nat.zero_le _, Nat.zero_le _⟩ ?_
    refine lv_if_ne (tgt := 25) hx hb dX9_add_17 (by decide) (fun hc => ?_) (fun hc => ?_)
    · replace hf := (if_neg hc).symm.trans hf
      refine lv_aload_n hx hb dX9_add_25 rfl (lv_at hl 0 rfl) ?_
      refine va_get (ci := 8) (v := .int mVil) (C := RX9) (T := TX9) (N := 22) hx hb hts hiX9 hown hK hP 0 rfl rfl 0 (by decide) (hts _ (List.mem_of_getElem? (i := 2) rfl)) (fun _ h9 => h9) rfl dX9_add_26 ?_
      refine lv_bipush (v := (60 : Int32)) hx hb dX9_add_29 (by decide) ?_
      refine lv_icmp_ne (tgt := 41) hx hb dX9_add_31 (by decide) (fun hc => ?_) (fun hc => ?_)
      · replace hf := (if_neg hc).symm.trans hf
        refine lv_aload_n hx hb dX9_add_41 rfl (lv_at hl 0 rfl) ?_
        refine lv_iload_n hx hb dX9_add_42 rfl (lv_at hl 1 rfl) ?_
        refine lv_iload_n hx hb dX9_add_43 rfl (lv_at hl 2 rfl) ?_
        obtain ⟨⟨r_5, qmVil_6, qmRts_7, qmLns_8, qmOpn_9⟩, hq, hf⟩ := ob hf
        try dsimp only at hf
        refine mcVi 0 8 (As := [.int p0, .int p1]) (rest := []) ⟨hx, hb, hml, hown, hts⟩ (ctX9_come l D cI cB cZ bd A hAD mVil mBad mFul mLen mSig mWay mLef mSpo mBeg mTok mVal mWor mNum mThe mRts mLns mOpn mTxt mAns mWys mSiz mNbs p0 p1 r_5 qmVil_6 qmRts_7 qmLns_8 qmOpn_9 hq) (cwV 2 hts gX9_add_X9_come rfl rfl rfl (by decide +kernel) ⟨Nat.le_of_ble_eq_true rfl, Nat.le_of_ble_eq_true rfl⟩) hK hP hS rfl rfl rfl hl.1 rfl (Nat.le_of_ble_eq_true rfl) dX9_add_44 ⟨Nat.zero_le _, Nat.zero_le _⟩ (fun H locs hP hS => ?_)
        obtain ⟨e0, hz1⟩ := Prod.mk.inj (Option.some.inj hf)
        obtain ⟨e1, hz2⟩ := Prod.mk.inj hz1
        obtain ⟨e2, hz3⟩ := Prod.mk.inj hz2
        obtain ⟨e3, hz4⟩ := Prod.mk.inj hz3
        obtain ⟨e4, hz5⟩ := Prod.mk.inj hz4
        obtain ⟨e5, hz6⟩ := Prod.mk.inj hz5
        subst e0
        subst e1
        subst e2
        subst e3
        subst e4
        subst e5
        subst hz6
        exact rm_i hx hb hr hlk hP hS dX9_add_47
      · replace hf := (if_pos hc).symm.trans hf
        refine lv_aload_n hx hb dX9_add_34 rfl (lv_at hl 0 rfl) ?_
        obtain ⟨⟨r_10, qmFul_11⟩, hq, hf⟩ := ob hf
        try dsimp only at hf
        refine mcVi 0 8 (As := []) (rest := []) ⟨hx, hb, hml, hown, hts⟩ (ctX9_refuseFull l D cI cB cZ bd A hAD mVil mBad mFul mLen mSig mWay mLef mSpo mBeg mTok mVal mWor mNum mThe mRts mLns mOpn mTxt mAns mWys mSiz mNbs  r_10 qmFul_11 hq) (cwV 0 hts gX9_add_X9_refuseFull rfl rfl rfl (by decide +kernel) ⟨Nat.le_of_ble_eq_true rfl, Nat.le_of_ble_eq_true rfl⟩) hK hP hS rfl rfl rfl hl.1 rfl (Nat.le_of_ble_eq_true rfl) dX9_add_35 ⟨Nat.zero_le _, Nat.zero_le _⟩ (fun H locs hP hS => ?_)
        refine lv_goto (tgt := 47) hx hb dX9_add_38 (by decide) ?_
        obtain ⟨e0, hz1⟩ := Prod.mk.inj (Option.some.inj hf)
        obtain ⟨e1, hz2⟩ := Prod.mk.inj hz1
        obtain ⟨e2, hz3⟩ := Prod.mk.inj hz2
        obtain ⟨e3, hz4⟩ := Prod.mk.inj hz3
        obtain ⟨e4, hz5⟩ := Prod.mk.inj hz4
        obtain ⟨e5, hz6⟩ := Prod.mk.inj hz5
        subst e0
        subst e1
        subst e2
        subst e3
        subst e4
        subst e5
        subst hz6
        exact rm_i hx hb hr hlk hP hS dX9_add_47
    · replace hf := (if_pos hc).symm.trans hf
      exact hJ20  _ _ _ hf hP hS (lv_sub hl [0, 1, 2] rfl)

def fX9_becomes (mOpn : Nat → Int32) (p0 : Int32) (p1 : Int32) : Option (Int32 × (Nat → Int32)) :=
  (if gI p0 60 then (if gI p0 60 then (if (mOpn (p0).toNatClampNeg) = p1 then (some ((0 : Int32), (upd mOpn (p0).toNatClampNeg (vp_nar .boolean p1)))) else (some ((1 : Int32), (upd mOpn (p0).toNatClampNeg (vp_nar .boolean p1))))) else none) else none)
set_option maxRecDepth 100000 in
set_option maxHeartbeats 4000000 in
theorem ctX9_becomes (l : Launch) (D : va_G) (cI cB cZ : ClassId) (bd : Nat → Nat) (A : Nat → Prop) (hAD : AD A bd 9) (mVil mBad mFul mLen mSig mWay mLef mSpo mBeg mTok mVal mWor mNum mThe : Int32) (mRts mLns mOpn mTxt mAns mWys mSiz mNbs : Nat → Int32) (p0 : Int32) (p1 : Int32) (rv : Int32) (zmOpn : Nat → Int32) (hf : fX9_becomes mOpn p0 p1 = some (rv, zmOpn)) : Met l yX9_becomes wsX9_becomes (rmN 0 0) (PR D (tyL cI cB cZ) (wM cI cB cZ bd mVil mBad mFul mLen mSig mWay mLef mSpo mBeg mTok mVal mWor mNum mThe mRts mLns mOpn mTxt mAns mWys mSiz mNbs) [.ref (bd 0), .int p0, .int p1]) (QI D (wM cI cB cZ bd mVil mBad mFul mLen mSig mWay mLef mSpo mBeg mTok mVal mWor mNum mThe mRts mLns zmOpn mTxt mAns mWys mSiz mNbs) A rv) 0 0 A := by
  refine mk_met cX9_becomes 4 (some .int) (by decide) rfl (Nat.le_of_ble_eq_true rfl) ?_
  intro p e s m args below meth c ls hx hb hr hlk hml hown hts hPK hl
  obtain ⟨hP, hK⟩ := hPK
  replace hl : lv_has ls 4 [(0, .ref (bd 0)), (1, .int p0), (2, .int p1)] := hl
  replace hown : s.vm.findClass RX9 = some m.cls := hown
  have hiX9 : ∀ w ∈ wsX90, w ∈ wsX9_becomes := fun w h => List.mem_cons_of_mem _ (List.mem_append_right _ h)
  have hS : va_S A s.heap s.heap [] := va_S.rf
  unfold fX9_becomes at hf
  refine lv_aload_n hx hb dX9_becomes_0 rfl (lv_at hl 0 rfl) ?_
  refine va_get (ci := 8) (v := .ref (bd 3)) (C := RX9) (T := TX9) (N := 22) hx hb hts hiX9 hown hK hP 0 rfl rfl 3 (by decide) (hts _ (List.mem_of_getElem? (i := 1) rfl)) (fun _ h9 => h9) rfl dX9_becomes_1 ?_
  refine lv_iload_n hx hb dX9_becomes_4 rfl (lv_at hl 1 rfl) ?_
  obtain ⟨hg, hf⟩ := og hf
  refine va_zald hx hb hK hP 3 2 rfl rfl (gI_in hg) dX9_becomes_5 ?_
  refine lv_istore_n (lv' := [(3, .int (mOpn (p0).toNatClampNeg)), (0, .ref (bd 0)), (1, .int p0), (2, .int p1)]) hx hb dX9_becomes_6 rfl hl (by decide) rfl (fun ls hl => ?_)
  refine lv_aload_n hx hb dX9_becomes_7 rfl (lv_at hl 1 rfl) ?_
  refine va_get (ci := 8) (v := .ref (bd 3)) (C := RX9) (T := TX9) (N := 22) hx hb hts hiX9 hown hK hP 0 rfl rfl 3 (by decide) (hts _ (List.mem_of_getElem? (i := 1) rfl)) (fun _ h9 => h9) rfl dX9_becomes_8 ?_
  refine lv_iload_n hx hb dX9_becomes_11 rfl (lv_at hl 2 rfl) ?_
  refine lv_iload_n hx hb dX9_becomes_12 rfl (lv_at hl 3 rfl) ?_
  obtain ⟨hg, hf⟩ := og hf
  refine va_zast hx hb hK hP (wM_D hAD) hS 3 2 rfl rfl (gI_in hg) dX9_becomes_13 (fun H locs hP _ hS => ?_)
  have hP : va_P D vwCl (wM cI cB cZ bd mVil mBad mFul mLen mSig mWay mLef mSpo mBeg mTok mVal mWor mNum mThe mRts mLns (upd mOpn (p0).toNatClampNeg (vp_nar .boolean p1)) mTxt mAns mWys mSiz mNbs) H := hP
  refine lv_iload_n hx hb dX9_becomes_14 rfl (lv_at hl 0 rfl) ?_
  refine lv_iload_n hx hb dX9_becomes_15 rfl (lv_at hl 3 rfl) ?_
  refine lv_icmp_ne (tgt := 23) hx hb dX9_becomes_16 (by decide) (fun hc => ?_) (fun hc => ?_)
  · replace hf := (if_neg hc).symm.trans hf
    refine lv_iconst (v := (1 : Int32)) hx hb dX9_becomes_23 (by decide) ?_
    obtain ⟨e0, hz1⟩ := Prod.mk.inj (Option.some.inj hf)
    subst e0
    subst hz1
    exact rm_i hx hb hr hlk hP hS dX9_becomes_24
  · replace hf := (if_pos hc).symm.trans hf
    refine lv_iconst (v := (0 : Int32)) hx hb dX9_becomes_19 (by decide) ?_
    refine lv_goto (tgt := 24) hx hb dX9_becomes_20 (by decide) ?_
    obtain ⟨e0, hz1⟩ := Prod.mk.inj (Option.some.inj hf)
    subst e0
    subst hz1
    exact rm_i hx hb hr hlk hP hS dX9_becomes_24

def fX9_depot_J36 (mBad : Int32) (mOpn : Nat → Int32) : Option (Int32 × Int32 × (Nat → Int32)) :=
  ((fX9_refuse mBad).bind fun (r_2, qmBad_3) => (some (r_2, qmBad_3, mOpn)))
def fX9_depot_J30 (mBad : Int32) (mOpn : Nat → Int32) (p0 : Int32) (t_5 : Int32) : Option (Int32 × Int32 × (Nat → Int32)) :=
  ((fX9_becomes mOpn p0 t_5).bind fun (r_6, qmOpn_7) => (some (r_6, mBad, qmOpn_7)))
def fX9_depot (mVil : Int32) (mBad : Int32) (mOpn : Nat → Int32) (p0 : Int32) (p1 : Int32) : Option (Int32 × Int32 × (Nat → Int32)) :=
  ((fX9_isVillage mVil p0).bind fun r_1 => (if r_1 = 0 then (fX9_depot_J36 mBad mOpn) else ((fX9_in (p1).toInt64 (0 : Int64) (1 : Int64)).bind fun r_4 => (if r_4 = 0 then (fX9_depot_J36 mBad mOpn) else (if p1 = (1 : Int32) then (fX9_depot_J30 mBad mOpn p0 (1 : Int32)) else (fX9_depot_J30 mBad mOpn p0 (0 : Int32)))))))
set_option maxRecDepth 100000 in
set_option maxHeartbeats 4000000 in
theorem ctX9_depot (l : Launch) (D : va_G) (cI cB cZ : ClassId) (bd : Nat → Nat) (A : Nat → Prop) (hAD : AD A bd 9) (mVil mBad mFul mLen mSig mWay mLef mSpo mBeg mTok mVal mWor mNum mThe : Int32) (mRts mLns mOpn mTxt mAns mWys mSiz mNbs : Nat → Int32) (p0 : Int32) (p1 : Int32) (rv : Int32) (zmBad : Int32) (zmOpn : Nat → Int32) (hf : fX9_depot mVil mBad mOpn p0 p1 = some (rv, zmBad, zmOpn)) : Met l yX9_depot wsX9_depot (rmN 2 46) (PR D (tyL cI cB cZ) (wM cI cB cZ bd mVil mBad mFul mLen mSig mWay mLef mSpo mBeg mTok mVal mWor mNum mThe mRts mLns mOpn mTxt mAns mWys mSiz mNbs) [.ref (bd 0), .int p0, .int p1]) (QI D (wM cI cB cZ bd mVil zmBad mFul mLen mSig mWay mLef mSpo mBeg mTok mVal mWor mNum mThe mRts mLns zmOpn mTxt mAns mWys mSiz mNbs) A rv) 0 0 A := by
  refine mk_met cX9_depot 3 (some .int) (by decide) rfl (Nat.le_of_ble_eq_true rfl) ?_
  intro p e s m args below meth c ls hx hb hr hlk hml hown hts hPK hl
  obtain ⟨hP, hK⟩ := hPK
  replace hl : lv_has ls 3 [(0, .ref (bd 0)), (1, .int p0), (2, .int p1)] := hl
  replace hown : s.vm.findClass RX9 = some m.cls := hown
  have hS : va_S A s.heap s.heap [] := va_S.rf
  unfold fX9_depot at hf
  refine lv_aload_n hx hb dX9_depot_0 rfl (lv_at hl 0 rfl) ?_
  refine lv_iload_n hx hb dX9_depot_1 rfl (lv_at hl 1 rfl) ?_
  obtain ⟨r_1, hq, hf⟩ := ob hf
  try dsimp only at hf
  refine rcV 0 8 (As := [.int p0]) (rest := []) ⟨hx, hb, hml, hown, hts⟩ (ctX9_isVillage l D cI cB cZ bd mVil mBad mFul mLen mSig mWay mLef mSpo mBeg mTok mVal mWor mNum mThe mRts mLns mOpn mTxt mAns mWys mSiz mNbs p0 r_1 hq) (cwV 1 hts gX9_depot_X9_isVillage rfl rfl rfl (by decide +kernel) ⟨Nat.le_of_ble_eq_true rfl, Nat.le_of_ble_eq_true rfl⟩) hK hP rfl rfl rfl hl.1 rfl (Nat.le_of_ble_eq_true rfl) dX9_depot_2 ⟨Nat.zero_le _, Nat.zero_le _⟩ ?_
  have hJ36 : ∀  (H : Heap) (locs : List Loc) (ls : Array Slot), fX9_depot_J36 mBad mOpn = some (rv, zmBad, zmOpn) → va_P D vwCl (wM cI cB cZ bd mVil mBad mFul mLen mSig mWay mLef mSpo mBeg mTok mVal mWor mNum mThe mRts mLns mOpn mTxt mAns mWys mSiz mNbs) H → va_S A s.heap H locs → lv_has ls 3 [(0, .ref (bd 0)), (1, .int p0), (2, .int p1)] → W p l e (rmN 2 46) s m args below meth c H locs 0 0 (MQ below (QI D (wM cI cB cZ bd mVil zmBad mFul mLen mSig mWay mLef mSpo mBeg mTok mVal mWor mNum mThe mRts mLns zmOpn mTxt mAns mWys mSiz mNbs) A rv) args s 0 0 A) (F0 m 36 ls []) := by
    intro  H locs ls hf hP hS hl
    unfold fX9_depot_J36 at hf
    refine lv_aload_n hx hb dX9_depot_36 rfl (lv_at hl 0 rfl) ?_
    obtain ⟨⟨r_2, qmBad_3⟩, hq, hf⟩ := ob hf
    try dsimp only at hf
    refine mcVi 0 8 (As := []) (rest := []) ⟨hx, hb, hml, hown, hts⟩ (ctX9_refuse l D cI cB cZ bd A hAD mVil mBad mFul mLen mSig mWay mLef mSpo mBeg mTok mVal mWor mNum mThe mRts mLns mOpn mTxt mAns mWys mSiz mNbs  r_2 qmBad_3 hq) (cwV 0 hts gX9_depot_X9_refuse rfl rfl rfl (by decide +kernel) ⟨Nat.le_of_ble_eq_true rfl, Nat.le_of_ble_eq_true rfl⟩) hK hP hS rfl rfl rfl hl.1 rfl (Nat.le_of_ble_eq_true rfl) dX9_depot_37 ⟨Nat.zero_le _, Nat.zero_le _⟩ (fun H locs hP hS => ?_)
    obtain ⟨e0, hz1⟩ := Prod.mk.inj (Option.some.inj hf)
    obtain ⟨e1, hz2⟩ := Prod.mk.inj hz1
    subst e0
    subst e1
    subst hz2
    exact rm_i hx hb hr hlk hP hS dX9_depot_40
  refine lv_if_eq (tgt := 36) hx hb dX9_depot_5 (by decide) (fun hc => ?_) (fun hc => ?_)
  · replace hf := (if_pos hc).symm.trans hf
    exact hJ36  _ _ _ hf hP hS (lv_sub hl [0, 1, 2] rfl)
  · replace hf := (if_neg hc).symm.trans hf
    refine lv_iload_n hx hb dX9_depot_8 rfl (lv_at hl 2 rfl) ?_
    refine lv_i2l (v := (p1).toInt64) hx hb dX9_depot_9 rfl ?_
    refine lv_lconst (v := (0 : Int64)) hx hb dX9_depot_10 (by decide) ?_
    refine lv_lconst (v := (1 : Int64)) hx hb dX9_depot_11 (by decide) ?_
    obtain ⟨r_4, hq, hf⟩ := ob hf
    try dsimp only at hf
    refine rcS (As := [.long (p1).toInt64, .long (0 : Int64), .long (1 : Int64)]) (rest := []) ⟨hx, hb, hml, hown, hts⟩ (ctX9_in l (p1).toInt64 (0 : Int64) (1 : Int64) r_4 hq) (va_cwS 3 hts gX9_depot_X9_in rfl rfl rfl (by decide +kernel) ⟨Nat.le_of_ble_eq_true rfl, Nat.le_of_ble_eq_true rfl⟩) rfl hl.1 rfl (Nat.le_of_ble_eq_true rfl) dX9_depot_12 ⟨Nat.zero_le _, Nat.zero_le _⟩ ?_
    refine lv_if_eq (tgt := 36) hx hb dX9_depot_15 (by decide) (fun hc => ?_) (fun hc => ?_)
    · replace hf := (if_pos hc).symm.trans hf
      exact hJ36  _ _ _ hf hP hS (lv_sub hl [0, 1, 2] rfl)
    · replace hf := (if_neg hc).symm.trans hf
      refine lv_aload_n hx hb dX9_depot_18 rfl (lv_at hl 0 rfl) ?_
      refine lv_iload_n hx hb dX9_depot_19 rfl (lv_at hl 1 rfl) ?_
      refine lv_iload_n hx hb dX9_depot_20 rfl (lv_at hl 2 rfl) ?_
      refine lv_iconst (v := (1 : Int32)) hx hb dX9_depot_21 (by decide) ?_
      have hJ30 : ∀ (t_5 : Int32) (H : Heap) (locs : List Loc) (ls : Array Slot), fX9_depot_J30 mBad mOpn p0 t_5 = some (rv, zmBad, zmOpn) → va_P D vwCl (wM cI cB cZ bd mVil mBad mFul mLen mSig mWay mLef mSpo mBeg mTok mVal mWor mNum mThe mRts mLns mOpn mTxt mAns mWys mSiz mNbs) H → va_S A s.heap H locs → lv_has ls 3 [(0, .ref (bd 0)), (1, .int p0), (2, .int p1)] → W p l e (rmN 2 46) s m args below meth c H locs 0 0 (MQ below (QI D (wM cI cB cZ bd mVil zmBad mFul mLen mSig mWay mLef mSpo mBeg mTok mVal mWor mNum mThe mRts mLns zmOpn mTxt mAns mWys mSiz mNbs) A rv) args s 0 0 A) (F0 m 30 ls [.int t_5, .int p0, .ref (bd 0)]) := by
        intro t_5 H locs ls hf hP hS hl
        unfold fX9_depot_J30 at hf
        obtain ⟨⟨r_6, qmOpn_7⟩, hq, hf⟩ := ob hf
        try dsimp only at hf
        refine mcVi 0 8 (As := [.int p0, .int t_5]) (rest := []) ⟨hx, hb, hml, hown, hts⟩ (ctX9_becomes l D cI cB cZ bd A hAD mVil mBad mFul mLen mSig mWay mLef mSpo mBeg mTok mVal mWor mNum mThe mRts mLns mOpn mTxt mAns mWys mSiz mNbs p0 t_5 r_6 qmOpn_7 hq) (cwV 2 hts gX9_depot_X9_becomes rfl rfl rfl (by decide +kernel) ⟨Nat.le_of_ble_eq_true rfl, Nat.le_of_ble_eq_true rfl⟩) hK hP hS rfl rfl rfl hl.1 rfl (Nat.le_of_ble_eq_true rfl) dX9_depot_30 ⟨Nat.zero_le _, Nat.zero_le _⟩ (fun H locs hP hS => ?_)
        refine lv_goto (tgt := 40) hx hb dX9_depot_33 (by decide) ?_
        obtain ⟨e0, hz1⟩ := Prod.mk.inj (Option.some.inj hf)
        obtain ⟨e1, hz2⟩ := Prod.mk.inj hz1
        subst e0
        subst e1
        subst hz2
        exact rm_i hx hb hr hlk hP hS dX9_depot_40
      refine lv_icmp_ne (tgt := 29) hx hb dX9_depot_22 (by decide) (fun hc => ?_) (fun hc => ?_)
      · replace hf := (if_neg hc).symm.trans hf
        refine lv_iconst (v := (0 : Int32)) hx hb dX9_depot_29 (by decide) ?_
        exact hJ30 _ _ _ _ hf hP hS (lv_sub hl [0, 1, 2] rfl)
      · replace hf := (if_pos hc).symm.trans hf
        refine lv_iconst (v := (1 : Int32)) hx hb dX9_depot_25 (by decide) ?_
        refine lv_goto (tgt := 30) hx hb dX9_depot_26 (by decide) ?_
        exact hJ30 _ _ _ _ hf hP hS (lv_sub hl [0, 1, 2] rfl)

def fX9_lengthen (mLns : Nat → Int32) (p0 : Int32) (p1 : Int32) : Option (Int32 × (Nat → Int32)) :=
  (if gI p0 60 then (if gI p0 60 then (some ((mLns (p0).toNatClampNeg), (upd mLns (p0).toNatClampNeg p1))) else none) else none)
set_option maxRecDepth 100000 in
set_option maxHeartbeats 4000000 in
theorem ctX9_lengthen (l : Launch) (D : va_G) (cI cB cZ : ClassId) (bd : Nat → Nat) (A : Nat → Prop) (hAD : AD A bd 9) (mVil mBad mFul mLen mSig mWay mLef mSpo mBeg mTok mVal mWor mNum mThe : Int32) (mRts mLns mOpn mTxt mAns mWys mSiz mNbs : Nat → Int32) (p0 : Int32) (p1 : Int32) (rv : Int32) (zmLns : Nat → Int32) (hf : fX9_lengthen mLns p0 p1 = some (rv, zmLns)) : Met l yX9_lengthen wsX9_lengthen (rmN 0 0) (PR D (tyL cI cB cZ) (wM cI cB cZ bd mVil mBad mFul mLen mSig mWay mLef mSpo mBeg mTok mVal mWor mNum mThe mRts mLns mOpn mTxt mAns mWys mSiz mNbs) [.ref (bd 0), .int p0, .int p1]) (QI D (wM cI cB cZ bd mVil mBad mFul mLen mSig mWay mLef mSpo mBeg mTok mVal mWor mNum mThe mRts zmLns mOpn mTxt mAns mWys mSiz mNbs) A rv) 0 0 A := by
  refine mk_met cX9_lengthen 4 (some .int) (by decide) rfl (Nat.le_of_ble_eq_true rfl) ?_
  intro p e s m args below meth c ls hx hb hr hlk hml hown hts hPK hl
  obtain ⟨hP, hK⟩ := hPK
  replace hl : lv_has ls 4 [(0, .ref (bd 0)), (1, .int p0), (2, .int p1)] := hl
  replace hown : s.vm.findClass RX9 = some m.cls := hown
  have hiX9 : ∀ w ∈ wsX90, w ∈ wsX9_lengthen := fun w h => List.mem_cons_of_mem _ (List.mem_append_right _ h)
  have hS : va_S A s.heap s.heap [] := va_S.rf
  unfold fX9_lengthen at hf
  refine lv_aload_n hx hb dX9_lengthen_0 rfl (lv_at hl 0 rfl) ?_
  refine va_get (ci := 8) (v := .ref (bd 2)) (C := RX9) (T := TX9) (N := 22) hx hb hts hiX9 hown hK hP 0 rfl rfl 2 (by decide) (hts _ (List.mem_of_getElem? (i := 1) rfl)) (fun _ h9 => h9) rfl dX9_lengthen_1 ?_
  refine lv_iload_n hx hb dX9_lengthen_4 rfl (lv_at hl 1 rfl) ?_
  obtain ⟨hg, hf⟩ := og hf
  refine va_iald hx hb hK hP 2 0 rfl rfl (gI_in hg) dX9_lengthen_5 ?_
  refine lv_istore_n (lv' := [(3, .int (mLns (p0).toNatClampNeg)), (0, .ref (bd 0)), (1, .int p0), (2, .int p1)]) hx hb dX9_lengthen_6 rfl hl (by decide) rfl (fun ls hl => ?_)
  refine lv_aload_n hx hb dX9_lengthen_7 rfl (lv_at hl 1 rfl) ?_
  refine va_get (ci := 8) (v := .ref (bd 2)) (C := RX9) (T := TX9) (N := 22) hx hb hts hiX9 hown hK hP 0 rfl rfl 2 (by decide) (hts _ (List.mem_of_getElem? (i := 1) rfl)) (fun _ h9 => h9) rfl dX9_lengthen_8 ?_
  refine lv_iload_n hx hb dX9_lengthen_11 rfl (lv_at hl 2 rfl) ?_
  refine lv_iload_n hx hb dX9_lengthen_12 rfl (lv_at hl 3 rfl) ?_
  obtain ⟨hg, hf⟩ := og hf
  refine va_iast hx hb hK hP (wM_D hAD) hS 2 0 rfl rfl (gI_in hg) dX9_lengthen_13 (fun H locs hP _ hS => ?_)
  have hP : va_P D vwCl (wM cI cB cZ bd mVil mBad mFul mLen mSig mWay mLef mSpo mBeg mTok mVal mWor mNum mThe mRts (upd mLns (p0).toNatClampNeg p1) mOpn mTxt mAns mWys mSiz mNbs) H := hP
  refine lv_iload_n hx hb dX9_lengthen_14 rfl (lv_at hl 0 rfl) ?_
  obtain ⟨e0, hz1⟩ := Prod.mk.inj (Option.some.inj hf)
  subst e0
  subst hz1
  exact rm_i hx hb hr hlk hP hS dX9_lengthen_15

def fX9_road_J33 (mBad : Int32) (mLns : Nat → Int32) : Option (Int32 × Int32 × (Nat → Int32)) :=
  ((fX9_refuse mBad).bind fun (r_2, qmBad_3) => (some (r_2, qmBad_3, mLns)))
def fX9_road (mVil : Int32) (mBad : Int32) (mLns : Nat → Int32) (p0 : Int32) (p1 : Int32) : Option (Int32 × Int32 × (Nat → Int32)) :=
  ((fX9_isVillage mVil p0).bind fun r_1 => (if r_1 = 0 then (fX9_road_J33 mBad mLns) else (if p0 ≤ 0 then (fX9_road_J33 mBad mLns) else ((fX9_in (p1).toInt64 (1 : Int64) (99 : Int64)).bind fun r_4 => (if r_4 = 0 then (fX9_road_J33 mBad mLns) else ((fX9_lengthen mLns p0 p1).bind fun (r_5, qmLns_6) => (some (r_5, mBad, qmLns_6))))))))
set_option maxRecDepth 100000 in
set_option maxHeartbeats 4000000 in
theorem ctX9_road (l : Launch) (D : va_G) (cI cB cZ : ClassId) (bd : Nat → Nat) (A : Nat → Prop) (hAD : AD A bd 9) (mVil mBad mFul mLen mSig mWay mLef mSpo mBeg mTok mVal mWor mNum mThe : Int32) (mRts mLns mOpn mTxt mAns mWys mSiz mNbs : Nat → Int32) (p0 : Int32) (p1 : Int32) (rv : Int32) (zmBad : Int32) (zmLns : Nat → Int32) (hf : fX9_road mVil mBad mLns p0 p1 = some (rv, zmBad, zmLns)) : Met l yX9_road wsX9_road (rmN 2 46) (PR D (tyL cI cB cZ) (wM cI cB cZ bd mVil mBad mFul mLen mSig mWay mLef mSpo mBeg mTok mVal mWor mNum mThe mRts mLns mOpn mTxt mAns mWys mSiz mNbs) [.ref (bd 0), .int p0, .int p1]) (QI D (wM cI cB cZ bd mVil zmBad mFul mLen mSig mWay mLef mSpo mBeg mTok mVal mWor mNum mThe mRts zmLns mOpn mTxt mAns mWys mSiz mNbs) A rv) 0 0 A := by
  refine mk_met cX9_road 3 (some .int) (by decide) rfl (Nat.le_of_ble_eq_true rfl) ?_
  intro p e s m args below meth c ls hx hb hr hlk hml hown hts hPK hl
  obtain ⟨hP, hK⟩ := hPK
  replace hl : lv_has ls 3 [(0, .ref (bd 0)), (1, .int p0), (2, .int p1)] := hl
  replace hown : s.vm.findClass RX9 = some m.cls := hown
  have hS : va_S A s.heap s.heap [] := va_S.rf
  unfold fX9_road at hf
  refine lv_aload_n hx hb dX9_road_0 rfl (lv_at hl 0 rfl) ?_
  refine lv_iload_n hx hb dX9_road_1 rfl (lv_at hl 1 rfl) ?_
  obtain ⟨r_1, hq, hf⟩ := ob hf
  try dsimp only at hf
  refine rcV 0 8 (As := [.int p0]) (rest := []) ⟨hx, hb, hml, hown, hts⟩ (ctX9_isVillage l D cI cB cZ bd mVil mBad mFul mLen mSig mWay mLef mSpo mBeg mTok mVal mWor mNum mThe mRts mLns mOpn mTxt mAns mWys mSiz mNbs p0 r_1 hq) (cwV 1 hts gX9_road_X9_isVillage rfl rfl rfl (by decide +kernel) ⟨Nat.le_of_ble_eq_true rfl, Nat.le_of_ble_eq_true rfl⟩) hK hP rfl rfl rfl hl.1 rfl (Nat.le_of_ble_eq_true rfl) dX9_road_2 ⟨Nat.zero_le _, Nat.zero_le _⟩ ?_
  have hJ33 : ∀  (H : Heap) (locs : List Loc) (ls : Array Slot), fX9_road_J33 mBad mLns = some (rv, zmBad, zmLns) → va_P D vwCl (wM cI cB cZ bd mVil mBad mFul mLen mSig mWay mLef mSpo mBeg mTok mVal mWor mNum mThe mRts mLns mOpn mTxt mAns mWys mSiz mNbs) H → va_S A s.heap H locs → lv_has ls 3 [(0, .ref (bd 0)), (1, .int p0), (2, .int p1)] → W p l e (rmN 2 46) s m args below meth c H locs 0 0 (MQ below (QI D (wM cI cB cZ bd mVil zmBad mFul mLen mSig mWay mLef mSpo mBeg mTok mVal mWor mNum mThe mRts zmLns mOpn mTxt mAns mWys mSiz mNbs) A rv) args s 0 0 A) (F0 m 33 ls []) := by
    intro  H locs ls hf hP hS hl
    unfold fX9_road_J33 at hf
    refine lv_aload_n hx hb dX9_road_33 rfl (lv_at hl 0 rfl) ?_
    obtain ⟨⟨r_2, qmBad_3⟩, hq, hf⟩ := ob hf
    try dsimp only at hf
    refine mcVi 0 8 (As := []) (rest := []) ⟨hx, hb, hml, hown, hts⟩ (ctX9_refuse l D cI cB cZ bd A hAD mVil mBad mFul mLen mSig mWay mLef mSpo mBeg mTok mVal mWor mNum mThe mRts mLns mOpn mTxt mAns mWys mSiz mNbs  r_2 qmBad_3 hq) (cwV 0 hts gX9_road_X9_refuse rfl rfl rfl (by decide +kernel) ⟨Nat.le_of_ble_eq_true rfl, Nat.le_of_ble_eq_true rfl⟩) hK hP hS rfl rfl rfl hl.1 rfl (Nat.le_of_ble_eq_true rfl) dX9_road_34 ⟨Nat.zero_le _, Nat.zero_le _⟩ (fun H locs hP hS => ?_)
    obtain ⟨e0, hz1⟩ := Prod.mk.inj (Option.some.inj hf)
    obtain ⟨e1, hz2⟩ := Prod.mk.inj hz1
    subst e0
    subst e1
    subst hz2
    exact rm_i hx hb hr hlk hP hS dX9_road_37
  refine lv_if_eq (tgt := 33) hx hb dX9_road_5 (by decide) (fun hc => ?_) (fun hc => ?_)
  · replace hf := (if_pos hc).symm.trans hf
    exact hJ33  _ _ _ hf hP hS (lv_sub hl [0, 1, 2] rfl)
  · replace hf := (if_neg hc).symm.trans hf
    refine lv_iload_n hx hb dX9_road_8 rfl (lv_at hl 1 rfl) ?_
    refine lv_if_le (tgt := 33) hx hb dX9_road_9 (by decide) (fun hc => ?_) (fun hc => ?_)
    · replace hf := (if_pos hc).symm.trans hf
      exact hJ33  _ _ _ hf hP hS (lv_sub hl [0, 1, 2] rfl)
    · replace hf := (if_neg hc).symm.trans hf
      refine lv_iload_n hx hb dX9_road_12 rfl (lv_at hl 2 rfl) ?_
      refine lv_i2l (v := (p1).toInt64) hx hb dX9_road_13 rfl ?_
      refine lv_lconst (v := (1 : Int64)) hx hb dX9_road_14 (by decide) ?_
      refine lv_ldc2 (v := (99 : Int64)) hx hb hown (hts _ (List.mem_of_getElem? (i := 1) rfl)) dX9_road_15 ?_
      obtain ⟨r_4, hq, hf⟩ := ob hf
      try dsimp only at hf
      refine rcS (As := [.long (p1).toInt64, .long (1 : Int64), .long (99 : Int64)]) (rest := []) ⟨hx, hb, hml, hown, hts⟩ (ctX9_in l (p1).toInt64 (1 : Int64) (99 : Int64) r_4 hq) (va_cwS 3 hts gX9_road_X9_in rfl rfl rfl (by decide +kernel) ⟨Nat.le_of_ble_eq_true rfl, Nat.le_of_ble_eq_true rfl⟩) rfl hl.1 rfl (Nat.le_of_ble_eq_true rfl) dX9_road_18 ⟨Nat.zero_le _, Nat.zero_le _⟩ ?_
      refine lv_if_eq (tgt := 33) hx hb dX9_road_21 (by decide) (fun hc => ?_) (fun hc => ?_)
      · replace hf := (if_pos hc).symm.trans hf
        exact hJ33  _ _ _ hf hP hS (lv_sub hl [0, 1, 2] rfl)
      · replace hf := (if_neg hc).symm.trans hf
        refine lv_aload_n hx hb dX9_road_24 rfl (lv_at hl 0 rfl) ?_
        refine lv_iload_n hx hb dX9_road_25 rfl (lv_at hl 1 rfl) ?_
        refine lv_iload_n hx hb dX9_road_26 rfl (lv_at hl 2 rfl) ?_
        obtain ⟨⟨r_5, qmLns_6⟩, hq, hf⟩ := ob hf
        try dsimp only at hf
        refine mcVi 0 8 (As := [.int p0, .int p1]) (rest := []) ⟨hx, hb, hml, hown, hts⟩ (ctX9_lengthen l D cI cB cZ bd A hAD mVil mBad mFul mLen mSig mWay mLef mSpo mBeg mTok mVal mWor mNum mThe mRts mLns mOpn mTxt mAns mWys mSiz mNbs p0 p1 r_5 qmLns_6 hq) (cwV 2 hts gX9_road_X9_lengthen rfl rfl rfl (by decide +kernel) ⟨Nat.le_of_ble_eq_true rfl, Nat.le_of_ble_eq_true rfl⟩) hK hP hS rfl rfl rfl hl.1 rfl (Nat.le_of_ble_eq_true rfl) dX9_road_27 ⟨Nat.zero_le _, Nat.zero_le _⟩ (fun H locs hP hS => ?_)
        refine lv_goto (tgt := 37) hx hb dX9_road_30 (by decide) ?_
        obtain ⟨e0, hz1⟩ := Prod.mk.inj (Option.some.inj hf)
        obtain ⟨e1, hz2⟩ := Prod.mk.inj hz1
        subst e0
        subst e1
        subst hz2
        exact rm_i hx hb hr hlk hP hS dX9_road_37

def fX9_anew (mVil : Int32) (mOpn : Nat → Int32)  : Option (Int32 × Int32 × (Nat → Int32)) :=
  (if gI (0 : Int32) 60 then (some (mVil, (1 : Int32), (upd mOpn (0 : Int32).toNatClampNeg (vp_nar .boolean (0 : Int32))))) else none)
set_option maxRecDepth 100000 in
set_option maxHeartbeats 4000000 in
theorem ctX9_anew (l : Launch) (D : va_G) (cI cB cZ : ClassId) (bd : Nat → Nat) (A : Nat → Prop) (hAD : AD A bd 9) (mVil mBad mFul mLen mSig mWay mLef mSpo mBeg mTok mVal mWor mNum mThe : Int32) (mRts mLns mOpn mTxt mAns mWys mSiz mNbs : Nat → Int32)  (rv : Int32) (zmVil : Int32) (zmOpn : Nat → Int32) (hf : fX9_anew mVil mOpn = some (rv, zmVil, zmOpn)) : Met l yX9_anew wsX9_anew (rmN 0 0) (PR D (tyL cI cB cZ) (wM cI cB cZ bd mVil mBad mFul mLen mSig mWay mLef mSpo mBeg mTok mVal mWor mNum mThe mRts mLns mOpn mTxt mAns mWys mSiz mNbs) [.ref (bd 0)]) (QI D (wM cI cB cZ bd zmVil mBad mFul mLen mSig mWay mLef mSpo mBeg mTok mVal mWor mNum mThe mRts mLns zmOpn mTxt mAns mWys mSiz mNbs) A rv) 0 0 A := by
  refine mk_met cX9_anew 2 (some .int) (by decide) rfl (Nat.le_of_ble_eq_true rfl) ?_
  intro p e s m args below meth c ls hx hb hr hlk hml hown hts hPK hl
  obtain ⟨hP, hK⟩ := hPK
  replace hl : lv_has ls 2 [(0, .ref (bd 0))] := hl
  replace hown : s.vm.findClass RX9 = some m.cls := hown
  have hiX9 : ∀ w ∈ wsX90, w ∈ wsX9_anew := fun w h => List.mem_cons_of_mem _ (List.mem_append_right _ h)
  have hS : va_S A s.heap s.heap [] := va_S.rf
  unfold fX9_anew at hf
  refine lv_aload_n hx hb dX9_anew_0 rfl (lv_at hl 0 rfl) ?_
  refine va_get (ci := 8) (v := .int mVil) (C := RX9) (T := TX9) (N := 22) hx hb hts hiX9 hown hK hP 0 rfl rfl 0 (by decide) (hts _ (List.mem_of_getElem? (i := 1) rfl)) (fun _ h9 => h9) rfl dX9_anew_1 ?_
  refine lv_istore_n (lv' := [(1, .int mVil), (0, .ref (bd 0))]) hx hb dX9_anew_4 rfl hl (by decide) rfl (fun ls hl => ?_)
  refine lv_aload_n hx hb dX9_anew_5 rfl (lv_at hl 1 rfl) ?_
  refine lv_iconst (v := (1 : Int32)) hx hb dX9_anew_6 (by decide) ?_
  refine va_put (ci := 8) (v := .int (1 : Int32)) (ty := .int) (C := RX9) (T := TX9) (N := 22) hx hb hts hiX9 tyX9 tyX9_ok nmX9 hown hK hP (wM_D hAD) hS 0 rfl rfl 0 (by decide) (hts _ (List.mem_of_getElem? (i := 1) rfl)) (fun _ h9 => h9) rfl (tyX9_ok 0 (by decide)) rfl rfl (Nat.le_of_ble_eq_true rfl) dX9_anew_7 (fun H locs hP _ hS => ?_)
  have hP : va_P D vwCl (wM cI cB cZ bd (1 : Int32) mBad mFul mLen mSig mWay mLef mSpo mBeg mTok mVal mWor mNum mThe mRts mLns mOpn mTxt mAns mWys mSiz mNbs) H := hP
  refine lv_aload_n hx hb dX9_anew_10 rfl (lv_at hl 1 rfl) ?_
  refine va_get (ci := 8) (v := .ref (bd 3)) (C := RX9) (T := TX9) (N := 22) hx hb hts hiX9 hown hK hP 0 rfl rfl 3 (by decide) (hts _ (List.mem_of_getElem? (i := 2) rfl)) (fun _ h9 => h9) rfl dX9_anew_11 ?_
  refine lv_iconst (v := (0 : Int32)) hx hb dX9_anew_14 (by decide) ?_
  refine lv_iconst (v := (0 : Int32)) hx hb dX9_anew_15 (by decide) ?_
  obtain ⟨hg, hf⟩ := og hf
  refine va_zast hx hb hK hP (wM_D hAD) hS 3 2 rfl rfl (gI_in hg) dX9_anew_16 (fun H locs hP _ hS => ?_)
  have hP : va_P D vwCl (wM cI cB cZ bd (1 : Int32) mBad mFul mLen mSig mWay mLef mSpo mBeg mTok mVal mWor mNum mThe mRts mLns (upd mOpn (0 : Int32).toNatClampNeg (vp_nar .boolean (0 : Int32))) mTxt mAns mWys mSiz mNbs) H := hP
  refine lv_iload_n hx hb dX9_anew_17 rfl (lv_at hl 0 rfl) ?_
  obtain ⟨e0, hz1⟩ := Prod.mk.inj (Option.some.inj hf)
  obtain ⟨e1, hz2⟩ := Prod.mk.inj hz1
  subst e0
  subst e1
  subst hz2
  exact rm_i hx hb hr hlk hP hS dX9_anew_18

def fX9_draw_J24 (mVil : Int32) (mBad : Int32) (mRts : Nat → Int32) (mLns : Nat → Int32) (mOpn : Nat → Int32) : Option (Int32 × Int32 × Int32 × (Nat → Int32) × (Nat → Int32) × (Nat → Int32)) :=
  ((fX9_refuse mBad).bind fun (r_2, qmBad_3) => (some (r_2, mVil, qmBad_3, mRts, mLns, mOpn)))
def fX9_draw_J134 (v3_8 : Int64) (v5_9 : Int32) (v6_10 : Int32) (kk : (Int64 × Int32 × Int32 × Int32 × (Nat → Int32) × (Nat → Int32) × (Nat → Int32)) → Option (Int64 × Int32 × Int32 × Int32 × (Nat → Int32) × (Nat → Int32) × (Nat → Int32))) (r_15 : Int32) (qmVil_16 : Int32) (qmRts_17 : Nat → Int32) (qmLns_18 : Nat → Int32) (qmOpn_19 : Nat → Int32) (t_20 : Int32) (t_21 : Int32) : Option (Int64 × Int32 × Int32 × Int32 × (Nat → Int32) × (Nat → Int32) × (Nat → Int32)) :=
  (kk ((((v3_8 * (1103515245 : Int64)) + (12345 : Int64)) - ((v3_8 * (1103515245 : Int64)) + (12345 : Int64)) / (2147483648 : Int64) * (2147483648 : Int64)), (v5_9 + t_21), (v6_10 + (1 : Int32)), qmVil_16, qmRts_17, qmLns_18, (upd qmOpn_19 (r_15).toNatClampNeg (vp_nar .boolean t_20))))
def fX9_draw_J116 (v3_8 : Int64) (v5_9 : Int32) (v6_10 : Int32) (kk : (Int64 × Int32 × Int32 × Int32 × (Nat → Int32) × (Nat → Int32) × (Nat → Int32)) → Option (Int64 × Int32 × Int32 × Int32 × (Nat → Int32) × (Nat → Int32) × (Nat → Int32))) (r_15 : Int32) (qmVil_16 : Int32) (qmRts_17 : Nat → Int32) (qmLns_18 : Nat → Int32) (qmOpn_19 : Nat → Int32) (t_20 : Int32) : Option (Int64 × Int32 × Int32 × Int32 × (Nat → Int32) × (Nat → Int32) × (Nat → Int32)) :=
  (if gI r_15 60 then (if gI r_15 60 then (if ((upd qmOpn_19 (r_15).toNatClampNeg (vp_nar .boolean t_20)) (r_15).toNatClampNeg) = 0 then (fX9_draw_J134 v3_8 v5_9 v6_10 kk r_15 qmVil_16 qmRts_17 qmLns_18 qmOpn_19 t_20 (0 : Int32)) else (fX9_draw_J134 v3_8 v5_9 v6_10 kk r_15 qmVil_16 qmRts_17 qmLns_18 qmOpn_19 t_20 (1 : Int32))) else none) else none)
def fX9_draw_L43 (p1 : Int32) (kk : (Int64 × Int32 × Int32 × Int32 × (Nat → Int32) × (Nat → Int32) × (Nat → Int32)) → Option (Int64 × Int32 × Int32 × Int32 × (Nat → Int32) × (Nat → Int32) × (Nat → Int32))) (ww : Int64 × Int32 × Int32 × Int32 × (Nat → Int32) × (Nat → Int32) × (Nat → Int32)) : Option (Int64 × Int32 × Int32 × Int32 × (Nat → Int32) × (Nat → Int32) × (Nat → Int32)) :=
  match ww with
  | (v3_8, v5_9, v6_10, wmVil_11, wmRts_12, wmLns_13, wmOpn_14) => (if p1 ≤ v6_10 then (some (v3_8, v5_9, v6_10, wmVil_11, wmRts_12, wmLns_13, wmOpn_14)) else (if gN wmVil_11 then ((fX9_come wmVil_11 wmRts_12 wmLns_13 wmOpn_14 ((((((v3_8 * (1103515245 : Int64)) + (12345 : Int64)) - ((v3_8 * (1103515245 : Int64)) + (12345 : Int64)) / (2147483648 : Int64) * (2147483648 : Int64)) / (65536 : Int64))).toInt32 - (((((v3_8 * (1103515245 : Int64)) + (12345 : Int64)) - ((v3_8 * (1103515245 : Int64)) + (12345 : Int64)) / (2147483648 : Int64) * (2147483648 : Int64)) / (65536 : Int64))).toInt32 / wmVil_11 * wmVil_11) (((((((v3_8 * (1103515245 : Int64)) + (12345 : Int64)) - ((v3_8 * (1103515245 : Int64)) + (12345 : Int64)) / (2147483648 : Int64) * (2147483648 : Int64)) / (1024 : Int64))).toInt32 - (((((v3_8 * (1103515245 : Int64)) + (12345 : Int64)) - ((v3_8 * (1103515245 : Int64)) + (12345 : Int64)) / (2147483648 : Int64) * (2147483648 : Int64)) / (1024 : Int64))).toInt32 / (99 : Int32) * (99 : Int32)) + (1 : Int32))).bind fun (r_15, qmVil_16, qmRts_17, qmLns_18, qmOpn_19) => (if (lg_cmp (((((v3_8 * (1103515245 : Int64)) + (12345 : Int64)) - ((v3_8 * (1103515245 : Int64)) + (12345 : Int64)) / (2147483648 : Int64) * (2147483648 : Int64)) / (32768 : Int64)) - ((((v3_8 * (1103515245 : Int64)) + (12345 : Int64)) - ((v3_8 * (1103515245 : Int64)) + (12345 : Int64)) / (2147483648 : Int64) * (2147483648 : Int64)) / (32768 : Int64)) / (4 : Int64) * (4 : Int64)) (0 : Int64)) = 0 then (fX9_draw_J116 v3_8 v5_9 v6_10 kk r_15 qmVil_16 qmRts_17 qmLns_18 qmOpn_19 (1 : Int32)) else (fX9_draw_J116 v3_8 v5_9 v6_10 kk r_15 qmVil_16 qmRts_17 qmLns_18 qmOpn_19 (0 : Int32)))) else none))
def fX9_draw (mVil : Int32) (mBad : Int32) (mRts : Nat → Int32) (mLns : Nat → Int32) (mOpn : Nat → Int32) (p0 : Int32) (p1 : Int32) : Option (Int32 × Int32 × Int32 × (Nat → Int32) × (Nat → Int32) × (Nat → Int32)) :=
  ((fX9_in (p0).toInt64 (0 : Int64) (999999 : Int64)).bind fun r_1 => (if r_1 = 0 then (fX9_draw_J24 mVil mBad mRts mLns mOpn) else ((fX9_in (p1).toInt64 (0 : Int64) (59 : Int64)).bind fun r_4 => (if r_4 = 0 then (fX9_draw_J24 mVil mBad mRts mLns mOpn) else ((fX9_anew mVil mOpn).bind fun (r_5, qmVil_6, qmOpn_7) => ((lp (fX9_draw_L43 p1) FU ((p0).toInt64, (0 : Int32), (0 : Int32), qmVil_6, mRts, mLns, qmOpn_7)).bind fun (ov3_8, ov5_9, ov6_10, owmVil_11, owmRts_12, owmLns_13, owmOpn_14) => (some (ov5_9, owmVil_11, mBad, owmRts_12, owmLns_13, owmOpn_14))))))))
set_option maxRecDepth 100000 in
set_option maxHeartbeats 4000000 in
theorem ctX9_draw (l : Launch) (D : va_G) (cI cB cZ : ClassId) (bd : Nat → Nat) (A : Nat → Prop) (hAD : AD A bd 9) (mVil mBad mFul mLen mSig mWay mLef mSpo mBeg mTok mVal mWor mNum mThe : Int32) (mRts mLns mOpn mTxt mAns mWys mSiz mNbs : Nat → Int32) (p0 : Int32) (p1 : Int32) (rv : Int32) (zmVil : Int32) (zmBad : Int32) (zmRts : Nat → Int32) (zmLns : Nat → Int32) (zmOpn : Nat → Int32) (hf : fX9_draw mVil mBad mRts mLns mOpn p0 p1 = some (rv, zmVil, zmBad, zmRts, zmLns, zmOpn)) : Met l yX9_draw wsX9_draw (rmN 1 25) (PR D (tyL cI cB cZ) (wM cI cB cZ bd mVil mBad mFul mLen mSig mWay mLef mSpo mBeg mTok mVal mWor mNum mThe mRts mLns mOpn mTxt mAns mWys mSiz mNbs) [.ref (bd 0), .int p0, .int p1]) (QI D (wM cI cB cZ bd zmVil zmBad mFul mLen mSig mWay mLef mSpo mBeg mTok mVal mWor mNum mThe zmRts zmLns zmOpn mTxt mAns mWys mSiz mNbs) A rv) 0 0 A := by
  refine mk_met cX9_draw 8 (some .int) (by decide) rfl (Nat.le_of_ble_eq_true rfl) ?_
  intro p e s m args below meth c ls hx hb hr hlk hml hown hts hPK hl
  obtain ⟨hP, hK⟩ := hPK
  replace hl : lv_has ls 8 [(0, .ref (bd 0)), (1, .int p0), (2, .int p1)] := hl
  replace hown : s.vm.findClass RX9 = some m.cls := hown
  have hiX9 : ∀ w ∈ wsX90, w ∈ wsX9_draw := fun w h => List.mem_cons_of_mem _ (List.mem_append_right _ h)
  have hS : va_S A s.heap s.heap [] := va_S.rf
  unfold fX9_draw at hf
  refine lv_iload_n hx hb dX9_draw_0 rfl (lv_at hl 1 rfl) ?_
  refine lv_i2l (v := (p0).toInt64) hx hb dX9_draw_1 rfl ?_
  refine lv_lconst (v := (0 : Int64)) hx hb dX9_draw_2 (by decide) ?_
  refine lv_ldc2 (v := (999999 : Int64)) hx hb hown (hts _ (List.mem_of_getElem? (i := 1) rfl)) dX9_draw_3 ?_
  obtain ⟨r_1, hq, hf⟩ := ob hf
  try dsimp only at hf
  refine rcS (As := [.long (p0).toInt64, .long (0 : Int64), .long (999999 : Int64)]) (rest := []) ⟨hx, hb, hml, hown, hts⟩ (ctX9_in l (p0).toInt64 (0 : Int64) (999999 : Int64) r_1 hq) (va_cwS 3 hts gX9_draw_X9_in rfl rfl rfl (by decide +kernel) ⟨Nat.le_of_ble_eq_true rfl, Nat.le_of_ble_eq_true rfl⟩) rfl hl.1 rfl (Nat.le_of_ble_eq_true rfl) dX9_draw_6 ⟨Nat.zero_le _, Nat.zero_le _⟩ ?_
  have hJ24 : ∀  (H : Heap) (locs : List Loc) (ls : Array Slot), fX9_draw_J24 mVil mBad mRts mLns mOpn = some (rv, zmVil, zmBad, zmRts, zmLns, zmOpn) → va_P D vwCl (wM cI cB cZ bd mVil mBad mFul mLen mSig mWay mLef mSpo mBeg mTok mVal mWor mNum mThe mRts mLns mOpn mTxt mAns mWys mSiz mNbs) H → va_S A s.heap H locs → lv_has ls 8 [(0, .ref (bd 0)), (1, .int p0), (2, .int p1)] → W p l e (rmN 1 25) s m args below meth c H locs 0 0 (MQ below (QI D (wM cI cB cZ bd zmVil zmBad mFul mLen mSig mWay mLef mSpo mBeg mTok mVal mWor mNum mThe zmRts zmLns zmOpn mTxt mAns mWys mSiz mNbs) A rv) args s 0 0 A) (F0 m 24 ls []) := by
    intro  H locs ls hf hP hS hl
    unfold fX9_draw_J24 at hf
    refine lv_aload_n hx hb dX9_draw_24 rfl (lv_at hl 0 rfl) ?_
    obtain ⟨⟨r_2, qmBad_3⟩, hq, hf⟩ := ob hf
    try dsimp only at hf
    refine mcVi 0 8 (As := []) (rest := []) ⟨hx, hb, hml, hown, hts⟩ (ctX9_refuse l D cI cB cZ bd A hAD mVil mBad mFul mLen mSig mWay mLef mSpo mBeg mTok mVal mWor mNum mThe mRts mLns mOpn mTxt mAns mWys mSiz mNbs  r_2 qmBad_3 hq) (cwV 0 hts gX9_draw_X9_refuse rfl rfl rfl (by decide +kernel) ⟨Nat.le_of_ble_eq_true rfl, Nat.le_of_ble_eq_true rfl⟩) hK hP hS rfl rfl rfl hl.1 rfl (Nat.le_of_ble_eq_true rfl) dX9_draw_25 ⟨Nat.zero_le _, Nat.zero_le _⟩ (fun H locs hP hS => ?_)
    obtain ⟨e0, hz1⟩ := Prod.mk.inj (Option.some.inj hf)
    obtain ⟨e1, hz2⟩ := Prod.mk.inj hz1
    obtain ⟨e2, hz3⟩ := Prod.mk.inj hz2
    obtain ⟨e3, hz4⟩ := Prod.mk.inj hz3
    obtain ⟨e4, hz5⟩ := Prod.mk.inj hz4
    subst e0
    subst e1
    subst e2
    subst e3
    subst e4
    subst hz5
    exact rm_i hx hb hr hlk hP hS dX9_draw_28
  refine lv_if_eq (tgt := 24) hx hb dX9_draw_9 (by decide) (fun hc => ?_) (fun hc => ?_)
  · replace hf := (if_pos hc).symm.trans hf
    exact hJ24  _ _ _ hf hP hS (lv_sub hl [0, 1, 2] rfl)
  · replace hf := (if_neg hc).symm.trans hf
    refine lv_iload_n hx hb dX9_draw_12 rfl (lv_at hl 2 rfl) ?_
    refine lv_i2l (v := (p1).toInt64) hx hb dX9_draw_13 rfl ?_
    refine lv_lconst (v := (0 : Int64)) hx hb dX9_draw_14 (by decide) ?_
    refine lv_ldc2 (v := (59 : Int64)) hx hb hown (hts _ (List.mem_of_getElem? (i := 2) rfl)) dX9_draw_15 ?_
    obtain ⟨r_4, hq, hf⟩ := ob hf
    try dsimp only at hf
    refine rcS (As := [.long (p1).toInt64, .long (0 : Int64), .long (59 : Int64)]) (rest := []) ⟨hx, hb, hml, hown, hts⟩ (ctX9_in l (p1).toInt64 (0 : Int64) (59 : Int64) r_4 hq) (va_cwS 3 hts gX9_draw_X9_in rfl rfl rfl (by decide +kernel) ⟨Nat.le_of_ble_eq_true rfl, Nat.le_of_ble_eq_true rfl⟩) rfl hl.1 rfl (Nat.le_of_ble_eq_true rfl) dX9_draw_18 ⟨Nat.zero_le _, Nat.zero_le _⟩ ?_
    refine lv_if_ne (tgt := 29) hx hb dX9_draw_21 (by decide) (fun hc => ?_) (fun hc => ?_)
    · replace hf := (if_neg hc).symm.trans hf
      refine lv_aload_n hx hb dX9_draw_29 rfl (lv_at hl 0 rfl) ?_
      obtain ⟨⟨r_5, qmVil_6, qmOpn_7⟩, hq, hf⟩ := ob hf
      try dsimp only at hf
      refine mcVi 0 8 (As := []) (rest := []) ⟨hx, hb, hml, hown, hts⟩ (ctX9_anew l D cI cB cZ bd A hAD mVil mBad mFul mLen mSig mWay mLef mSpo mBeg mTok mVal mWor mNum mThe mRts mLns mOpn mTxt mAns mWys mSiz mNbs  r_5 qmVil_6 qmOpn_7 hq) (cwV 0 hts gX9_draw_X9_anew rfl rfl rfl (by decide +kernel) ⟨Nat.le_of_ble_eq_true rfl, Nat.le_of_ble_eq_true rfl⟩) hK hP hS rfl rfl rfl hl.1 rfl (Nat.le_of_ble_eq_true rfl) dX9_draw_30 ⟨Nat.zero_le _, Nat.zero_le _⟩ (fun H locs hP hS => ?_)
      refine lv_pop hx hb dX9_draw_33 rfl ?_
      refine lv_iload_n hx hb dX9_draw_34 rfl (lv_at hl 1 rfl) ?_
      refine lv_i2l (v := (p0).toInt64) hx hb dX9_draw_35 rfl ?_
      refine lv_lstore_n (lv' := [(3, .long (p0).toInt64), (0, .ref (bd 0)), (1, .int p0), (2, .int p1)]) hx hb dX9_draw_36 rfl hl (by decide) rfl (fun ls hl => ?_)
      refine lv_iconst (v := (0 : Int32)) hx hb dX9_draw_37 (by decide) ?_
      refine lv_istore (lv' := [(5, .int (0 : Int32)), (3, .long (p0).toInt64), (0, .ref (bd 0)), (1, .int p0), (2, .int p1)]) hx hb dX9_draw_38 hl (by decide) rfl (fun ls hl => ?_)
      refine lv_iconst (v := (0 : Int32)) hx hb dX9_draw_40 (by decide) ?_
      refine lv_istore (lv' := [(6, .int (0 : Int32)), (5, .int (0 : Int32)), (3, .long (p0).toInt64), (0, .ref (bd 0)), (1, .int p0), (2, .int p1)]) hx hb dX9_draw_41 hl (by decide) rfl (fun ls hl => ?_)
      have hL43 : ∀ (n : Nat) (v3_8 : Int64) (v5_9 : Int32) (v6_10 : Int32) (wmVil_11 : Int32) (wmRts_12 : Nat → Int32) (wmLns_13 : Nat → Int32) (wmOpn_14 : Nat → Int32) (ov3_8 : Int64) (ov5_9 : Int32) (ov6_10 : Int32) (owmVil_11 : Int32) (owmRts_12 : Nat → Int32) (owmLns_13 : Nat → Int32) (owmOpn_14 : Nat → Int32) (H : Heap) (locs : List Loc) (ls : Array Slot), lp (fX9_draw_L43 p1) n (v3_8, v5_9, v6_10, wmVil_11, wmRts_12, wmLns_13, wmOpn_14) = some (ov3_8, ov5_9, ov6_10, owmVil_11, owmRts_12, owmLns_13, owmOpn_14) → va_P D vwCl (wM cI cB cZ bd wmVil_11 mBad mFul mLen mSig mWay mLef mSpo mBeg mTok mVal mWor mNum mThe wmRts_12 wmLns_13 wmOpn_14 mTxt mAns mWys mSiz mNbs) H → va_S A s.heap H locs → lv_has ls 8 [(0, .ref (bd 0)), (1, .int p0), (2, .int p1), (3, .long v3_8), (5, .int v5_9), (6, .int v6_10)] → (∀ (H : Heap) (locs : List Loc) (ls : Array Slot), va_P D vwCl (wM cI cB cZ bd owmVil_11 mBad mFul mLen mSig mWay mLef mSpo mBeg mTok mVal mWor mNum mThe owmRts_12 owmLns_13 owmOpn_14 mTxt mAns mWys mSiz mNbs) H → va_S A s.heap H locs → lv_has ls 8 [(0, .ref (bd 0)), (1, .int p0), (2, .int p1), (3, .long ov3_8), (5, .int ov5_9), (6, .int ov6_10)] → W p l e (rmN 1 25) s m args below meth c H locs 0 0 (MQ below (QI D (wM cI cB cZ bd zmVil zmBad mFul mLen mSig mWay mLef mSpo mBeg mTok mVal mWor mNum mThe zmRts zmLns zmOpn mTxt mAns mWys mSiz mNbs) A rv) args s 0 0 A) (F0 m 143 ls [])) → W p l e (rmN 1 25) s m args below meth c H locs 0 0 (MQ below (QI D (wM cI cB cZ bd zmVil zmBad mFul mLen mSig mWay mLef mSpo mBeg mTok mVal mWor mNum mThe zmRts zmLns zmOpn mTxt mAns mWys mSiz mNbs) A rv) args s 0 0 A) (F0 m 43 ls []) := by
        intro n
        induction n with
        | zero => intro v3_8 v5_9 v6_10 wmVil_11 wmRts_12 wmLns_13 wmOpn_14 ov3_8 ov5_9 ov6_10 owmVil_11 owmRts_12 owmLns_13 owmOpn_14 H locs ls hf; exact (lp_0 hf).elim
        | succ n ih =>
          intro v3_8 v5_9 v6_10 wmVil_11 wmRts_12 wmLns_13 wmOpn_14 ov3_8 ov5_9 ov6_10 owmVil_11 owmRts_12 owmLns_13 owmOpn_14 H locs ls hf hP hS hl hE
          replace hf := lp_s hf
          dsimp only [fX9_draw_L43] at hf
          refine lv_iload hx hb dX9_draw_43 (lv_at hl 5 rfl) ?_
          refine lv_iload_n hx hb dX9_draw_45 rfl (lv_at hl 2 rfl) ?_
          refine lv_icmp_ge (tgt := 143) hx hb dX9_draw_46 (by decide) (fun hc => ?_) (fun hc => ?_)
          · replace hf := (if_pos hc).symm.trans hf
            cases hf
            exact hE _ _ _ hP hS (lv_sub hl [0, 1, 2, 3, 4, 5] rfl)
          · replace hf := (if_neg hc).symm.trans hf
            refine lv_lload_n hx hb dX9_draw_49 rfl (lv_at hl 3 rfl) ?_
            refine lv_ldc2 (v := (1103515245 : Int64)) hx hb hown (hts _ (List.mem_of_getElem? (i := 3) rfl)) dX9_draw_50 ?_
            refine lv_lmul hx hb dX9_draw_53 ?_
            refine lv_ldc2 (v := (12345 : Int64)) hx hb hown (hts _ (List.mem_of_getElem? (i := 4) rfl)) dX9_draw_54 ?_
            refine lv_ladd hx hb dX9_draw_57 ?_
            refine lv_ldc2 (v := (2147483648 : Int64)) hx hb hown (hts _ (List.mem_of_getElem? (i := 5) rfl)) dX9_draw_58 ?_
            refine lv_lrem hx hb dX9_draw_61 (by decide) ?_
            refine lv_lstore_n (lv' := [(3, .long (((v3_8 * (1103515245 : Int64)) + (12345 : Int64)) - ((v3_8 * (1103515245 : Int64)) + (12345 : Int64)) / (2147483648 : Int64) * (2147483648 : Int64))), (0, .ref (bd 0)), (1, .int p0), (2, .int p1), (5, .int v5_9), (6, .int v6_10)]) hx hb dX9_draw_62 rfl hl (by decide) rfl (fun ls hl => ?_)
            refine lv_aload_n hx hb dX9_draw_63 rfl (lv_at hl 1 rfl) ?_
            refine lv_lload_n hx hb dX9_draw_64 rfl (lv_at hl 0 rfl) ?_
            refine lv_ldc2 (v := (65536 : Int64)) hx hb hown (hts _ (List.mem_of_getElem? (i := 6) rfl)) dX9_draw_65 ?_
            refine lv_ldiv hx hb dX9_draw_68 (by decide) ?_
            refine lv_l2i (v := (((((v3_8 * (1103515245 : Int64)) + (12345 : Int64)) - ((v3_8 * (1103515245 : Int64)) + (12345 : Int64)) / (2147483648 : Int64) * (2147483648 : Int64)) / (65536 : Int64))).toInt32) hx hb dX9_draw_69 rfl ?_
            refine lv_aload_n hx hb dX9_draw_70 rfl (lv_at hl 1 rfl) ?_
            refine va_get (ci := 8) (v := .int wmVil_11) (C := RX9) (T := TX9) (N := 22) hx hb hts hiX9 hown hK hP 0 rfl rfl 0 (by decide) (hts _ (List.mem_of_getElem? (i := 7) rfl)) (fun _ h9 => h9) rfl dX9_draw_71 ?_
            obtain ⟨hg, hf⟩ := og hf
            refine lv_irem hx hb dX9_draw_74 (gN_ne hg) ?_
            refine lv_lload_n hx hb dX9_draw_75 rfl (lv_at hl 0 rfl) ?_
            refine lv_ldc2 (v := (1024 : Int64)) hx hb hown (hts _ (List.mem_of_getElem? (i := 8) rfl)) dX9_draw_76 ?_
            refine lv_ldiv hx hb dX9_draw_79 (by decide) ?_
            refine lv_l2i (v := (((((v3_8 * (1103515245 : Int64)) + (12345 : Int64)) - ((v3_8 * (1103515245 : Int64)) + (12345 : Int64)) / (2147483648 : Int64) * (2147483648 : Int64)) / (1024 : Int64))).toInt32) hx hb dX9_draw_80 rfl ?_
            refine lv_bipush (v := (99 : Int32)) hx hb dX9_draw_81 (by decide) ?_
            refine lv_irem hx hb dX9_draw_83 (by decide) ?_
            refine lv_iconst (v := (1 : Int32)) hx hb dX9_draw_84 (by decide) ?_
            refine lv_iadd hx hb dX9_draw_85 ?_
            obtain ⟨⟨r_15, qmVil_16, qmRts_17, qmLns_18, qmOpn_19⟩, hq, hf⟩ := ob hf
            try dsimp only at hf
            refine mcVi 0 8 (As := [.int ((((((v3_8 * (1103515245 : Int64)) + (12345 : Int64)) - ((v3_8 * (1103515245 : Int64)) + (12345 : Int64)) / (2147483648 : Int64) * (2147483648 : Int64)) / (65536 : Int64))).toInt32 - (((((v3_8 * (1103515245 : Int64)) + (12345 : Int64)) - ((v3_8 * (1103515245 : Int64)) + (12345 : Int64)) / (2147483648 : Int64) * (2147483648 : Int64)) / (65536 : Int64))).toInt32 / wmVil_11 * wmVil_11), .int (((((((v3_8 * (1103515245 : Int64)) + (12345 : Int64)) - ((v3_8 * (1103515245 : Int64)) + (12345 : Int64)) / (2147483648 : Int64) * (2147483648 : Int64)) / (1024 : Int64))).toInt32 - (((((v3_8 * (1103515245 : Int64)) + (12345 : Int64)) - ((v3_8 * (1103515245 : Int64)) + (12345 : Int64)) / (2147483648 : Int64) * (2147483648 : Int64)) / (1024 : Int64))).toInt32 / (99 : Int32) * (99 : Int32)) + (1 : Int32))]) (rest := []) ⟨hx, hb, hml, hown, hts⟩ (ctX9_come l D cI cB cZ bd A hAD wmVil_11 mBad mFul mLen mSig mWay mLef mSpo mBeg mTok mVal mWor mNum mThe wmRts_12 wmLns_13 wmOpn_14 mTxt mAns mWys mSiz mNbs ((((((v3_8 * (1103515245 : Int64)) + (12345 : Int64)) - ((v3_8 * (1103515245 : Int64)) + (12345 : Int64)) / (2147483648 : Int64) * (2147483648 : Int64)) / (65536 : Int64))).toInt32 - (((((v3_8 * (1103515245 : Int64)) + (12345 : Int64)) - ((v3_8 * (1103515245 : Int64)) + (12345 : Int64)) / (2147483648 : Int64) * (2147483648 : Int64)) / (65536 : Int64))).toInt32 / wmVil_11 * wmVil_11) (((((((v3_8 * (1103515245 : Int64)) + (12345 : Int64)) - ((v3_8 * (1103515245 : Int64)) + (12345 : Int64)) / (2147483648 : Int64) * (2147483648 : Int64)) / (1024 : Int64))).toInt32 - (((((v3_8 * (1103515245 : Int64)) + (12345 : Int64)) - ((v3_8 * (1103515245 : Int64)) + (12345 : Int64)) / (2147483648 : Int64) * (2147483648 : Int64)) / (1024 : Int64))).toInt32 / (99 : Int32) * (99 : Int32)) + (1 : Int32)) r_15 qmVil_16 qmRts_17 qmLns_18 qmOpn_19 hq) (cwV 2 hts gX9_draw_X9_come rfl rfl rfl (by decide +kernel) ⟨Nat.le_of_ble_eq_true rfl, Nat.le_of_ble_eq_true rfl⟩) hK hP hS rfl rfl rfl hl.1 rfl (Nat.le_of_ble_eq_true rfl) dX9_draw_86 ⟨Nat.zero_le _, Nat.zero_le _⟩ (fun H locs hP hS => ?_)
            refine lv_istore (lv' := [(7, .int r_15), (3, .long (((v3_8 * (1103515245 : Int64)) + (12345 : Int64)) - ((v3_8 * (1103515245 : Int64)) + (12345 : Int64)) / (2147483648 : Int64) * (2147483648 : Int64))), (0, .ref (bd 0)), (1, .int p0), (2, .int p1), (5, .int v5_9), (6, .int v6_10)]) hx hb dX9_draw_89 hl (by decide) rfl (fun ls hl => ?_)
            refine lv_aload_n hx hb dX9_draw_91 rfl (lv_at hl 2 rfl) ?_
            refine va_get (ci := 8) (v := .ref (bd 3)) (C := RX9) (T := TX9) (N := 22) hx hb hts hiX9 hown hK hP 0 rfl rfl 3 (by decide) (hts _ (List.mem_of_getElem? (i := 9) rfl)) (fun _ h9 => h9) rfl dX9_draw_92 ?_
            refine lv_iload hx hb dX9_draw_95 (lv_at hl 0 rfl) ?_
            refine lv_lload_n hx hb dX9_draw_97 rfl (lv_at hl 1 rfl) ?_
            refine lv_ldc2 (v := (32768 : Int64)) hx hb hown (hts _ (List.mem_of_getElem? (i := 10) rfl)) dX9_draw_98 ?_
            refine lv_ldiv hx hb dX9_draw_101 (by decide) ?_
            refine lv_ldc2 (v := (4 : Int64)) hx hb hown (hts _ (List.mem_of_getElem? (i := 11) rfl)) dX9_draw_102 ?_
            refine lv_lrem hx hb dX9_draw_105 (by decide) ?_
            refine lv_lconst (v := (0 : Int64)) hx hb dX9_draw_106 (by decide) ?_
            refine W.lcmp hx hb dX9_draw_107 ?_
            have hJ116 : ∀ (t_20 : Int32) (H : Heap) (locs : List Loc) (ls : Array Slot), fX9_draw_J116 v3_8 v5_9 v6_10 (lp (fX9_draw_L43 p1) n) r_15 qmVil_16 qmRts_17 qmLns_18 qmOpn_19 t_20 = some (ov3_8, ov5_9, ov6_10, owmVil_11, owmRts_12, owmLns_13, owmOpn_14) → va_P D vwCl (wM cI cB cZ bd qmVil_16 mBad mFul mLen mSig mWay mLef mSpo mBeg mTok mVal mWor mNum mThe qmRts_17 qmLns_18 qmOpn_19 mTxt mAns mWys mSiz mNbs) H → va_S A s.heap H locs → lv_has ls 8 [(0, .ref (bd 0)), (1, .int p0), (2, .int p1), (3, .long (((v3_8 * (1103515245 : Int64)) + (12345 : Int64)) - ((v3_8 * (1103515245 : Int64)) + (12345 : Int64)) / (2147483648 : Int64) * (2147483648 : Int64))), (5, .int v5_9), (6, .int v6_10), (7, .int r_15)] → W p l e (rmN 1 25) s m args below meth c H locs 0 0 (MQ below (QI D (wM cI cB cZ bd zmVil zmBad mFul mLen mSig mWay mLef mSpo mBeg mTok mVal mWor mNum mThe zmRts zmLns zmOpn mTxt mAns mWys mSiz mNbs) A rv) args s 0 0 A) (F0 m 116 ls [.int t_20, .int r_15, .ref (bd 3)]) := by
              intro t_20 H locs ls hf hP hS hl
              unfold fX9_draw_J116 at hf
              obtain ⟨hg, hf⟩ := og hf
              refine va_zast hx hb hK hP (wM_D hAD) hS 3 2 rfl rfl (gI_in hg) dX9_draw_116 (fun H locs hP _ hS => ?_)
              have hP : va_P D vwCl (wM cI cB cZ bd qmVil_16 mBad mFul mLen mSig mWay mLef mSpo mBeg mTok mVal mWor mNum mThe qmRts_17 qmLns_18 (upd qmOpn_19 (r_15).toNatClampNeg (vp_nar .boolean t_20)) mTxt mAns mWys mSiz mNbs) H := hP
              refine lv_iload hx hb dX9_draw_117 (lv_at hl 4 rfl) ?_
              refine lv_aload_n hx hb dX9_draw_119 rfl (lv_at hl 0 rfl) ?_
              refine va_get (ci := 8) (v := .ref (bd 3)) (C := RX9) (T := TX9) (N := 22) hx hb hts hiX9 hown hK hP 0 rfl rfl 3 (by decide) (hts _ (List.mem_of_getElem? (i := 9) rfl)) (fun _ h9 => h9) rfl dX9_draw_120 ?_
              refine lv_iload hx hb dX9_draw_123 (lv_at hl 6 rfl) ?_
              obtain ⟨hg, hf⟩ := og hf
              refine va_zald hx hb hK hP 3 2 rfl rfl (gI_in hg) dX9_draw_125 ?_
              have hJ134 : ∀ (t_21 : Int32) (H : Heap) (locs : List Loc) (ls : Array Slot), fX9_draw_J134 v3_8 v5_9 v6_10 (lp (fX9_draw_L43 p1) n) r_15 qmVil_16 qmRts_17 qmLns_18 qmOpn_19 t_20 t_21 = some (ov3_8, ov5_9, ov6_10, owmVil_11, owmRts_12, owmLns_13, owmOpn_14) → va_P D vwCl (wM cI cB cZ bd qmVil_16 mBad mFul mLen mSig mWay mLef mSpo mBeg mTok mVal mWor mNum mThe qmRts_17 qmLns_18 (upd qmOpn_19 (r_15).toNatClampNeg (vp_nar .boolean t_20)) mTxt mAns mWys mSiz mNbs) H → va_S A s.heap H locs → lv_has ls 8 [(0, .ref (bd 0)), (1, .int p0), (2, .int p1), (3, .long (((v3_8 * (1103515245 : Int64)) + (12345 : Int64)) - ((v3_8 * (1103515245 : Int64)) + (12345 : Int64)) / (2147483648 : Int64) * (2147483648 : Int64))), (5, .int v5_9), (6, .int v6_10), (7, .int r_15)] → W p l e (rmN 1 25) s m args below meth c H locs 0 0 (MQ below (QI D (wM cI cB cZ bd zmVil zmBad mFul mLen mSig mWay mLef mSpo mBeg mTok mVal mWor mNum mThe zmRts zmLns zmOpn mTxt mAns mWys mSiz mNbs) A rv) args s 0 0 A) (F0 m 134 ls [.int t_21, .int v5_9]) := by
                intro t_21 H locs ls hf hP hS hl
                unfold fX9_draw_J134 at hf
                refine lv_iadd hx hb dX9_draw_134 ?_
                refine lv_istore (lv' := [(5, .int (v5_9 + t_21)), (0, .ref (bd 0)), (1, .int p0), (2, .int p1), (3, .long (((v3_8 * (1103515245 : Int64)) + (12345 : Int64)) - ((v3_8 * (1103515245 : Int64)) + (12345 : Int64)) / (2147483648 : Int64) * (2147483648 : Int64))), (6, .int v6_10), (7, .int r_15)]) hx hb dX9_draw_135 hl (by decide) rfl (fun ls hl => ?_)
                refine lv_iinc (v := (v6_10 + (1 : Int32))) (lv' := [(6, .int (v6_10 + (1 : Int32))), (5, .int (v5_9 + t_21)), (0, .ref (bd 0)), (1, .int p0), (2, .int p1), (3, .long (((v3_8 * (1103515245 : Int64)) + (12345 : Int64)) - ((v3_8 * (1103515245 : Int64)) + (12345 : Int64)) / (2147483648 : Int64) * (2147483648 : Int64))), (7, .int r_15)]) hx hb dX9_draw_137 hl (k := 5) rfl rfl (by decide) rfl (fun ls hl => ?_)
                refine lv_goto (tgt := 43) hx hb dX9_draw_140 (by decide) ?_
                exact ih _ _ _ _ _ _ _ _ _ _ _ _ _ _ _ _ _ hf hP hS (lv_sub hl [2, 3, 4, 5, 1, 0] rfl) hE
              refine lv_if_eq (tgt := 133) hx hb dX9_draw_126 (by decide) (fun hc => ?_) (fun hc => ?_)
              · replace hf := (if_pos hc).symm.trans hf
                refine lv_iconst (v := (0 : Int32)) hx hb dX9_draw_133 (by decide) ?_
                exact hJ134 _ _ _ _ hf hP hS (lv_sub hl [0, 1, 2, 3, 4, 5, 6] rfl)
              · replace hf := (if_neg hc).symm.trans hf
                refine lv_iconst (v := (1 : Int32)) hx hb dX9_draw_129 (by decide) ?_
                refine lv_goto (tgt := 134) hx hb dX9_draw_130 (by decide) ?_
                exact hJ134 _ _ _ _ hf hP hS (lv_sub hl [0, 1, 2, 3, 4, 5, 6] rfl)
            refine lv_if_ne (tgt := 115) hx hb dX9_draw_108 (by decide) (fun hc => ?_) (fun hc => ?_)
            · replace hf := (if_neg hc).symm.trans hf
              refine lv_iconst (v := (0 : Int32)) hx hb dX9_draw_115 (by decide) ?_
              exact hJ116 _ _ _ _ hf hP hS (lv_sub hl [2, 3, 4, 1, 5, 6, 0] rfl)
            · replace hf := (if_pos hc).symm.trans hf
              refine lv_iconst (v := (1 : Int32)) hx hb dX9_draw_111 (by decide) ?_
              refine lv_goto (tgt := 116) hx hb dX9_draw_112 (by decide) ?_
              exact hJ116 _ _ _ _ hf hP hS (lv_sub hl [2, 3, 4, 1, 5, 6, 0] rfl)
      obtain ⟨⟨ov3_8, ov5_9, ov6_10, owmVil_11, owmRts_12, owmLns_13, owmOpn_14⟩, hq, hf⟩ := ob hf
      try dsimp only at hf
      refine hL43 FU _ _ _ _ _ _ _ ov3_8 ov5_9 ov6_10 owmVil_11 owmRts_12 owmLns_13 owmOpn_14 _ _ ls hq hP hS (lv_sub hl [3, 4, 5, 2, 1, 0] rfl) (fun H locs ls hP hS hl => ?_)
      refine lv_iload hx hb dX9_draw_143 (lv_at hl 4 rfl) ?_
      obtain ⟨e0, hz1⟩ := Prod.mk.inj (Option.some.inj hf)
      obtain ⟨e1, hz2⟩ := Prod.mk.inj hz1
      obtain ⟨e2, hz3⟩ := Prod.mk.inj hz2
      obtain ⟨e3, hz4⟩ := Prod.mk.inj hz3
      obtain ⟨e4, hz5⟩ := Prod.mk.inj hz4
      subst e0
      subst e1
      subst e2
      subst e3
      subst e4
      subst hz5
      exact rm_i hx hb hr hlk hP hS dX9_draw_145
    · replace hf := (if_pos hc).symm.trans hf
      exact hJ24  _ _ _ hf hP hS (lv_sub hl [0, 1, 2] rfl)

def fX9_partOf (mRts : Nat → Int32) (mLns : Nat → Int32) (mOpn : Nat → Int32) (p0 : Int32) (p1 : Int32) : Option (Int32) :=
  (if p1 = 0 then (if gI p0 60 then (some (mRts (p0).toNatClampNeg)) else none) else (if p1 = (1 : Int32) then (if p0 = 0 then (some (0 : Int32)) else (if gI p0 60 then (some (mLns (p0).toNatClampNeg)) else none)) else (if gI p0 60 then (if (mOpn (p0).toNatClampNeg) = 0 then (some (0 : Int32)) else (some (1 : Int32))) else none)))
set_option maxRecDepth 100000 in
set_option maxHeartbeats 4000000 in
theorem ctX9_partOf (l : Launch) (D : va_G) (cI cB cZ : ClassId) (bd : Nat → Nat) (mVil mBad mFul mLen mSig mWay mLef mSpo mBeg mTok mVal mWor mNum mThe : Int32) (mRts mLns mOpn mTxt mAns mWys mSiz mNbs : Nat → Int32) (p0 : Int32) (p1 : Int32) (rv : Int32) (hf : fX9_partOf mRts mLns mOpn p0 p1 = some rv) : Met l yX9_partOf wsX9_partOf (rmN 0 0) (PR D (tyL cI cB cZ) (wM cI cB cZ bd mVil mBad mFul mLen mSig mWay mLef mSpo mBeg mTok mVal mWor mNum mThe mRts mLns mOpn mTxt mAns mWys mSiz mNbs) [.ref (bd 0), .int p0, .int p1]) (SI rv) 0 0 (fun _ => False) := by
  refine mk_met cX9_partOf 3 (some .int) (by decide) rfl (Nat.le_of_ble_eq_true rfl) ?_
  intro p e s m args below meth c ls hx hb hr hlk hml hown hts hPK hl
  obtain ⟨hP, hK⟩ := hPK
  replace hl : lv_has ls 3 [(0, .ref (bd 0)), (1, .int p0), (2, .int p1)] := hl
  replace hown : s.vm.findClass RX9 = some m.cls := hown
  have hiX9 : ∀ w ∈ wsX90, w ∈ wsX9_partOf := fun w h => List.mem_cons_of_mem _ (List.mem_append_right _ h)
  unfold fX9_partOf at hf
  refine lv_iload_n hx hb dX9_partOf_0 rfl (lv_at hl 2 rfl) ?_
  refine lv_if_ne (tgt := 13) hx hb dX9_partOf_1 (by decide) (fun hc => ?_) (fun hc => ?_)
  · replace hf := (if_neg hc).symm.trans hf
    refine lv_iload_n hx hb dX9_partOf_13 rfl (lv_at hl 2 rfl) ?_
    refine lv_iconst (v := (1 : Int32)) hx hb dX9_partOf_14 (by decide) ?_
    refine lv_icmp_ne (tgt := 35) hx hb dX9_partOf_15 (by decide) (fun hc => ?_) (fun hc => ?_)
    · replace hf := (if_neg hc).symm.trans hf
      refine lv_aload_n hx hb dX9_partOf_35 rfl (lv_at hl 0 rfl) ?_
      refine va_get (ci := 8) (v := .ref (bd 3)) (C := RX9) (T := TX9) (N := 22) hx hb hts hiX9 hown hK hP 0 rfl rfl 3 (by decide) (hts _ (List.mem_of_getElem? (i := 3) rfl)) (fun _ h9 => h9) rfl dX9_partOf_36 ?_
      refine lv_iload_n hx hb dX9_partOf_39 rfl (lv_at hl 1 rfl) ?_
      obtain ⟨hg, hf⟩ := og hf
      refine va_zald hx hb hK hP 3 2 rfl rfl (gI_in hg) dX9_partOf_40 ?_
      refine lv_if_eq (tgt := 48) hx hb dX9_partOf_41 (by decide) (fun hc => ?_) (fun hc => ?_)
      · replace hf := (if_pos hc).symm.trans hf
        refine lv_iconst (v := (0 : Int32)) hx hb dX9_partOf_48 (by decide) ?_
        exact re_i hx hb hr hlk dX9_partOf_49 hf
      · replace hf := (if_neg hc).symm.trans hf
        refine lv_iconst (v := (1 : Int32)) hx hb dX9_partOf_44 (by decide) ?_
        refine lv_goto (tgt := 49) hx hb dX9_partOf_45 (by decide) ?_
        exact re_i hx hb hr hlk dX9_partOf_49 hf
    · replace hf := (if_pos hc).symm.trans hf
      refine lv_iload_n hx hb dX9_partOf_18 rfl (lv_at hl 1 rfl) ?_
      refine lv_if_ne (tgt := 26) hx hb dX9_partOf_19 (by decide) (fun hc => ?_) (fun hc => ?_)
      · replace hf := (if_neg hc).symm.trans hf
        refine lv_aload_n hx hb dX9_partOf_26 rfl (lv_at hl 0 rfl) ?_
        refine va_get (ci := 8) (v := .ref (bd 2)) (C := RX9) (T := TX9) (N := 22) hx hb hts hiX9 hown hK hP 0 rfl rfl 2 (by decide) (hts _ (List.mem_of_getElem? (i := 2) rfl)) (fun _ h9 => h9) rfl dX9_partOf_27 ?_
        refine lv_iload_n hx hb dX9_partOf_30 rfl (lv_at hl 1 rfl) ?_
        obtain ⟨hg, hf⟩ := og hf
        refine va_iald hx hb hK hP 2 0 rfl rfl (gI_in hg) dX9_partOf_31 ?_
        refine lv_goto (tgt := 49) hx hb dX9_partOf_32 (by decide) ?_
        exact re_i hx hb hr hlk dX9_partOf_49 hf
      · replace hf := (if_pos hc).symm.trans hf
        refine lv_iconst (v := (0 : Int32)) hx hb dX9_partOf_22 (by decide) ?_
        refine lv_goto (tgt := 49) hx hb dX9_partOf_23 (by decide) ?_
        exact re_i hx hb hr hlk dX9_partOf_49 hf
  · replace hf := (if_pos hc).symm.trans hf
    refine lv_aload_n hx hb dX9_partOf_4 rfl (lv_at hl 0 rfl) ?_
    refine va_get (ci := 8) (v := .ref (bd 1)) (C := RX9) (T := TX9) (N := 22) hx hb hts hiX9 hown hK hP 0 rfl rfl 1 (by decide) (hts _ (List.mem_of_getElem? (i := 1) rfl)) (fun _ h9 => h9) rfl dX9_partOf_5 ?_
    refine lv_iload_n hx hb dX9_partOf_8 rfl (lv_at hl 1 rfl) ?_
    obtain ⟨hg, hf⟩ := og hf
    refine va_iald hx hb hK hP 1 0 rfl rfl (gI_in hg) dX9_partOf_9 ?_
    refine lv_goto (tgt := 49) hx hb dX9_partOf_10 (by decide) ?_
    exact re_i hx hb hr hlk dX9_partOf_49 hf

def fX9_of_J20 (mBad : Int32) : Option (Int32 × Int32) :=
  ((fX9_refuse mBad).bind fun (r_2, qmBad_3) => (some (r_2, qmBad_3)))
def fX9_of_J69 (v3_7 : Int32) (v4_8 : Int32) (kk : (Int32 × Int32) → Option (Int32 × Int32)) (t_9 : Int32) : Option (Int32 × Int32) :=
  (kk ((v3_7 + t_9), (v4_8 + (1 : Int32))))
def fX9_of_L43 (mVil : Int32) (mRts : Nat → Int32) (p0 : Int32) (kk : (Int32 × Int32) → Option (Int32 × Int32)) (ww : Int32 × Int32) : Option (Int32 × Int32) :=
  match ww with
  | (v3_7, v4_8) => (if mVil ≤ v4_8 then (some (v3_7, v4_8)) else (if gI v4_8 60 then (if (mRts (v4_8).toNatClampNeg) = p0 then (fX9_of_J69 v3_7 v4_8 kk (1 : Int32)) else (fX9_of_J69 v3_7 v4_8 kk (0 : Int32))) else none))
def fX9_of_J39 (mVil : Int32) (mBad : Int32) (mRts : Nat → Int32) (p0 : Int32) (t_6 : Int32) : Option (Int32 × Int32) :=
  ((lp (fX9_of_L43 mVil mRts p0) FU (t_6, (1 : Int32))).bind fun (ov3_7, ov4_8) => (some (ov3_7, mBad)))
def fX9_of (mVil : Int32) (mBad : Int32) (mRts : Nat → Int32) (mLns : Nat → Int32) (mOpn : Nat → Int32) (p0 : Int32) (p1 : Int32) : Option (Int32 × Int32) :=
  ((fX9_isVillage mVil p0).bind fun r_1 => (if r_1 = 0 then (fX9_of_J20 mBad) else ((fX9_in (p1).toInt64 (0 : Int64) (3 : Int64)).bind fun r_4 => (if r_4 = 0 then (fX9_of_J20 mBad) else (if p1 = (3 : Int32) then (if p0 ≤ 0 then (fX9_of_J39 mVil mBad mRts p0 (0 : Int32)) else (fX9_of_J39 mVil mBad mRts p0 (1 : Int32))) else ((fX9_partOf mRts mLns mOpn p0 p1).bind fun r_5 => (some (r_5, mBad))))))))
set_option maxRecDepth 100000 in
set_option maxHeartbeats 4000000 in
theorem ctX9_of (l : Launch) (D : va_G) (cI cB cZ : ClassId) (bd : Nat → Nat) (A : Nat → Prop) (hAD : AD A bd 9) (mVil mBad mFul mLen mSig mWay mLef mSpo mBeg mTok mVal mWor mNum mThe : Int32) (mRts mLns mOpn mTxt mAns mWys mSiz mNbs : Nat → Int32) (p0 : Int32) (p1 : Int32) (rv : Int32) (zmBad : Int32) (hf : fX9_of mVil mBad mRts mLns mOpn p0 p1 = some (rv, zmBad)) : Met l yX9_of wsX9_of (rmN 2 46) (PR D (tyL cI cB cZ) (wM cI cB cZ bd mVil mBad mFul mLen mSig mWay mLef mSpo mBeg mTok mVal mWor mNum mThe mRts mLns mOpn mTxt mAns mWys mSiz mNbs) [.ref (bd 0), .int p0, .int p1]) (QI D (wM cI cB cZ bd mVil zmBad mFul mLen mSig mWay mLef mSpo mBeg mTok mVal mWor mNum mThe mRts mLns mOpn mTxt mAns mWys mSiz mNbs) A rv) 0 0 A := by
  refine mk_met cX9_of 5 (some .int) (by decide) rfl (Nat.le_of_ble_eq_true rfl) ?_
  intro p e s m args below meth c ls hx hb hr hlk hml hown hts hPK hl
  obtain ⟨hP, hK⟩ := hPK
  replace hl : lv_has ls 5 [(0, .ref (bd 0)), (1, .int p0), (2, .int p1)] := hl
  replace hown : s.vm.findClass RX9 = some m.cls := hown
  have hiX9 : ∀ w ∈ wsX90, w ∈ wsX9_of := fun w h => List.mem_cons_of_mem _ (List.mem_append_right _ h)
  have hS : va_S A s.heap s.heap [] := va_S.rf
  unfold fX9_of at hf
  refine lv_aload_n hx hb dX9_of_0 rfl (lv_at hl 0 rfl) ?_
  refine lv_iload_n hx hb dX9_of_1 rfl (lv_at hl 1 rfl) ?_
  obtain ⟨r_1, hq, hf⟩ := ob hf
  try dsimp only at hf
  refine rcV 0 8 (As := [.int p0]) (rest := []) ⟨hx, hb, hml, hown, hts⟩ (ctX9_isVillage l D cI cB cZ bd mVil mBad mFul mLen mSig mWay mLef mSpo mBeg mTok mVal mWor mNum mThe mRts mLns mOpn mTxt mAns mWys mSiz mNbs p0 r_1 hq) (cwV 1 hts gX9_of_X9_isVillage rfl rfl rfl (by decide +kernel) ⟨Nat.le_of_ble_eq_true rfl, Nat.le_of_ble_eq_true rfl⟩) hK hP rfl rfl rfl hl.1 rfl (Nat.le_of_ble_eq_true rfl) dX9_of_2 ⟨Nat.zero_le _, Nat.zero_le _⟩ ?_
  have hJ20 : ∀  (H : Heap) (locs : List Loc) (ls : Array Slot), fX9_of_J20 mBad = some (rv, zmBad) → va_P D vwCl (wM cI cB cZ bd mVil mBad mFul mLen mSig mWay mLef mSpo mBeg mTok mVal mWor mNum mThe mRts mLns mOpn mTxt mAns mWys mSiz mNbs) H → va_S A s.heap H locs → lv_has ls 5 [(0, .ref (bd 0)), (1, .int p0), (2, .int p1)] → W p l e (rmN 2 46) s m args below meth c H locs 0 0 (MQ below (QI D (wM cI cB cZ bd mVil zmBad mFul mLen mSig mWay mLef mSpo mBeg mTok mVal mWor mNum mThe mRts mLns mOpn mTxt mAns mWys mSiz mNbs) A rv) args s 0 0 A) (F0 m 20 ls []) := by
    intro  H locs ls hf hP hS hl
    unfold fX9_of_J20 at hf
    refine lv_aload_n hx hb dX9_of_20 rfl (lv_at hl 0 rfl) ?_
    obtain ⟨⟨r_2, qmBad_3⟩, hq, hf⟩ := ob hf
    try dsimp only at hf
    refine mcVi 0 8 (As := []) (rest := []) ⟨hx, hb, hml, hown, hts⟩ (ctX9_refuse l D cI cB cZ bd A hAD mVil mBad mFul mLen mSig mWay mLef mSpo mBeg mTok mVal mWor mNum mThe mRts mLns mOpn mTxt mAns mWys mSiz mNbs  r_2 qmBad_3 hq) (cwV 0 hts gX9_of_X9_refuse rfl rfl rfl (by decide +kernel) ⟨Nat.le_of_ble_eq_true rfl, Nat.le_of_ble_eq_true rfl⟩) hK hP hS rfl rfl rfl hl.1 rfl (Nat.le_of_ble_eq_true rfl) dX9_of_21 ⟨Nat.zero_le _, Nat.zero_le _⟩ (fun H locs hP hS => ?_)
    obtain ⟨e0, hz1⟩ := Prod.mk.inj (Option.some.inj hf)
    subst e0
    subst hz1
    exact rm_i hx hb hr hlk hP hS dX9_of_24
  refine lv_if_eq (tgt := 20) hx hb dX9_of_5 (by decide) (fun hc => ?_) (fun hc => ?_)
  · replace hf := (if_pos hc).symm.trans hf
    exact hJ20  _ _ _ hf hP hS (lv_sub hl [0, 1, 2] rfl)
  · replace hf := (if_neg hc).symm.trans hf
    refine lv_iload_n hx hb dX9_of_8 rfl (lv_at hl 2 rfl) ?_
    refine lv_i2l (v := (p1).toInt64) hx hb dX9_of_9 rfl ?_
    refine lv_lconst (v := (0 : Int64)) hx hb dX9_of_10 (by decide) ?_
    refine lv_ldc2 (v := (3 : Int64)) hx hb hown (hts _ (List.mem_of_getElem? (i := 1) rfl)) dX9_of_11 ?_
    obtain ⟨r_4, hq, hf⟩ := ob hf
    try dsimp only at hf
    refine rcS (As := [.long (p1).toInt64, .long (0 : Int64), .long (3 : Int64)]) (rest := []) ⟨hx, hb, hml, hown, hts⟩ (ctX9_in l (p1).toInt64 (0 : Int64) (3 : Int64) r_4 hq) (va_cwS 3 hts gX9_of_X9_in rfl rfl rfl (by decide +kernel) ⟨Nat.le_of_ble_eq_true rfl, Nat.le_of_ble_eq_true rfl⟩) rfl hl.1 rfl (Nat.le_of_ble_eq_true rfl) dX9_of_14 ⟨Nat.zero_le _, Nat.zero_le _⟩ ?_
    refine lv_if_ne (tgt := 25) hx hb dX9_of_17 (by decide) (fun hc => ?_) (fun hc => ?_)
    · replace hf := (if_neg hc).symm.trans hf
      refine lv_iload_n hx hb dX9_of_25 rfl (lv_at hl 2 rfl) ?_
      refine lv_iconst (v := (3 : Int32)) hx hb dX9_of_26 (by decide) ?_
      refine lv_icmp_ne (tgt := 79) hx hb dX9_of_27 (by decide) (fun hc => ?_) (fun hc => ?_)
      · replace hf := (if_neg hc).symm.trans hf
        refine lv_aload_n hx hb dX9_of_79 rfl (lv_at hl 0 rfl) ?_
        refine lv_iload_n hx hb dX9_of_80 rfl (lv_at hl 1 rfl) ?_
        refine lv_iload_n hx hb dX9_of_81 rfl (lv_at hl 2 rfl) ?_
        obtain ⟨r_5, hq, hf⟩ := ob hf
        try dsimp only at hf
        refine rcV 0 8 (As := [.int p0, .int p1]) (rest := []) ⟨hx, hb, hml, hown, hts⟩ (ctX9_partOf l D cI cB cZ bd mVil mBad mFul mLen mSig mWay mLef mSpo mBeg mTok mVal mWor mNum mThe mRts mLns mOpn mTxt mAns mWys mSiz mNbs p0 p1 r_5 hq) (cwV 2 hts gX9_of_X9_partOf rfl rfl rfl (by decide +kernel) ⟨Nat.le_of_ble_eq_true rfl, Nat.le_of_ble_eq_true rfl⟩) hK hP rfl rfl rfl hl.1 rfl (Nat.le_of_ble_eq_true rfl) dX9_of_82 ⟨Nat.zero_le _, Nat.zero_le _⟩ ?_
        obtain ⟨e0, hz1⟩ := Prod.mk.inj (Option.some.inj hf)
        subst e0
        subst hz1
        exact rm_i hx hb hr hlk hP hS dX9_of_85
      · replace hf := (if_pos hc).symm.trans hf
        refine lv_iload_n hx hb dX9_of_30 rfl (lv_at hl 1 rfl) ?_
        have hJ39 : ∀ (t_6 : Int32) (H : Heap) (locs : List Loc) (ls : Array Slot), fX9_of_J39 mVil mBad mRts p0 t_6 = some (rv, zmBad) → va_P D vwCl (wM cI cB cZ bd mVil mBad mFul mLen mSig mWay mLef mSpo mBeg mTok mVal mWor mNum mThe mRts mLns mOpn mTxt mAns mWys mSiz mNbs) H → va_S A s.heap H locs → lv_has ls 5 [(0, .ref (bd 0)), (1, .int p0), (2, .int p1)] → W p l e (rmN 2 46) s m args below meth c H locs 0 0 (MQ below (QI D (wM cI cB cZ bd mVil zmBad mFul mLen mSig mWay mLef mSpo mBeg mTok mVal mWor mNum mThe mRts mLns mOpn mTxt mAns mWys mSiz mNbs) A rv) args s 0 0 A) (F0 m 39 ls [.int t_6]) := by
          intro t_6 H locs ls hf hP hS hl
          unfold fX9_of_J39 at hf
          refine lv_istore_n (lv' := [(3, .int t_6), (0, .ref (bd 0)), (1, .int p0), (2, .int p1)]) hx hb dX9_of_39 rfl hl (by decide) rfl (fun ls hl => ?_)
          refine lv_iconst (v := (1 : Int32)) hx hb dX9_of_40 (by decide) ?_
          refine lv_istore (lv' := [(4, .int (1 : Int32)), (3, .int t_6), (0, .ref (bd 0)), (1, .int p0), (2, .int p1)]) hx hb dX9_of_41 hl (by decide) rfl (fun ls hl => ?_)
          have hL43 : ∀ (n : Nat) (v3_7 : Int32) (v4_8 : Int32) (ov3_7 : Int32) (ov4_8 : Int32) (H : Heap) (locs : List Loc) (ls : Array Slot), lp (fX9_of_L43 mVil mRts p0) n (v3_7, v4_8) = some (ov3_7, ov4_8) → va_P D vwCl (wM cI cB cZ bd mVil mBad mFul mLen mSig mWay mLef mSpo mBeg mTok mVal mWor mNum mThe mRts mLns mOpn mTxt mAns mWys mSiz mNbs) H → va_S A s.heap H locs → lv_has ls 5 [(0, .ref (bd 0)), (1, .int p0), (2, .int p1), (3, .int v3_7), (4, .int v4_8)] → (∀ (H : Heap) (locs : List Loc) (ls : Array Slot), va_P D vwCl (wM cI cB cZ bd mVil mBad mFul mLen mSig mWay mLef mSpo mBeg mTok mVal mWor mNum mThe mRts mLns mOpn mTxt mAns mWys mSiz mNbs) H → va_S A s.heap H locs → lv_has ls 5 [(0, .ref (bd 0)), (1, .int p0), (2, .int p1), (3, .int ov3_7), (4, .int ov4_8)] → W p l e (rmN 2 46) s m args below meth c H locs 0 0 (MQ below (QI D (wM cI cB cZ bd mVil zmBad mFul mLen mSig mWay mLef mSpo mBeg mTok mVal mWor mNum mThe mRts mLns mOpn mTxt mAns mWys mSiz mNbs) A rv) args s 0 0 A) (F0 m 77 ls [])) → W p l e (rmN 2 46) s m args below meth c H locs 0 0 (MQ below (QI D (wM cI cB cZ bd mVil zmBad mFul mLen mSig mWay mLef mSpo mBeg mTok mVal mWor mNum mThe mRts mLns mOpn mTxt mAns mWys mSiz mNbs) A rv) args s 0 0 A) (F0 m 43 ls []) := by
            intro n
            induction n with
            | zero => intro v3_7 v4_8 ov3_7 ov4_8 H locs ls hf; exact (lp_0 hf).elim
            | succ n ih =>
              intro v3_7 v4_8 ov3_7 ov4_8 H locs ls hf hP hS hl hE
              replace hf := lp_s hf
              dsimp only [fX9_of_L43] at hf
              refine lv_iload hx hb dX9_of_43 (lv_at hl 4 rfl) ?_
              refine lv_aload_n hx hb dX9_of_45 rfl (lv_at hl 0 rfl) ?_
              refine va_get (ci := 8) (v := .int mVil) (C := RX9) (T := TX9) (N := 22) hx hb hts hiX9 hown hK hP 0 rfl rfl 0 (by decide) (hts _ (List.mem_of_getElem? (i := 2) rfl)) (fun _ h9 => h9) rfl dX9_of_46 ?_
              refine lv_icmp_ge (tgt := 77) hx hb dX9_of_49 (by decide) (fun hc => ?_) (fun hc => ?_)
              · replace hf := (if_pos hc).symm.trans hf
                cases hf
                exact hE _ _ _ hP hS (lv_sub hl [0, 1, 2, 3, 4] rfl)
              · replace hf := (if_neg hc).symm.trans hf
                refine lv_iload_n hx hb dX9_of_52 rfl (lv_at hl 3 rfl) ?_
                refine lv_aload_n hx hb dX9_of_53 rfl (lv_at hl 0 rfl) ?_
                refine va_get (ci := 8) (v := .ref (bd 1)) (C := RX9) (T := TX9) (N := 22) hx hb hts hiX9 hown hK hP 0 rfl rfl 1 (by decide) (hts _ (List.mem_of_getElem? (i := 3) rfl)) (fun _ h9 => h9) rfl dX9_of_54 ?_
                refine lv_iload hx hb dX9_of_57 (lv_at hl 4 rfl) ?_
                obtain ⟨hg, hf⟩ := og hf
                refine va_iald hx hb hK hP 1 0 rfl rfl (gI_in hg) dX9_of_59 ?_
                refine lv_iload_n hx hb dX9_of_60 rfl (lv_at hl 1 rfl) ?_
                have hJ69 : ∀ (t_9 : Int32) (H : Heap) (locs : List Loc) (ls : Array Slot), fX9_of_J69 v3_7 v4_8 (lp (fX9_of_L43 mVil mRts p0) n) t_9 = some (ov3_7, ov4_8) → va_P D vwCl (wM cI cB cZ bd mVil mBad mFul mLen mSig mWay mLef mSpo mBeg mTok mVal mWor mNum mThe mRts mLns mOpn mTxt mAns mWys mSiz mNbs) H → va_S A s.heap H locs → lv_has ls 5 [(0, .ref (bd 0)), (1, .int p0), (2, .int p1), (3, .int v3_7), (4, .int v4_8)] → W p l e (rmN 2 46) s m args below meth c H locs 0 0 (MQ below (QI D (wM cI cB cZ bd mVil zmBad mFul mLen mSig mWay mLef mSpo mBeg mTok mVal mWor mNum mThe mRts mLns mOpn mTxt mAns mWys mSiz mNbs) A rv) args s 0 0 A) (F0 m 69 ls [.int t_9, .int v3_7]) := by
                  intro t_9 H locs ls hf hP hS hl
                  unfold fX9_of_J69 at hf
                  refine lv_iadd hx hb dX9_of_69 ?_
                  refine lv_istore_n (lv' := [(3, .int (v3_7 + t_9)), (0, .ref (bd 0)), (1, .int p0), (2, .int p1), (4, .int v4_8)]) hx hb dX9_of_70 rfl hl (by decide) rfl (fun ls hl => ?_)
                  refine lv_iinc (v := (v4_8 + (1 : Int32))) (lv' := [(4, .int (v4_8 + (1 : Int32))), (3, .int (v3_7 + t_9)), (0, .ref (bd 0)), (1, .int p0), (2, .int p1)]) hx hb dX9_of_71 hl (k := 4) rfl rfl (by decide) rfl (fun ls hl => ?_)
                  refine lv_goto (tgt := 43) hx hb dX9_of_74 (by decide) ?_
                  exact ih _ _ _ _ _ _ _ hf hP hS (lv_sub hl [2, 3, 4, 1, 0] rfl) hE
                refine lv_icmp_ne (tgt := 68) hx hb dX9_of_61 (by decide) (fun hc => ?_) (fun hc => ?_)
                · replace hf := (if_neg hc).symm.trans hf
                  refine lv_iconst (v := (0 : Int32)) hx hb dX9_of_68 (by decide) ?_
                  exact hJ69 _ _ _ _ hf hP hS (lv_sub hl [0, 1, 2, 3, 4] rfl)
                · replace hf := (if_pos hc).symm.trans hf
                  refine lv_iconst (v := (1 : Int32)) hx hb dX9_of_64 (by decide) ?_
                  refine lv_goto (tgt := 69) hx hb dX9_of_65 (by decide) ?_
                  exact hJ69 _ _ _ _ hf hP hS (lv_sub hl [0, 1, 2, 3, 4] rfl)
          obtain ⟨⟨ov3_7, ov4_8⟩, hq, hf⟩ := ob hf
          try dsimp only at hf
          refine hL43 FU _ _ ov3_7 ov4_8 _ _ ls hq hP hS (lv_sub hl [2, 3, 4, 1, 0] rfl) (fun H locs ls hP hS hl => ?_)
          refine lv_iload_n hx hb dX9_of_77 rfl (lv_at hl 3 rfl) ?_
          obtain ⟨e0, hz1⟩ := Prod.mk.inj (Option.some.inj hf)
          subst e0
          subst hz1
          exact rm_i hx hb hr hlk hP hS dX9_of_78
        refine lv_if_le (tgt := 38) hx hb dX9_of_31 (by decide) (fun hc => ?_) (fun hc => ?_)
        · replace hf := (if_pos hc).symm.trans hf
          refine lv_iconst (v := (0 : Int32)) hx hb dX9_of_38 (by decide) ?_
          exact hJ39 _ _ _ _ hf hP hS (lv_sub hl [0, 1, 2] rfl)
        · replace hf := (if_neg hc).symm.trans hf
          refine lv_iconst (v := (1 : Int32)) hx hb dX9_of_34 (by decide) ?_
          refine lv_goto (tgt := 39) hx hb dX9_of_35 (by decide) ?_
          exact hJ39 _ _ _ _ hf hP hS (lv_sub hl [0, 1, 2] rfl)
    · replace hf := (if_pos hc).symm.trans hf
      exact hJ20  _ _ _ hf hP hS (lv_sub hl [0, 1, 2] rfl)

def fX9_farFrom_L8 (mRts : Nat → Int32) (mLns : Nat → Int32) (kk : (Int32 × Int32 × Int32) → Option (Int32 × Int32 × Int32)) (ww : Int32 × Int32 × Int32) : Option (Int32 × Int32 × Int32) :=
  match ww with
  | (v3_1, v4_2, v5_3) => (if v3_1 = v4_2 then (some (v3_1, v4_2, v5_3)) else (if v3_1 ≤ v4_2 then (if gI v4_2 60 then (if gI v4_2 60 then (kk (v3_1, (mRts (v4_2).toNatClampNeg), (v5_3 + (mLns (v4_2).toNatClampNeg)))) else none) else none) else (if gI v3_1 60 then (if gI v3_1 60 then (kk ((mRts (v3_1).toNatClampNeg), v4_2, (v5_3 + (mLns (v3_1).toNatClampNeg)))) else none) else none)))
def fX9_farFrom (mRts : Nat → Int32) (mLns : Nat → Int32) (p0 : Int32) (p1 : Int32) : Option (Int32) :=
  ((lp (fX9_farFrom_L8 mRts mLns) FU (p0, p1, (0 : Int32))).bind fun (ov3_1, ov4_2, ov5_3) => (some ov5_3))
set_option maxRecDepth 100000 in
set_option maxHeartbeats 4000000 in
theorem ctX9_farFrom (l : Launch) (D : va_G) (cI cB cZ : ClassId) (bd : Nat → Nat) (mVil mBad mFul mLen mSig mWay mLef mSpo mBeg mTok mVal mWor mNum mThe : Int32) (mRts mLns mOpn mTxt mAns mWys mSiz mNbs : Nat → Int32) (p0 : Int32) (p1 : Int32) (rv : Int32) (hf : fX9_farFrom mRts mLns p0 p1 = some rv) : Met l yX9_farFrom wsX9_farFrom (rmN 0 0) (PR D (tyL cI cB cZ) (wM cI cB cZ bd mVil mBad mFul mLen mSig mWay mLef mSpo mBeg mTok mVal mWor mNum mThe mRts mLns mOpn mTxt mAns mWys mSiz mNbs) [.ref (bd 0), .int p0, .int p1]) (SI rv) 0 0 (fun _ => False) := by
  refine mk_met cX9_farFrom 6 (some .int) (by decide) rfl (Nat.le_of_ble_eq_true rfl) ?_
  intro p e s m args below meth c ls hx hb hr hlk hml hown hts hPK hl
  obtain ⟨hP, hK⟩ := hPK
  replace hl : lv_has ls 6 [(0, .ref (bd 0)), (1, .int p0), (2, .int p1)] := hl
  replace hown : s.vm.findClass RX9 = some m.cls := hown
  have hiX9 : ∀ w ∈ wsX90, w ∈ wsX9_farFrom := fun w h => List.mem_cons_of_mem _ (List.mem_append_right _ h)
  unfold fX9_farFrom at hf
  refine lv_iload_n hx hb dX9_farFrom_0 rfl (lv_at hl 1 rfl) ?_
  refine lv_istore_n (lv' := [(3, .int p0), (0, .ref (bd 0)), (1, .int p0), (2, .int p1)]) hx hb dX9_farFrom_1 rfl hl (by decide) rfl (fun ls hl => ?_)
  refine lv_iload_n hx hb dX9_farFrom_2 rfl (lv_at hl 3 rfl) ?_
  refine lv_istore (lv' := [(4, .int p1), (3, .int p0), (0, .ref (bd 0)), (1, .int p0), (2, .int p1)]) hx hb dX9_farFrom_3 hl (by decide) rfl (fun ls hl => ?_)
  refine lv_iconst (v := (0 : Int32)) hx hb dX9_farFrom_5 (by decide) ?_
  refine lv_istore (lv' := [(5, .int (0 : Int32)), (4, .int p1), (3, .int p0), (0, .ref (bd 0)), (1, .int p0), (2, .int p1)]) hx hb dX9_farFrom_6 hl (by decide) rfl (fun ls hl => ?_)
  have hL8 : ∀ (n : Nat) (v3_1 : Int32) (v4_2 : Int32) (v5_3 : Int32) (ov3_1 : Int32) (ov4_2 : Int32) (ov5_3 : Int32) (ls : Array Slot), lp (fX9_farFrom_L8 mRts mLns) n (v3_1, v4_2, v5_3) = some (ov3_1, ov4_2, ov5_3) → lv_has ls 6 [(0, .ref (bd 0)), (1, .int p0), (2, .int p1), (3, .int v3_1), (4, .int v4_2), (5, .int v5_3)] → (∀ (ls : Array Slot), lv_has ls 6 [(0, .ref (bd 0)), (1, .int p0), (2, .int p1), (3, .int ov3_1), (4, .int ov4_2), (5, .int ov5_3)] → W p l e (rmN 0 0) s m args below meth c s.heap [] 0 0 (MQ below (SI rv) args s 0 0 (fun _ => False)) (F0 m 65 ls [])) → W p l e (rmN 0 0) s m args below meth c s.heap [] 0 0 (MQ below (SI rv) args s 0 0 (fun _ => False)) (F0 m 8 ls []) := by
    intro n
    induction n with
    | zero => intro v3_1 v4_2 v5_3 ov3_1 ov4_2 ov5_3 ls hf; exact (lp_0 hf).elim
    | succ n ih =>
      intro v3_1 v4_2 v5_3 ov3_1 ov4_2 ov5_3 ls hf hl hE
      replace hf := lp_s hf
      dsimp only [fX9_farFrom_L8] at hf
      refine lv_iload_n hx hb dX9_farFrom_8 rfl (lv_at hl 3 rfl) ?_
      refine lv_iload hx hb dX9_farFrom_9 (lv_at hl 4 rfl) ?_
      refine lv_icmp_eq (tgt := 65) hx hb dX9_farFrom_11 (by decide) (fun hc => ?_) (fun hc => ?_)
      · replace hf := (if_pos hc).symm.trans hf
        cases hf
        exact hE _ (lv_sub hl [0, 1, 2, 3, 4, 5] rfl)
      · replace hf := (if_neg hc).symm.trans hf
        refine lv_iload_n hx hb dX9_farFrom_14 rfl (lv_at hl 3 rfl) ?_
        refine lv_iload hx hb dX9_farFrom_15 (lv_at hl 4 rfl) ?_
        refine lv_icmp_le (tgt := 41) hx hb dX9_farFrom_17 (by decide) (fun hc => ?_) (fun hc => ?_)
        · replace hf := (if_pos hc).symm.trans hf
          refine lv_iload hx hb dX9_farFrom_41 (lv_at hl 5 rfl) ?_
          refine lv_aload_n hx hb dX9_farFrom_43 rfl (lv_at hl 0 rfl) ?_
          refine va_get (ci := 8) (v := .ref (bd 2)) (C := RX9) (T := TX9) (N := 22) hx hb hts hiX9 hown hK hP 0 rfl rfl 2 (by decide) (hts _ (List.mem_of_getElem? (i := 1) rfl)) (fun _ h9 => h9) rfl dX9_farFrom_44 ?_
          refine lv_iload hx hb dX9_farFrom_47 (lv_at hl 4 rfl) ?_
          obtain ⟨hg, hf⟩ := og hf
          refine va_iald hx hb hK hP 2 0 rfl rfl (gI_in hg) dX9_farFrom_49 ?_
          refine lv_iadd hx hb dX9_farFrom_50 ?_
          refine lv_istore (lv' := [(5, .int (v5_3 + (mLns (v4_2).toNatClampNeg))), (0, .ref (bd 0)), (1, .int p0), (2, .int p1), (3, .int v3_1), (4, .int v4_2)]) hx hb dX9_farFrom_51 hl (by decide) rfl (fun ls hl => ?_)
          refine lv_aload_n hx hb dX9_farFrom_53 rfl (lv_at hl 1 rfl) ?_
          refine va_get (ci := 8) (v := .ref (bd 1)) (C := RX9) (T := TX9) (N := 22) hx hb hts hiX9 hown hK hP 0 rfl rfl 1 (by decide) (hts _ (List.mem_of_getElem? (i := 2) rfl)) (fun _ h9 => h9) rfl dX9_farFrom_54 ?_
          refine lv_iload hx hb dX9_farFrom_57 (lv_at hl 5 rfl) ?_
          obtain ⟨hg, hf⟩ := og hf
          refine va_iald hx hb hK hP 1 0 rfl rfl (gI_in hg) dX9_farFrom_59 ?_
          refine lv_istore (lv' := [(4, .int (mRts (v4_2).toNatClampNeg)), (5, .int (v5_3 + (mLns (v4_2).toNatClampNeg))), (0, .ref (bd 0)), (1, .int p0), (2, .int p1), (3, .int v3_1)]) hx hb dX9_farFrom_60 hl (by decide) rfl (fun ls hl => ?_)
          refine lv_goto (tgt := 8) hx hb dX9_farFrom_62 (by decide) ?_
          exact ih _ _ _ _ _ _ _ hf (lv_sub hl [2, 3, 4, 5, 0, 1] rfl) hE
        · replace hf := (if_neg hc).symm.trans hf
          refine lv_iload hx hb dX9_farFrom_20 (lv_at hl 5 rfl) ?_
          refine lv_aload_n hx hb dX9_farFrom_22 rfl (lv_at hl 0 rfl) ?_
          refine va_get (ci := 8) (v := .ref (bd 2)) (C := RX9) (T := TX9) (N := 22) hx hb hts hiX9 hown hK hP 0 rfl rfl 2 (by decide) (hts _ (List.mem_of_getElem? (i := 1) rfl)) (fun _ h9 => h9) rfl dX9_farFrom_23 ?_
          refine lv_iload_n hx hb dX9_farFrom_26 rfl (lv_at hl 3 rfl) ?_
          obtain ⟨hg, hf⟩ := og hf
          refine va_iald hx hb hK hP 2 0 rfl rfl (gI_in hg) dX9_farFrom_27 ?_
          refine lv_iadd hx hb dX9_farFrom_28 ?_
          refine lv_istore (lv' := [(5, .int (v5_3 + (mLns (v3_1).toNatClampNeg))), (0, .ref (bd 0)), (1, .int p0), (2, .int p1), (3, .int v3_1), (4, .int v4_2)]) hx hb dX9_farFrom_29 hl (by decide) rfl (fun ls hl => ?_)
          refine lv_aload_n hx hb dX9_farFrom_31 rfl (lv_at hl 1 rfl) ?_
          refine va_get (ci := 8) (v := .ref (bd 1)) (C := RX9) (T := TX9) (N := 22) hx hb hts hiX9 hown hK hP 0 rfl rfl 1 (by decide) (hts _ (List.mem_of_getElem? (i := 2) rfl)) (fun _ h9 => h9) rfl dX9_farFrom_32 ?_
          refine lv_iload_n hx hb dX9_farFrom_35 rfl (lv_at hl 4 rfl) ?_
          obtain ⟨hg, hf⟩ := og hf
          refine va_iald hx hb hK hP 1 0 rfl rfl (gI_in hg) dX9_farFrom_36 ?_
          refine lv_istore_n (lv' := [(3, .int (mRts (v3_1).toNatClampNeg)), (5, .int (v5_3 + (mLns (v3_1).toNatClampNeg))), (0, .ref (bd 0)), (1, .int p0), (2, .int p1), (4, .int v4_2)]) hx hb dX9_farFrom_37 rfl hl (by decide) rfl (fun ls hl => ?_)
          refine lv_goto (tgt := 8) hx hb dX9_farFrom_38 (by decide) ?_
          exact ih _ _ _ _ _ _ _ hf (lv_sub hl [2, 3, 4, 0, 5, 1] rfl) hE
  obtain ⟨⟨ov3_1, ov4_2, ov5_3⟩, hq, hf⟩ := ob hf
  try dsimp only at hf
  refine hL8 FU _ _ _ ov3_1 ov4_2 ov5_3 ls hq (lv_sub hl [3, 4, 5, 2, 1, 0] rfl) (fun ls hl => ?_)
  refine lv_iload hx hb dX9_farFrom_65 (lv_at hl 5 rfl) ?_
  exact re_i hx hb hr hlk dX9_farFrom_67 hf

def fX9_far_J25 (mBad : Int32) : Option (Int32 × Int32) :=
  ((fX9_refuse mBad).bind fun (r_2, qmBad_3) => (some (r_2, qmBad_3)))
def fX9_far (mVil : Int32) (mBad : Int32) (mRts : Nat → Int32) (mLns : Nat → Int32) (p0 : Int32) (p1 : Int32) : Option (Int32 × Int32) :=
  ((fX9_isVillage mVil p0).bind fun r_1 => (if r_1 = 0 then (fX9_far_J25 mBad) else ((fX9_isVillage mVil p1).bind fun r_4 => (if r_4 = 0 then (fX9_far_J25 mBad) else ((fX9_farFrom mRts mLns p0 p1).bind fun r_5 => (some (r_5, mBad)))))))
set_option maxRecDepth 100000 in
set_option maxHeartbeats 4000000 in
theorem ctX9_far (l : Launch) (D : va_G) (cI cB cZ : ClassId) (bd : Nat → Nat) (A : Nat → Prop) (hAD : AD A bd 9) (mVil mBad mFul mLen mSig mWay mLef mSpo mBeg mTok mVal mWor mNum mThe : Int32) (mRts mLns mOpn mTxt mAns mWys mSiz mNbs : Nat → Int32) (p0 : Int32) (p1 : Int32) (rv : Int32) (zmBad : Int32) (hf : fX9_far mVil mBad mRts mLns p0 p1 = some (rv, zmBad)) : Met l yX9_far wsX9_far (rmN 2 46) (PR D (tyL cI cB cZ) (wM cI cB cZ bd mVil mBad mFul mLen mSig mWay mLef mSpo mBeg mTok mVal mWor mNum mThe mRts mLns mOpn mTxt mAns mWys mSiz mNbs) [.ref (bd 0), .int p0, .int p1]) (QI D (wM cI cB cZ bd mVil zmBad mFul mLen mSig mWay mLef mSpo mBeg mTok mVal mWor mNum mThe mRts mLns mOpn mTxt mAns mWys mSiz mNbs) A rv) 0 0 A := by
  refine mk_met cX9_far 3 (some .int) (by decide) rfl (Nat.le_of_ble_eq_true rfl) ?_
  intro p e s m args below meth c ls hx hb hr hlk hml hown hts hPK hl
  obtain ⟨hP, hK⟩ := hPK
  replace hl : lv_has ls 3 [(0, .ref (bd 0)), (1, .int p0), (2, .int p1)] := hl
  replace hown : s.vm.findClass RX9 = some m.cls := hown
  have hS : va_S A s.heap s.heap [] := va_S.rf
  unfold fX9_far at hf
  refine lv_aload_n hx hb dX9_far_0 rfl (lv_at hl 0 rfl) ?_
  refine lv_iload_n hx hb dX9_far_1 rfl (lv_at hl 1 rfl) ?_
  obtain ⟨r_1, hq, hf⟩ := ob hf
  try dsimp only at hf
  refine rcV 0 8 (As := [.int p0]) (rest := []) ⟨hx, hb, hml, hown, hts⟩ (ctX9_isVillage l D cI cB cZ bd mVil mBad mFul mLen mSig mWay mLef mSpo mBeg mTok mVal mWor mNum mThe mRts mLns mOpn mTxt mAns mWys mSiz mNbs p0 r_1 hq) (cwV 1 hts gX9_far_X9_isVillage rfl rfl rfl (by decide +kernel) ⟨Nat.le_of_ble_eq_true rfl, Nat.le_of_ble_eq_true rfl⟩) hK hP rfl rfl rfl hl.1 rfl (Nat.le_of_ble_eq_true rfl) dX9_far_2 ⟨Nat.zero_le _, Nat.zero_le _⟩ ?_
  have hJ25 : ∀  (H : Heap) (locs : List Loc) (ls : Array Slot), fX9_far_J25 mBad = some (rv, zmBad) → va_P D vwCl (wM cI cB cZ bd mVil mBad mFul mLen mSig mWay mLef mSpo mBeg mTok mVal mWor mNum mThe mRts mLns mOpn mTxt mAns mWys mSiz mNbs) H → va_S A s.heap H locs → lv_has ls 3 [(0, .ref (bd 0)), (1, .int p0), (2, .int p1)] → W p l e (rmN 2 46) s m args below meth c H locs 0 0 (MQ below (QI D (wM cI cB cZ bd mVil zmBad mFul mLen mSig mWay mLef mSpo mBeg mTok mVal mWor mNum mThe mRts mLns mOpn mTxt mAns mWys mSiz mNbs) A rv) args s 0 0 A) (F0 m 25 ls []) := by
    intro  H locs ls hf hP hS hl
    unfold fX9_far_J25 at hf
    refine lv_aload_n hx hb dX9_far_25 rfl (lv_at hl 0 rfl) ?_
    obtain ⟨⟨r_2, qmBad_3⟩, hq, hf⟩ := ob hf
    try dsimp only at hf
    refine mcVi 0 8 (As := []) (rest := []) ⟨hx, hb, hml, hown, hts⟩ (ctX9_refuse l D cI cB cZ bd A hAD mVil mBad mFul mLen mSig mWay mLef mSpo mBeg mTok mVal mWor mNum mThe mRts mLns mOpn mTxt mAns mWys mSiz mNbs  r_2 qmBad_3 hq) (cwV 0 hts gX9_far_X9_refuse rfl rfl rfl (by decide +kernel) ⟨Nat.le_of_ble_eq_true rfl, Nat.le_of_ble_eq_true rfl⟩) hK hP hS rfl rfl rfl hl.1 rfl (Nat.le_of_ble_eq_true rfl) dX9_far_26 ⟨Nat.zero_le _, Nat.zero_le _⟩ (fun H locs hP hS => ?_)
    obtain ⟨e0, hz1⟩ := Prod.mk.inj (Option.some.inj hf)
    subst e0
    subst hz1
    exact rm_i hx hb hr hlk hP hS dX9_far_29
  refine lv_if_eq (tgt := 25) hx hb dX9_far_5 (by decide) (fun hc => ?_) (fun hc => ?_)
  · replace hf := (if_pos hc).symm.trans hf
    exact hJ25  _ _ _ hf hP hS (lv_sub hl [0, 1, 2] rfl)
  · replace hf := (if_neg hc).symm.trans hf
    refine lv_aload_n hx hb dX9_far_8 rfl (lv_at hl 0 rfl) ?_
    refine lv_iload_n hx hb dX9_far_9 rfl (lv_at hl 2 rfl) ?_
    obtain ⟨r_4, hq, hf⟩ := ob hf
    try dsimp only at hf
    refine rcV 0 8 (As := [.int p1]) (rest := []) ⟨hx, hb, hml, hown, hts⟩ (ctX9_isVillage l D cI cB cZ bd mVil mBad mFul mLen mSig mWay mLef mSpo mBeg mTok mVal mWor mNum mThe mRts mLns mOpn mTxt mAns mWys mSiz mNbs p1 r_4 hq) (cwV 1 hts gX9_far_X9_isVillage rfl rfl rfl (by decide +kernel) ⟨Nat.le_of_ble_eq_true rfl, Nat.le_of_ble_eq_true rfl⟩) hK hP rfl rfl rfl hl.1 rfl (Nat.le_of_ble_eq_true rfl) dX9_far_10 ⟨Nat.zero_le _, Nat.zero_le _⟩ ?_
    refine lv_if_eq (tgt := 25) hx hb dX9_far_13 (by decide) (fun hc => ?_) (fun hc => ?_)
    · replace hf := (if_pos hc).symm.trans hf
      exact hJ25  _ _ _ hf hP hS (lv_sub hl [0, 1, 2] rfl)
    · replace hf := (if_neg hc).symm.trans hf
      refine lv_aload_n hx hb dX9_far_16 rfl (lv_at hl 0 rfl) ?_
      refine lv_iload_n hx hb dX9_far_17 rfl (lv_at hl 1 rfl) ?_
      refine lv_iload_n hx hb dX9_far_18 rfl (lv_at hl 2 rfl) ?_
      obtain ⟨r_5, hq, hf⟩ := ob hf
      try dsimp only at hf
      refine rcV 0 8 (As := [.int p0, .int p1]) (rest := []) ⟨hx, hb, hml, hown, hts⟩ (ctX9_farFrom l D cI cB cZ bd mVil mBad mFul mLen mSig mWay mLef mSpo mBeg mTok mVal mWor mNum mThe mRts mLns mOpn mTxt mAns mWys mSiz mNbs p0 p1 r_5 hq) (cwV 2 hts gX9_far_X9_farFrom rfl rfl rfl (by decide +kernel) ⟨Nat.le_of_ble_eq_true rfl, Nat.le_of_ble_eq_true rfl⟩) hK hP rfl rfl rfl hl.1 rfl (Nat.le_of_ble_eq_true rfl) dX9_far_19 ⟨Nat.zero_le _, Nat.zero_le _⟩ ?_
      refine lv_goto (tgt := 29) hx hb dX9_far_22 (by decide) ?_
      obtain ⟨e0, hz1⟩ := Prod.mk.inj (Option.some.inj hf)
      subst e0
      subst hz1
      exact rm_i hx hb hr hlk hP hS dX9_far_29

def fX9_findWay_L11 (mRts : Nat → Int32) (kk : (Int32 × Int32 × Int32 × Int32 × (Nat → Int32)) → Option (Int32 × Int32 × Int32 × Int32 × (Nat → Int32))) (ww : Int32 × Int32 × Int32 × Int32 × (Nat → Int32)) : Option (Int32 × Int32 × Int32 × Int32 × (Nat → Int32)) :=
  match ww with
  | (v3_1, v4_2, v5_3, v6_4, wmWys_5) => (if v3_1 = v4_2 then (some (v3_1, v4_2, v5_3, v6_4, wmWys_5)) else (if v3_1 ≤ v4_2 then (if gI ((60 : Int32) - (v6_4 + (1 : Int32))) 60 then (if gI v4_2 60 then (kk (v3_1, (mRts (v4_2).toNatClampNeg), v5_3, (v6_4 + (1 : Int32)), (upd wmWys_5 ((60 : Int32) - (v6_4 + (1 : Int32))).toNatClampNeg v4_2))) else none) else none) else (if gI v5_3 60 then (if gI v3_1 60 then (kk ((mRts (v3_1).toNatClampNeg), v4_2, (v5_3 + (1 : Int32)), v6_4, (upd wmWys_5 (v5_3).toNatClampNeg v3_1))) else none) else none)))
def fX9_findWay_L82 (ov5_3 : Int32) (ov6_4 : Int32) (kk : (Int32 × (Nat → Int32)) → Option (Int32 × (Nat → Int32))) (ww : Int32 × (Nat → Int32)) : Option (Int32 × (Nat → Int32)) :=
  match ww with
  | (v7_6, wmWys_7) => (if ov6_4 ≤ v7_6 then (some (v7_6, wmWys_7)) else (if gI (((60 : Int32) - ov6_4) + v7_6) 60 then (if gI ((ov5_3 + (1 : Int32)) + v7_6) 60 then (kk ((v7_6 + (1 : Int32)), (upd wmWys_7 ((ov5_3 + (1 : Int32)) + v7_6).toNatClampNeg (wmWys_7 (((60 : Int32) - ov6_4) + v7_6).toNatClampNeg)))) else none) else none))
def fX9_findWay (mWay : Int32) (mRts : Nat → Int32) (mWys : Nat → Int32) (p0 : Int32) (p1 : Int32) : Option (Int32 × (Nat → Int32)) :=
  ((lp (fX9_findWay_L11 mRts) FU (p0, p1, (0 : Int32), (0 : Int32), mWys)).bind fun (ov3_1, ov4_2, ov5_3, ov6_4, owmWys_5) => (if gI ov5_3 60 then ((lp (fX9_findWay_L82 ov5_3 ov6_4) FU ((0 : Int32), (upd owmWys_5 (ov5_3).toNatClampNeg ov3_1))).bind fun (ov7_6, owmWys_7) => (some (((ov5_3 + (1 : Int32)) + ov6_4), owmWys_7))) else none))
set_option maxRecDepth 100000 in
set_option maxHeartbeats 4000000 in
theorem ctX9_findWay (l : Launch) (D : va_G) (cI cB cZ : ClassId) (bd : Nat → Nat) (A : Nat → Prop) (hAD : AD A bd 9) (mVil mBad mFul mLen mSig mWay mLef mSpo mBeg mTok mVal mWor mNum mThe : Int32) (mRts mLns mOpn mTxt mAns mWys mSiz mNbs : Nat → Int32) (p0 : Int32) (p1 : Int32) (zmWay : Int32) (zmWys : Nat → Int32) (hf : fX9_findWay mWay mRts mWys p0 p1 = some (zmWay, zmWys)) : Met l yX9_findWay wsX9_findWay (rmN 0 0) (PR D (tyL cI cB cZ) (wM cI cB cZ bd mVil mBad mFul mLen mSig mWay mLef mSpo mBeg mTok mVal mWor mNum mThe mRts mLns mOpn mTxt mAns mWys mSiz mNbs) [.ref (bd 0), .int p0, .int p1]) (QV D (wM cI cB cZ bd mVil mBad mFul mLen mSig zmWay mLef mSpo mBeg mTok mVal mWor mNum mThe mRts mLns mOpn mTxt mAns zmWys mSiz mNbs) A) 0 0 A := by
  refine mk_met cX9_findWay 8 none (by decide) rfl (Nat.le_of_ble_eq_true rfl) ?_
  intro p e s m args below meth c ls hx hb hr hlk hml hown hts hPK hl
  obtain ⟨hP, hK⟩ := hPK
  replace hl : lv_has ls 8 [(0, .ref (bd 0)), (1, .int p0), (2, .int p1)] := hl
  replace hown : s.vm.findClass RX9 = some m.cls := hown
  have hiX9 : ∀ w ∈ wsX90, w ∈ wsX9_findWay := fun w h => List.mem_cons_of_mem _ (List.mem_append_right _ h)
  have hS : va_S A s.heap s.heap [] := va_S.rf
  unfold fX9_findWay at hf
  refine lv_iload_n hx hb dX9_findWay_0 rfl (lv_at hl 1 rfl) ?_
  refine lv_istore_n (lv' := [(3, .int p0), (0, .ref (bd 0)), (1, .int p0), (2, .int p1)]) hx hb dX9_findWay_1 rfl hl (by decide) rfl (fun ls hl => ?_)
  refine lv_iload_n hx hb dX9_findWay_2 rfl (lv_at hl 3 rfl) ?_
  refine lv_istore (lv' := [(4, .int p1), (3, .int p0), (0, .ref (bd 0)), (1, .int p0), (2, .int p1)]) hx hb dX9_findWay_3 hl (by decide) rfl (fun ls hl => ?_)
  refine lv_iconst (v := (0 : Int32)) hx hb dX9_findWay_5 (by decide) ?_
  refine lv_istore (lv' := [(5, .int (0 : Int32)), (4, .int p1), (3, .int p0), (0, .ref (bd 0)), (1, .int p0), (2, .int p1)]) hx hb dX9_findWay_6 hl (by decide) rfl (fun ls hl => ?_)
  refine lv_iconst (v := (0 : Int32)) hx hb dX9_findWay_8 (by decide) ?_
  refine lv_istore (lv' := [(6, .int (0 : Int32)), (5, .int (0 : Int32)), (4, .int p1), (3, .int p0), (0, .ref (bd 0)), (1, .int p0), (2, .int p1)]) hx hb dX9_findWay_9 hl (by decide) rfl (fun ls hl => ?_)
  have hL11 : ∀ (n : Nat) (v3_1 : Int32) (v4_2 : Int32) (v5_3 : Int32) (v6_4 : Int32) (wmWys_5 : Nat → Int32) (ov3_1 : Int32) (ov4_2 : Int32) (ov5_3 : Int32) (ov6_4 : Int32) (owmWys_5 : Nat → Int32) (H : Heap) (locs : List Loc) (ls : Array Slot), lp (fX9_findWay_L11 mRts) n (v3_1, v4_2, v5_3, v6_4, wmWys_5) = some (ov3_1, ov4_2, ov5_3, ov6_4, owmWys_5) → va_P D vwCl (wM cI cB cZ bd mVil mBad mFul mLen mSig mWay mLef mSpo mBeg mTok mVal mWor mNum mThe mRts mLns mOpn mTxt mAns wmWys_5 mSiz mNbs) H → va_S A s.heap H locs → lv_has ls 8 [(0, .ref (bd 0)), (1, .int p0), (2, .int p1), (3, .int v3_1), (4, .int v4_2), (5, .int v5_3), (6, .int v6_4)] → (∀ (H : Heap) (locs : List Loc) (ls : Array Slot), va_P D vwCl (wM cI cB cZ bd mVil mBad mFul mLen mSig mWay mLef mSpo mBeg mTok mVal mWor mNum mThe mRts mLns mOpn mTxt mAns owmWys_5 mSiz mNbs) H → va_S A s.heap H locs → lv_has ls 8 [(0, .ref (bd 0)), (1, .int p0), (2, .int p1), (3, .int ov3_1), (4, .int ov4_2), (5, .int ov5_3), (6, .int ov6_4)] → W p l e (rmN 0 0) s m args below meth c H locs 0 0 (MQ below (QV D (wM cI cB cZ bd mVil mBad mFul mLen mSig zmWay mLef mSpo mBeg mTok mVal mWor mNum mThe mRts mLns mOpn mTxt mAns zmWys mSiz mNbs) A) args s 0 0 A) (F0 m 71 ls [])) → W p l e (rmN 0 0) s m args below meth c H locs 0 0 (MQ below (QV D (wM cI cB cZ bd mVil mBad mFul mLen mSig zmWay mLef mSpo mBeg mTok mVal mWor mNum mThe mRts mLns mOpn mTxt mAns zmWys mSiz mNbs) A) args s 0 0 A) (F0 m 11 ls []) := by
    intro n
    induction n with
    | zero => intro v3_1 v4_2 v5_3 v6_4 wmWys_5 ov3_1 ov4_2 ov5_3 ov6_4 owmWys_5 H locs ls hf; exact (lp_0 hf).elim
    | succ n ih =>
      intro v3_1 v4_2 v5_3 v6_4 wmWys_5 ov3_1 ov4_2 ov5_3 ov6_4 owmWys_5 H locs ls hf hP hS hl hE
      replace hf := lp_s hf
      dsimp only [fX9_findWay_L11] at hf
      refine lv_iload_n hx hb dX9_findWay_11 rfl (lv_at hl 3 rfl) ?_
      refine lv_iload hx hb dX9_findWay_12 (lv_at hl 4 rfl) ?_
      refine lv_icmp_eq (tgt := 71) hx hb dX9_findWay_14 (by decide) (fun hc => ?_) (fun hc => ?_)
      · replace hf := (if_pos hc).symm.trans hf
        cases hf
        exact hE _ _ _ hP hS (lv_sub hl [0, 1, 2, 3, 4, 5, 6] rfl)
      · replace hf := (if_neg hc).symm.trans hf
        refine lv_iload_n hx hb dX9_findWay_17 rfl (lv_at hl 3 rfl) ?_
        refine lv_iload hx hb dX9_findWay_18 (lv_at hl 4 rfl) ?_
        refine lv_icmp_le (tgt := 44) hx hb dX9_findWay_20 (by decide) (fun hc => ?_) (fun hc => ?_)
        · replace hf := (if_pos hc).symm.trans hf
          refine lv_iinc (v := (v6_4 + (1 : Int32))) (lv' := [(6, .int (v6_4 + (1 : Int32))), (0, .ref (bd 0)), (1, .int p0), (2, .int p1), (3, .int v3_1), (4, .int v4_2), (5, .int v5_3)]) hx hb dX9_findWay_44 hl (k := 6) rfl rfl (by decide) rfl (fun ls hl => ?_)
          refine lv_aload_n hx hb dX9_findWay_47 rfl (lv_at hl 1 rfl) ?_
          refine va_get (ci := 8) (v := .ref (bd 6)) (C := RX9) (T := TX9) (N := 22) hx hb hts hiX9 hown hK hP 0 rfl rfl 11 (by decide) (hts _ (List.mem_of_getElem? (i := 1) rfl)) (fun _ h9 => h9) rfl dX9_findWay_48 ?_
          refine lv_bipush (v := (60 : Int32)) hx hb dX9_findWay_51 (by decide) ?_
          refine lv_iload hx hb dX9_findWay_53 (lv_at hl 0 rfl) ?_
          refine lv_isub hx hb dX9_findWay_55 ?_
          refine lv_iload hx hb dX9_findWay_56 (lv_at hl 5 rfl) ?_
          obtain ⟨hg, hf⟩ := og hf
          refine va_iast hx hb hK hP (wM_D hAD) hS 6 0 rfl rfl (gI_in hg) dX9_findWay_58 (fun H locs hP _ hS => ?_)
          have hP : va_P D vwCl (wM cI cB cZ bd mVil mBad mFul mLen mSig mWay mLef mSpo mBeg mTok mVal mWor mNum mThe mRts mLns mOpn mTxt mAns (upd wmWys_5 ((60 : Int32) - (v6_4 + (1 : Int32))).toNatClampNeg v4_2) mSiz mNbs) H := hP
          refine lv_aload_n hx hb dX9_findWay_59 rfl (lv_at hl 1 rfl) ?_
          refine va_get (ci := 8) (v := .ref (bd 1)) (C := RX9) (T := TX9) (N := 22) hx hb hts hiX9 hown hK hP 0 rfl rfl 1 (by decide) (hts _ (List.mem_of_getElem? (i := 2) rfl)) (fun _ h9 => h9) rfl dX9_findWay_60 ?_
          refine lv_iload hx hb dX9_findWay_63 (lv_at hl 5 rfl) ?_
          obtain ⟨hg, hf⟩ := og hf
          refine va_iald hx hb hK hP 1 0 rfl rfl (gI_in hg) dX9_findWay_65 ?_
          refine lv_istore (lv' := [(4, .int (mRts (v4_2).toNatClampNeg)), (6, .int (v6_4 + (1 : Int32))), (0, .ref (bd 0)), (1, .int p0), (2, .int p1), (3, .int v3_1), (5, .int v5_3)]) hx hb dX9_findWay_66 hl (by decide) rfl (fun ls hl => ?_)
          refine lv_goto (tgt := 11) hx hb dX9_findWay_68 (by decide) ?_
          exact ih _ _ _ _ _ _ _ _ _ _ _ _ _ hf hP hS (lv_sub hl [2, 3, 4, 5, 0, 6, 1] rfl) hE
        · replace hf := (if_neg hc).symm.trans hf
          refine lv_aload_n hx hb dX9_findWay_23 rfl (lv_at hl 0 rfl) ?_
          refine va_get (ci := 8) (v := .ref (bd 6)) (C := RX9) (T := TX9) (N := 22) hx hb hts hiX9 hown hK hP 0 rfl rfl 11 (by decide) (hts _ (List.mem_of_getElem? (i := 1) rfl)) (fun _ h9 => h9) rfl dX9_findWay_24 ?_
          refine lv_iload hx hb dX9_findWay_27 (lv_at hl 5 rfl) ?_
          refine lv_iload_n hx hb dX9_findWay_29 rfl (lv_at hl 3 rfl) ?_
          obtain ⟨hg, hf⟩ := og hf
          refine va_iast hx hb hK hP (wM_D hAD) hS 6 0 rfl rfl (gI_in hg) dX9_findWay_30 (fun H locs hP _ hS => ?_)
          have hP : va_P D vwCl (wM cI cB cZ bd mVil mBad mFul mLen mSig mWay mLef mSpo mBeg mTok mVal mWor mNum mThe mRts mLns mOpn mTxt mAns (upd wmWys_5 (v5_3).toNatClampNeg v3_1) mSiz mNbs) H := hP
          refine lv_aload_n hx hb dX9_findWay_31 rfl (lv_at hl 0 rfl) ?_
          refine va_get (ci := 8) (v := .ref (bd 1)) (C := RX9) (T := TX9) (N := 22) hx hb hts hiX9 hown hK hP 0 rfl rfl 1 (by decide) (hts _ (List.mem_of_getElem? (i := 2) rfl)) (fun _ h9 => h9) rfl dX9_findWay_32 ?_
          refine lv_iload_n hx hb dX9_findWay_35 rfl (lv_at hl 3 rfl) ?_
          obtain ⟨hg, hf⟩ := og hf
          refine va_iald hx hb hK hP 1 0 rfl rfl (gI_in hg) dX9_findWay_36 ?_
          refine lv_istore_n (lv' := [(3, .int (mRts (v3_1).toNatClampNeg)), (0, .ref (bd 0)), (1, .int p0), (2, .int p1), (4, .int v4_2), (5, .int v5_3), (6, .int v6_4)]) hx hb dX9_findWay_37 rfl hl (by decide) rfl (fun ls hl => ?_)
          refine lv_iinc (v := (v5_3 + (1 : Int32))) (lv' := [(5, .int (v5_3 + (1 : Int32))), (3, .int (mRts (v3_1).toNatClampNeg)), (0, .ref (bd 0)), (1, .int p0), (2, .int p1), (4, .int v4_2), (6, .int v6_4)]) hx hb dX9_findWay_38 hl (k := 5) rfl rfl (by decide) rfl (fun ls hl => ?_)
          refine lv_goto (tgt := 11) hx hb dX9_findWay_41 (by decide) ?_
          exact ih _ _ _ _ _ _ _ _ _ _ _ _ _ hf hP hS (lv_sub hl [2, 3, 4, 1, 5, 0, 6] rfl) hE
  obtain ⟨⟨ov3_1, ov4_2, ov5_3, ov6_4, owmWys_5⟩, hq, hf⟩ := ob hf
  try dsimp only at hf
  refine hL11 FU _ _ _ _ _ ov3_1 ov4_2 ov5_3 ov6_4 owmWys_5 _ _ ls hq hP hS (lv_sub hl [4, 5, 6, 3, 2, 1, 0] rfl) (fun H locs ls hP hS hl => ?_)
  refine lv_aload_n hx hb dX9_findWay_71 rfl (lv_at hl 0 rfl) ?_
  refine va_get (ci := 8) (v := .ref (bd 6)) (C := RX9) (T := TX9) (N := 22) hx hb hts hiX9 hown hK hP 0 rfl rfl 11 (by decide) (hts _ (List.mem_of_getElem? (i := 1) rfl)) (fun _ h9 => h9) rfl dX9_findWay_72 ?_
  refine lv_iload hx hb dX9_findWay_75 (lv_at hl 5 rfl) ?_
  refine lv_iload_n hx hb dX9_findWay_77 rfl (lv_at hl 3 rfl) ?_
  obtain ⟨hg, hf⟩ := og hf
  refine va_iast hx hb hK hP (wM_D hAD) hS 6 0 rfl rfl (gI_in hg) dX9_findWay_78 (fun H locs hP _ hS => ?_)
  have hP : va_P D vwCl (wM cI cB cZ bd mVil mBad mFul mLen mSig mWay mLef mSpo mBeg mTok mVal mWor mNum mThe mRts mLns mOpn mTxt mAns (upd owmWys_5 (ov5_3).toNatClampNeg ov3_1) mSiz mNbs) H := hP
  refine lv_iconst (v := (0 : Int32)) hx hb dX9_findWay_79 (by decide) ?_
  refine lv_istore (lv' := [(7, .int (0 : Int32)), (0, .ref (bd 0)), (1, .int p0), (2, .int p1), (3, .int ov3_1), (4, .int ov4_2), (5, .int ov5_3), (6, .int ov6_4)]) hx hb dX9_findWay_80 hl (by decide) rfl (fun ls hl => ?_)
  have hL82 : ∀ (n : Nat) (v7_6 : Int32) (wmWys_7 : Nat → Int32) (ov7_6 : Int32) (owmWys_7 : Nat → Int32) (H : Heap) (locs : List Loc) (ls : Array Slot), lp (fX9_findWay_L82 ov5_3 ov6_4) n (v7_6, wmWys_7) = some (ov7_6, owmWys_7) → va_P D vwCl (wM cI cB cZ bd mVil mBad mFul mLen mSig mWay mLef mSpo mBeg mTok mVal mWor mNum mThe mRts mLns mOpn mTxt mAns wmWys_7 mSiz mNbs) H → va_S A s.heap H locs → lv_has ls 8 [(0, .ref (bd 0)), (1, .int p0), (2, .int p1), (3, .int ov3_1), (4, .int ov4_2), (5, .int ov5_3), (6, .int ov6_4), (7, .int v7_6)] → (∀ (H : Heap) (locs : List Loc) (ls : Array Slot), va_P D vwCl (wM cI cB cZ bd mVil mBad mFul mLen mSig mWay mLef mSpo mBeg mTok mVal mWor mNum mThe mRts mLns mOpn mTxt mAns owmWys_7 mSiz mNbs) H → va_S A s.heap H locs → lv_has ls 8 [(0, .ref (bd 0)), (1, .int p0), (2, .int p1), (3, .int ov3_1), (4, .int ov4_2), (5, .int ov5_3), (6, .int ov6_4), (7, .int ov7_6)] → W p l e (rmN 0 0) s m args below meth c H locs 0 0 (MQ below (QV D (wM cI cB cZ bd mVil mBad mFul mLen mSig zmWay mLef mSpo mBeg mTok mVal mWor mNum mThe mRts mLns mOpn mTxt mAns zmWys mSiz mNbs) A) args s 0 0 A) (F0 m 120 ls [])) → W p l e (rmN 0 0) s m args below meth c H locs 0 0 (MQ below (QV D (wM cI cB cZ bd mVil mBad mFul mLen mSig zmWay mLef mSpo mBeg mTok mVal mWor mNum mThe mRts mLns mOpn mTxt mAns zmWys mSiz mNbs) A) args s 0 0 A) (F0 m 82 ls []) := by
    intro n
    induction n with
    | zero => intro v7_6 wmWys_7 ov7_6 owmWys_7 H locs ls hf; exact (lp_0 hf).elim
    | succ n ih =>
      intro v7_6 wmWys_7 ov7_6 owmWys_7 H locs ls hf hP hS hl hE
      replace hf := lp_s hf
      dsimp only [fX9_findWay_L82] at hf
      refine lv_iload hx hb dX9_findWay_82 (lv_at hl 7 rfl) ?_
      refine lv_iload hx hb dX9_findWay_84 (lv_at hl 6 rfl) ?_
      refine lv_icmp_ge (tgt := 120) hx hb dX9_findWay_86 (by decide) (fun hc => ?_) (fun hc => ?_)
      · replace hf := (if_pos hc).symm.trans hf
        cases hf
        exact hE _ _ _ hP hS (lv_sub hl [0, 1, 2, 3, 4, 5, 6, 7] rfl)
      · replace hf := (if_neg hc).symm.trans hf
        refine lv_aload_n hx hb dX9_findWay_89 rfl (lv_at hl 0 rfl) ?_
        refine va_get (ci := 8) (v := .ref (bd 6)) (C := RX9) (T := TX9) (N := 22) hx hb hts hiX9 hown hK hP 0 rfl rfl 11 (by decide) (hts _ (List.mem_of_getElem? (i := 1) rfl)) (fun _ h9 => h9) rfl dX9_findWay_90 ?_
        refine lv_iload hx hb dX9_findWay_93 (lv_at hl 5 rfl) ?_
        refine lv_iconst (v := (1 : Int32)) hx hb dX9_findWay_95 (by decide) ?_
        refine lv_iadd hx hb dX9_findWay_96 ?_
        refine lv_iload hx hb dX9_findWay_97 (lv_at hl 7 rfl) ?_
        refine lv_iadd hx hb dX9_findWay_99 ?_
        refine lv_aload_n hx hb dX9_findWay_100 rfl (lv_at hl 0 rfl) ?_
        refine va_get (ci := 8) (v := .ref (bd 6)) (C := RX9) (T := TX9) (N := 22) hx hb hts hiX9 hown hK hP 0 rfl rfl 11 (by decide) (hts _ (List.mem_of_getElem? (i := 1) rfl)) (fun _ h9 => h9) rfl dX9_findWay_101 ?_
        refine lv_bipush (v := (60 : Int32)) hx hb dX9_findWay_104 (by decide) ?_
        refine lv_iload hx hb dX9_findWay_106 (lv_at hl 6 rfl) ?_
        refine lv_isub hx hb dX9_findWay_108 ?_
        refine lv_iload hx hb dX9_findWay_109 (lv_at hl 7 rfl) ?_
        refine lv_iadd hx hb dX9_findWay_111 ?_
        obtain ⟨hg, hf⟩ := og hf
        refine va_iald hx hb hK hP 6 0 rfl rfl (gI_in hg) dX9_findWay_112 ?_
        obtain ⟨hg, hf⟩ := og hf
        refine va_iast hx hb hK hP (wM_D hAD) hS 6 0 rfl rfl (gI_in hg) dX9_findWay_113 (fun H locs hP _ hS => ?_)
        have hP : va_P D vwCl (wM cI cB cZ bd mVil mBad mFul mLen mSig mWay mLef mSpo mBeg mTok mVal mWor mNum mThe mRts mLns mOpn mTxt mAns (upd wmWys_7 ((ov5_3 + (1 : Int32)) + v7_6).toNatClampNeg (wmWys_7 (((60 : Int32) - ov6_4) + v7_6).toNatClampNeg)) mSiz mNbs) H := hP
        refine lv_iinc (v := (v7_6 + (1 : Int32))) (lv' := [(7, .int (v7_6 + (1 : Int32))), (0, .ref (bd 0)), (1, .int p0), (2, .int p1), (3, .int ov3_1), (4, .int ov4_2), (5, .int ov5_3), (6, .int ov6_4)]) hx hb dX9_findWay_114 hl (k := 7) rfl rfl (by decide) rfl (fun ls hl => ?_)
        refine lv_goto (tgt := 82) hx hb dX9_findWay_117 (by decide) ?_
        exact ih _ _ _ _ _ _ _ hf hP hS (lv_sub hl [1, 2, 3, 4, 5, 6, 7, 0] rfl) hE
  obtain ⟨⟨ov7_6, owmWys_7⟩, hq, hf⟩ := ob hf
  try dsimp only at hf
  refine hL82 FU _ _ ov7_6 owmWys_7 _ _ ls hq hP hS (lv_sub hl [1, 2, 3, 4, 5, 6, 7, 0] rfl) (fun H locs ls hP hS hl => ?_)
  refine lv_aload_n hx hb dX9_findWay_120 rfl (lv_at hl 0 rfl) ?_
  refine lv_iload hx hb dX9_findWay_121 (lv_at hl 5 rfl) ?_
  refine lv_iconst (v := (1 : Int32)) hx hb dX9_findWay_123 (by decide) ?_
  refine lv_iadd hx hb dX9_findWay_124 ?_
  refine lv_iload hx hb dX9_findWay_125 (lv_at hl 6 rfl) ?_
  refine lv_iadd hx hb dX9_findWay_127 ?_
  refine va_put (ci := 8) (v := .int ((ov5_3 + (1 : Int32)) + ov6_4)) (ty := .int) (C := RX9) (T := TX9) (N := 22) hx hb hts hiX9 tyX9 tyX9_ok nmX9 hown hK hP (wM_D hAD) hS 0 rfl rfl 10 (by decide) (hts _ (List.mem_of_getElem? (i := 3) rfl)) (fun _ h9 => h9) rfl (tyX9_ok 10 (by decide)) rfl rfl (Nat.le_of_ble_eq_true rfl) dX9_findWay_128 (fun H locs hP _ hS => ?_)
  have hP : va_P D vwCl (wM cI cB cZ bd mVil mBad mFul mLen mSig ((ov5_3 + (1 : Int32)) + ov6_4) mLef mSpo mBeg mTok mVal mWor mNum mThe mRts mLns mOpn mTxt mAns owmWys_7 mSiz mNbs) H := hP
  obtain ⟨e0, hz1⟩ := Prod.mk.inj (Option.some.inj hf)
  subst e0
  subst hz1
  exact rm_v hx hb hr hlk hP hS dX9_findWay_131

def fX9_way_J21 (mBad : Int32) (mWay : Int32) (mWys : Nat → Int32) : Option (Int32 × Int32 × Int32 × (Nat → Int32)) :=
  ((fX9_refuse mBad).bind fun (r_2, qmBad_3) => (some ((-10 : Int32), qmBad_3, mWay, mWys)))
def fX9_way (mVil : Int32) (mBad : Int32) (mWay : Int32) (mRts : Nat → Int32) (mWys : Nat → Int32) (p0 : Int32) (p1 : Int32) (p2 : Int32) : Option (Int32 × Int32 × Int32 × (Nat → Int32)) :=
  ((fX9_isVillage mVil p0).bind fun r_1 => (if r_1 = 0 then (fX9_way_J21 mBad mWay mWys) else ((fX9_isVillage mVil p1).bind fun r_4 => (if r_4 = 0 then (fX9_way_J21 mBad mWay mWys) else (if (-1 : Int32) ≤ p2 then ((fX9_findWay mWay mRts mWys p0 p1).bind fun (qmWay_5, qmWys_6) => (if p2 = (-1 : Int32) then (some (qmWay_5, mBad, qmWay_5, qmWys_6)) else (if qmWay_5 ≤ p2 then (some ((-5 : Int32), mBad, qmWay_5, qmWys_6)) else (if gI p2 60 then (some ((qmWys_6 (p2).toNatClampNeg), mBad, qmWay_5, qmWys_6)) else none)))) else (fX9_way_J21 mBad mWay mWys))))))
set_option maxRecDepth 100000 in
set_option maxHeartbeats 4000000 in
theorem ctX9_way (l : Launch) (D : va_G) (cI cB cZ : ClassId) (bd : Nat → Nat) (A : Nat → Prop) (hAD : AD A bd 9) (mVil mBad mFul mLen mSig mWay mLef mSpo mBeg mTok mVal mWor mNum mThe : Int32) (mRts mLns mOpn mTxt mAns mWys mSiz mNbs : Nat → Int32) (p0 : Int32) (p1 : Int32) (p2 : Int32) (rv : Int32) (zmBad : Int32) (zmWay : Int32) (zmWys : Nat → Int32) (hf : fX9_way mVil mBad mWay mRts mWys p0 p1 p2 = some (rv, zmBad, zmWay, zmWys)) : Met l yX9_way wsX9_way (rmN 2 46) (PR D (tyL cI cB cZ) (wM cI cB cZ bd mVil mBad mFul mLen mSig mWay mLef mSpo mBeg mTok mVal mWor mNum mThe mRts mLns mOpn mTxt mAns mWys mSiz mNbs) [.ref (bd 0), .int p0, .int p1, .int p2]) (QI D (wM cI cB cZ bd mVil zmBad mFul mLen mSig zmWay mLef mSpo mBeg mTok mVal mWor mNum mThe mRts mLns mOpn mTxt mAns zmWys mSiz mNbs) A rv) 0 0 A := by
  refine mk_met cX9_way 4 (some .int) (by decide) rfl (Nat.le_of_ble_eq_true rfl) ?_
  intro p e s m args below meth c ls hx hb hr hlk hml hown hts hPK hl
  obtain ⟨hP, hK⟩ := hPK
  replace hl : lv_has ls 4 [(0, .ref (bd 0)), (1, .int p0), (2, .int p1), (3, .int p2)] := hl
  replace hown : s.vm.findClass RX9 = some m.cls := hown
  have hiX9 : ∀ w ∈ wsX90, w ∈ wsX9_way := fun w h => List.mem_cons_of_mem _ (List.mem_append_right _ h)
  have hS : va_S A s.heap s.heap [] := va_S.rf
  unfold fX9_way at hf
  refine lv_aload_n hx hb dX9_way_0 rfl (lv_at hl 0 rfl) ?_
  refine lv_iload_n hx hb dX9_way_1 rfl (lv_at hl 1 rfl) ?_
  obtain ⟨r_1, hq, hf⟩ := ob hf
  try dsimp only at hf
  refine rcV 0 8 (As := [.int p0]) (rest := []) ⟨hx, hb, hml, hown, hts⟩ (ctX9_isVillage l D cI cB cZ bd mVil mBad mFul mLen mSig mWay mLef mSpo mBeg mTok mVal mWor mNum mThe mRts mLns mOpn mTxt mAns mWys mSiz mNbs p0 r_1 hq) (cwV 1 hts gX9_way_X9_isVillage rfl rfl rfl (by decide +kernel) ⟨Nat.le_of_ble_eq_true rfl, Nat.le_of_ble_eq_true rfl⟩) hK hP rfl rfl rfl hl.1 rfl (Nat.le_of_ble_eq_true rfl) dX9_way_2 ⟨Nat.zero_le _, Nat.zero_le _⟩ ?_
  have hJ21 : ∀  (H : Heap) (locs : List Loc) (ls : Array Slot), fX9_way_J21 mBad mWay mWys = some (rv, zmBad, zmWay, zmWys) → va_P D vwCl (wM cI cB cZ bd mVil mBad mFul mLen mSig mWay mLef mSpo mBeg mTok mVal mWor mNum mThe mRts mLns mOpn mTxt mAns mWys mSiz mNbs) H → va_S A s.heap H locs → lv_has ls 4 [(0, .ref (bd 0)), (1, .int p0), (2, .int p1), (3, .int p2)] → W p l e (rmN 2 46) s m args below meth c H locs 0 0 (MQ below (QI D (wM cI cB cZ bd mVil zmBad mFul mLen mSig zmWay mLef mSpo mBeg mTok mVal mWor mNum mThe mRts mLns mOpn mTxt mAns zmWys mSiz mNbs) A rv) args s 0 0 A) (F0 m 21 ls []) := by
    intro  H locs ls hf hP hS hl
    unfold fX9_way_J21 at hf
    refine lv_aload_n hx hb dX9_way_21 rfl (lv_at hl 0 rfl) ?_
    obtain ⟨⟨r_2, qmBad_3⟩, hq, hf⟩ := ob hf
    try dsimp only at hf
    refine mcVi 0 8 (As := []) (rest := []) ⟨hx, hb, hml, hown, hts⟩ (ctX9_refuse l D cI cB cZ bd A hAD mVil mBad mFul mLen mSig mWay mLef mSpo mBeg mTok mVal mWor mNum mThe mRts mLns mOpn mTxt mAns mWys mSiz mNbs  r_2 qmBad_3 hq) (cwV 0 hts gX9_way_X9_refuse rfl rfl rfl (by decide +kernel) ⟨Nat.le_of_ble_eq_true rfl, Nat.le_of_ble_eq_true rfl⟩) hK hP hS rfl rfl rfl hl.1 rfl (Nat.le_of_ble_eq_true rfl) dX9_way_22 ⟨Nat.zero_le _, Nat.zero_le _⟩ (fun H locs hP hS => ?_)
    refine lv_pop hx hb dX9_way_25 rfl ?_
    refine lv_bipush (v := (-10 : Int32)) hx hb dX9_way_26 (by decide) ?_
    obtain ⟨e0, hz1⟩ := Prod.mk.inj (Option.some.inj hf)
    obtain ⟨e1, hz2⟩ := Prod.mk.inj hz1
    obtain ⟨e2, hz3⟩ := Prod.mk.inj hz2
    subst e0
    subst e1
    subst e2
    subst hz3
    exact rm_i hx hb hr hlk hP hS dX9_way_28
  refine lv_if_eq (tgt := 21) hx hb dX9_way_5 (by decide) (fun hc => ?_) (fun hc => ?_)
  · replace hf := (if_pos hc).symm.trans hf
    exact hJ21  _ _ _ hf hP hS (lv_sub hl [0, 1, 2, 3] rfl)
  · replace hf := (if_neg hc).symm.trans hf
    refine lv_aload_n hx hb dX9_way_8 rfl (lv_at hl 0 rfl) ?_
    refine lv_iload_n hx hb dX9_way_9 rfl (lv_at hl 2 rfl) ?_
    obtain ⟨r_4, hq, hf⟩ := ob hf
    try dsimp only at hf
    refine rcV 0 8 (As := [.int p1]) (rest := []) ⟨hx, hb, hml, hown, hts⟩ (ctX9_isVillage l D cI cB cZ bd mVil mBad mFul mLen mSig mWay mLef mSpo mBeg mTok mVal mWor mNum mThe mRts mLns mOpn mTxt mAns mWys mSiz mNbs p1 r_4 hq) (cwV 1 hts gX9_way_X9_isVillage rfl rfl rfl (by decide +kernel) ⟨Nat.le_of_ble_eq_true rfl, Nat.le_of_ble_eq_true rfl⟩) hK hP rfl rfl rfl hl.1 rfl (Nat.le_of_ble_eq_true rfl) dX9_way_10 ⟨Nat.zero_le _, Nat.zero_le _⟩ ?_
    refine lv_if_eq (tgt := 21) hx hb dX9_way_13 (by decide) (fun hc => ?_) (fun hc => ?_)
    · replace hf := (if_pos hc).symm.trans hf
      exact hJ21  _ _ _ hf hP hS (lv_sub hl [0, 1, 2, 3] rfl)
    · replace hf := (if_neg hc).symm.trans hf
      refine lv_iload_n hx hb dX9_way_16 rfl (lv_at hl 3 rfl) ?_
      refine lv_iconst (v := (-1 : Int32)) hx hb dX9_way_17 (by decide) ?_
      refine lv_icmp_ge (tgt := 29) hx hb dX9_way_18 (by decide) (fun hc => ?_) (fun hc => ?_)
      · replace hf := (if_pos hc).symm.trans hf
        refine lv_aload_n hx hb dX9_way_29 rfl (lv_at hl 0 rfl) ?_
        refine lv_iload_n hx hb dX9_way_30 rfl (lv_at hl 1 rfl) ?_
        refine lv_iload_n hx hb dX9_way_31 rfl (lv_at hl 2 rfl) ?_
        obtain ⟨⟨qmWay_5, qmWys_6⟩, hq, hf⟩ := ob hf
        try dsimp only at hf
        refine mcVv 0 8 (As := [.int p0, .int p1]) (rest := []) ⟨hx, hb, hml, hown, hts⟩ (ctX9_findWay l D cI cB cZ bd A hAD mVil mBad mFul mLen mSig mWay mLef mSpo mBeg mTok mVal mWor mNum mThe mRts mLns mOpn mTxt mAns mWys mSiz mNbs p0 p1 qmWay_5 qmWys_6 hq) (cwV 2 hts gX9_way_X9_findWay rfl rfl rfl (by decide +kernel) ⟨Nat.le_of_ble_eq_true rfl, Nat.le_of_ble_eq_true rfl⟩) hK hP hS rfl rfl rfl hl.1 rfl (Nat.le_of_ble_eq_true rfl) dX9_way_32 ⟨Nat.zero_le _, Nat.zero_le _⟩ (fun H locs hP hS => ?_)
        refine lv_iload_n hx hb dX9_way_35 rfl (lv_at hl 3 rfl) ?_
        refine lv_iconst (v := (-1 : Int32)) hx hb dX9_way_36 (by decide) ?_
        refine lv_icmp_ne (tgt := 47) hx hb dX9_way_37 (by decide) (fun hc => ?_) (fun hc => ?_)
        · replace hf := (if_neg hc).symm.trans hf
          refine lv_iload_n hx hb dX9_way_47 rfl (lv_at hl 3 rfl) ?_
          refine lv_aload_n hx hb dX9_way_48 rfl (lv_at hl 0 rfl) ?_
          refine va_get (ci := 8) (v := .int qmWay_5) (C := RX9) (T := TX9) (N := 22) hx hb hts hiX9 hown hK hP 0 rfl rfl 10 (by decide) (hts _ (List.mem_of_getElem? (i := 1) rfl)) (fun _ h9 => h9) rfl dX9_way_49 ?_
          refine lv_icmp_ge (tgt := 64) hx hb dX9_way_52 (by decide) (fun hc => ?_) (fun hc => ?_)
          · replace hf := (if_pos hc).symm.trans hf
            refine lv_bipush (v := (-5 : Int32)) hx hb dX9_way_64 (by decide) ?_
            obtain ⟨e0, hz1⟩ := Prod.mk.inj (Option.some.inj hf)
            obtain ⟨e1, hz2⟩ := Prod.mk.inj hz1
            obtain ⟨e2, hz3⟩ := Prod.mk.inj hz2
            subst e0
            subst e1
            subst e2
            subst hz3
            exact rm_i hx hb hr hlk hP hS dX9_way_66
          · replace hf := (if_neg hc).symm.trans hf
            refine lv_aload_n hx hb dX9_way_55 rfl (lv_at hl 0 rfl) ?_
            refine va_get (ci := 8) (v := .ref (bd 6)) (C := RX9) (T := TX9) (N := 22) hx hb hts hiX9 hown hK hP 0 rfl rfl 11 (by decide) (hts _ (List.mem_of_getElem? (i := 2) rfl)) (fun _ h9 => h9) rfl dX9_way_56 ?_
            refine lv_iload_n hx hb dX9_way_59 rfl (lv_at hl 3 rfl) ?_
            obtain ⟨hg, hf⟩ := og hf
            refine va_iald hx hb hK hP 6 0 rfl rfl (gI_in hg) dX9_way_60 ?_
            refine lv_goto (tgt := 66) hx hb dX9_way_61 (by decide) ?_
            obtain ⟨e0, hz1⟩ := Prod.mk.inj (Option.some.inj hf)
            obtain ⟨e1, hz2⟩ := Prod.mk.inj hz1
            obtain ⟨e2, hz3⟩ := Prod.mk.inj hz2
            subst e0
            subst e1
            subst e2
            subst hz3
            exact rm_i hx hb hr hlk hP hS dX9_way_66
        · replace hf := (if_pos hc).symm.trans hf
          refine lv_aload_n hx hb dX9_way_40 rfl (lv_at hl 0 rfl) ?_
          refine va_get (ci := 8) (v := .int qmWay_5) (C := RX9) (T := TX9) (N := 22) hx hb hts hiX9 hown hK hP 0 rfl rfl 10 (by decide) (hts _ (List.mem_of_getElem? (i := 1) rfl)) (fun _ h9 => h9) rfl dX9_way_41 ?_
          refine lv_goto (tgt := 66) hx hb dX9_way_44 (by decide) ?_
          obtain ⟨e0, hz1⟩ := Prod.mk.inj (Option.some.inj hf)
          obtain ⟨e1, hz2⟩ := Prod.mk.inj hz1
          obtain ⟨e2, hz3⟩ := Prod.mk.inj hz2
          subst e0
          subst e1
          subst e2
          subst hz3
          exact rm_i hx hb hr hlk hP hS dX9_way_66
      · replace hf := (if_neg hc).symm.trans hf
        exact hJ21  _ _ _ hf hP hS (lv_sub hl [0, 1, 2, 3] rfl)

def fX9_farthest_J32 (v3_2 : Int32) (kk : (Int32 × Int32) → Option (Int32 × Int32)) (t_4 : Int32) : Option (Int32 × Int32) :=
  (kk (t_4, (v3_2 + (1 : Int32))))
def fX9_farthest_L4 (mVil : Int32) (mRts : Nat → Int32) (mLns : Nat → Int32) (p0 : Int32) (kk : (Int32 × Int32) → Option (Int32 × Int32)) (ww : Int32 × Int32) : Option (Int32 × Int32) :=
  match ww with
  | (v2_1, v3_2) => (if mVil ≤ v3_2 then (some (v2_1, v3_2)) else ((fX9_farFrom mRts mLns p0 v3_2).bind fun r_3 => (if r_3 ≤ v2_1 then (fX9_farthest_J32 v3_2 kk v2_1) else (fX9_farthest_J32 v3_2 kk r_3))))
def fX9_farthest (mVil : Int32) (mRts : Nat → Int32) (mLns : Nat → Int32) (p0 : Int32) : Option (Int32) :=
  ((lp (fX9_farthest_L4 mVil mRts mLns p0) FU ((0 : Int32), (0 : Int32))).bind fun (ov2_1, ov3_2) => (some ov2_1))
set_option maxRecDepth 100000 in
set_option maxHeartbeats 4000000 in
theorem ctX9_farthest (l : Launch) (D : va_G) (cI cB cZ : ClassId) (bd : Nat → Nat) (mVil mBad mFul mLen mSig mWay mLef mSpo mBeg mTok mVal mWor mNum mThe : Int32) (mRts mLns mOpn mTxt mAns mWys mSiz mNbs : Nat → Int32) (p0 : Int32) (rv : Int32) (hf : fX9_farthest mVil mRts mLns p0 = some rv) : Met l yX9_farthest wsX9_farthest (rmN 1 25) (PR D (tyL cI cB cZ) (wM cI cB cZ bd mVil mBad mFul mLen mSig mWay mLef mSpo mBeg mTok mVal mWor mNum mThe mRts mLns mOpn mTxt mAns mWys mSiz mNbs) [.ref (bd 0), .int p0]) (SI rv) 0 0 (fun _ => False) := by
  refine mk_met cX9_farthest 5 (some .int) (by decide) rfl (Nat.le_of_ble_eq_true rfl) ?_
  intro p e s m args below meth c ls hx hb hr hlk hml hown hts hPK hl
  obtain ⟨hP, hK⟩ := hPK
  replace hl : lv_has ls 5 [(0, .ref (bd 0)), (1, .int p0)] := hl
  replace hown : s.vm.findClass RX9 = some m.cls := hown
  have hiX9 : ∀ w ∈ wsX90, w ∈ wsX9_farthest := fun w h => List.mem_cons_of_mem _ (List.mem_append_right _ h)
  unfold fX9_farthest at hf
  refine lv_iconst (v := (0 : Int32)) hx hb dX9_farthest_0 (by decide) ?_
  refine lv_istore_n (lv' := [(2, .int (0 : Int32)), (0, .ref (bd 0)), (1, .int p0)]) hx hb dX9_farthest_1 rfl hl (by decide) rfl (fun ls hl => ?_)
  refine lv_iconst (v := (0 : Int32)) hx hb dX9_farthest_2 (by decide) ?_
  refine lv_istore_n (lv' := [(3, .int (0 : Int32)), (2, .int (0 : Int32)), (0, .ref (bd 0)), (1, .int p0)]) hx hb dX9_farthest_3 rfl hl (by decide) rfl (fun ls hl => ?_)
  have hL4 : ∀ (n : Nat) (v2_1 : Int32) (v3_2 : Int32) (ov2_1 : Int32) (ov3_2 : Int32) (ls : Array Slot), lp (fX9_farthest_L4 mVil mRts mLns p0) n (v2_1, v3_2) = some (ov2_1, ov3_2) → lv_has ls 5 [(0, .ref (bd 0)), (1, .int p0), (2, .int v2_1), (3, .int v3_2)] → (∀ (ls : Array Slot), lv_has ls 5 [(0, .ref (bd 0)), (1, .int p0), (2, .int ov2_1), (3, .int ov3_2)] → W p l e (rmN 1 25) s m args below meth c s.heap [] 0 0 (MQ below (SI rv) args s 0 0 (fun _ => False)) (F0 m 39 ls [])) → W p l e (rmN 1 25) s m args below meth c s.heap [] 0 0 (MQ below (SI rv) args s 0 0 (fun _ => False)) (F0 m 4 ls []) := by
    intro n
    induction n with
    | zero => intro v2_1 v3_2 ov2_1 ov3_2 ls hf; exact (lp_0 hf).elim
    | succ n ih =>
      intro v2_1 v3_2 ov2_1 ov3_2 ls hf hl hE
      replace hf := lp_s hf
      dsimp only [fX9_farthest_L4] at hf
      refine lv_iload_n hx hb dX9_farthest_4 rfl (lv_at hl 3 rfl) ?_
      refine lv_aload_n hx hb dX9_farthest_5 rfl (lv_at hl 0 rfl) ?_
      refine va_get (ci := 8) (v := .int mVil) (C := RX9) (T := TX9) (N := 22) hx hb hts hiX9 hown hK hP 0 rfl rfl 0 (by decide) (hts _ (List.mem_of_getElem? (i := 1) rfl)) (fun _ h9 => h9) rfl dX9_farthest_6 ?_
      refine lv_icmp_ge (tgt := 39) hx hb dX9_farthest_9 (by decide) (fun hc => ?_) (fun hc => ?_)
      · replace hf := (if_pos hc).symm.trans hf
        cases hf
        exact hE _ (lv_sub hl [0, 1, 2, 3] rfl)
      · replace hf := (if_neg hc).symm.trans hf
        refine lv_aload_n hx hb dX9_farthest_12 rfl (lv_at hl 0 rfl) ?_
        refine lv_iload_n hx hb dX9_farthest_13 rfl (lv_at hl 1 rfl) ?_
        refine lv_iload_n hx hb dX9_farthest_14 rfl (lv_at hl 3 rfl) ?_
        obtain ⟨r_3, hq, hf⟩ := ob hf
        try dsimp only at hf
        refine rcV 0 8 (As := [.int p0, .int v3_2]) (rest := []) ⟨hx, hb, hml, hown, hts⟩ (ctX9_farFrom l D cI cB cZ bd mVil mBad mFul mLen mSig mWay mLef mSpo mBeg mTok mVal mWor mNum mThe mRts mLns mOpn mTxt mAns mWys mSiz mNbs p0 v3_2 r_3 hq) (cwV 2 hts gX9_farthest_X9_farFrom rfl rfl rfl (by decide +kernel) ⟨Nat.le_of_ble_eq_true rfl, Nat.le_of_ble_eq_true rfl⟩) hK hP rfl rfl rfl hl.1 rfl (Nat.le_of_ble_eq_true rfl) dX9_farthest_15 ⟨Nat.zero_le _, Nat.zero_le _⟩ ?_
        refine lv_istore (lv' := [(4, .int r_3), (0, .ref (bd 0)), (1, .int p0), (2, .int v2_1), (3, .int v3_2)]) hx hb dX9_farthest_18 hl (by decide) rfl (fun ls hl => ?_)
        refine lv_iload hx hb dX9_farthest_20 (lv_at hl 0 rfl) ?_
        refine lv_iload_n hx hb dX9_farthest_22 rfl (lv_at hl 3 rfl) ?_
        have hJ32 : ∀ (t_4 : Int32) (ls : Array Slot), fX9_farthest_J32 v3_2 (lp (fX9_farthest_L4 mVil mRts mLns p0) n) t_4 = some (ov2_1, ov3_2) → lv_has ls 5 [(0, .ref (bd 0)), (1, .int p0), (2, .int v2_1), (3, .int v3_2), (4, .int r_3)] → W p l e (rmN 1 25) s m args below meth c s.heap [] 0 0 (MQ below (SI rv) args s 0 0 (fun _ => False)) (F0 m 32 ls [.int t_4]) := by
          intro t_4 ls hf hl
          unfold fX9_farthest_J32 at hf
          refine lv_istore_n (lv' := [(2, .int t_4), (0, .ref (bd 0)), (1, .int p0), (3, .int v3_2), (4, .int r_3)]) hx hb dX9_farthest_32 rfl hl (by decide) rfl (fun ls hl => ?_)
          refine lv_iinc (v := (v3_2 + (1 : Int32))) (lv' := [(3, .int (v3_2 + (1 : Int32))), (2, .int t_4), (0, .ref (bd 0)), (1, .int p0), (4, .int r_3)]) hx hb dX9_farthest_33 hl (k := 3) rfl rfl (by decide) rfl (fun ls hl => ?_)
          refine lv_goto (tgt := 4) hx hb dX9_farthest_36 (by decide) ?_
          exact ih _ _ _ _ _ hf (lv_sub hl [2, 3, 1, 0] rfl) hE
        refine lv_icmp_le (tgt := 31) hx hb dX9_farthest_23 (by decide) (fun hc => ?_) (fun hc => ?_)
        · replace hf := (if_pos hc).symm.trans hf
          refine lv_iload_n hx hb dX9_farthest_31 rfl (lv_at hl 3 rfl) ?_
          exact hJ32 _ _ hf (lv_sub hl [1, 2, 3, 4, 0] rfl)
        · replace hf := (if_neg hc).symm.trans hf
          refine lv_iload hx hb dX9_farthest_26 (lv_at hl 0 rfl) ?_
          refine lv_goto (tgt := 32) hx hb dX9_farthest_28 (by decide) ?_
          exact hJ32 _ _ hf (lv_sub hl [1, 2, 3, 4, 0] rfl)
  obtain ⟨⟨ov2_1, ov3_2⟩, hq, hf⟩ := ob hf
  try dsimp only at hf
  refine hL4 FU _ _ ov2_1 ov3_2 ls hq (lv_sub hl [2, 3, 1, 0] rfl) (fun ls hl => ?_)
  refine lv_iload_n hx hb dX9_farthest_39 rfl (lv_at hl 2 rfl) ?_
  exact re_i hx hb hr hlk dX9_farthest_40 hf

def fX9_longest_J66 (v4_4 : Int32) (kk : (Int32 × Int32 × Int32) → Option (Int32 × Int32 × Int32)) (t_6 : Int32) (t_7 : Int32) : Option (Int32 × Int32 × Int32) :=
  (kk (t_7, t_6, (v4_4 + (1 : Int32))))
def fX9_longest_J53 (v2_2 : Int32) (v4_4 : Int32) (kk : (Int32 × Int32 × Int32) → Option (Int32 × Int32 × Int32)) (r_5 : Int32) (t_6 : Int32) : Option (Int32 × Int32 × Int32) :=
  (if r_5 ≤ v2_2 then (fX9_longest_J66 v4_4 kk t_6 v2_2) else (fX9_longest_J66 v4_4 kk t_6 r_5))
def fX9_longest_L24 (mVil : Int32) (mRts : Nat → Int32) (mLns : Nat → Int32) (kk : (Int32 × Int32 × Int32) → Option (Int32 × Int32 × Int32)) (ww : Int32 × Int32 × Int32) : Option (Int32 × Int32 × Int32) :=
  match ww with
  | (v2_2, v3_3, v4_4) => (if mVil ≤ v4_4 then (some (v2_2, v3_3, v4_4)) else ((fX9_farthest mVil mRts mLns v4_4).bind fun r_5 => (if r_5 ≤ v2_2 then (fX9_longest_J53 v2_2 v4_4 kk r_5 v3_3) else (fX9_longest_J53 v2_2 v4_4 kk r_5 v4_4))))
def fX9_longest_L76 (mRts : Nat → Int32) (mLns : Nat → Int32) (ov2_2 : Int32) (ov3_3 : Int32) (kk : (Int32) → Option (Int32)) (v4_8 : Int32) : Option (Int32) :=
  ((fX9_farFrom mRts mLns ov3_3 v4_8).bind fun r_9 => (if r_9 = ov2_2 then (some v4_8) else (kk (v4_8 + (1 : Int32)))))
def fX9_longest (mVil : Int32) (mBad : Int32) (mRts : Nat → Int32) (mLns : Nat → Int32) (p0 : Int32) : Option (Int32 × Int32) :=
  ((fX9_in (p0).toInt64 (0 : Int64) (2 : Int64)).bind fun r_1 => (if r_1 = 0 then ((fX9_refuse mBad).bind fun (r_10, qmBad_11) => (some (r_10, qmBad_11))) else ((lp (fX9_longest_L24 mVil mRts mLns) FU ((0 : Int32), (0 : Int32), (0 : Int32))).bind fun (ov2_2, ov3_3, ov4_4) => ((lp (fX9_longest_L76 mRts mLns ov2_2 ov3_3) FU (0 : Int32)).bind fun ov4_8 => (if p0 = 0 then (some (ov2_2, mBad)) else (if p0 = (1 : Int32) then (some (ov3_3, mBad)) else (some (ov4_8, mBad))))))))
set_option maxRecDepth 100000 in
set_option maxHeartbeats 4000000 in
theorem ctX9_longest (l : Launch) (D : va_G) (cI cB cZ : ClassId) (bd : Nat → Nat) (A : Nat → Prop) (hAD : AD A bd 9) (mVil mBad mFul mLen mSig mWay mLef mSpo mBeg mTok mVal mWor mNum mThe : Int32) (mRts mLns mOpn mTxt mAns mWys mSiz mNbs : Nat → Int32) (p0 : Int32) (rv : Int32) (zmBad : Int32) (hf : fX9_longest mVil mBad mRts mLns p0 = some (rv, zmBad)) : Met l yX9_longest wsX9_longest (rmN 2 49) (PR D (tyL cI cB cZ) (wM cI cB cZ bd mVil mBad mFul mLen mSig mWay mLef mSpo mBeg mTok mVal mWor mNum mThe mRts mLns mOpn mTxt mAns mWys mSiz mNbs) [.ref (bd 0), .int p0]) (QI D (wM cI cB cZ bd mVil zmBad mFul mLen mSig mWay mLef mSpo mBeg mTok mVal mWor mNum mThe mRts mLns mOpn mTxt mAns mWys mSiz mNbs) A rv) 0 0 A := by
  refine mk_met cX9_longest 6 (some .int) (by decide) rfl (Nat.le_of_ble_eq_true rfl) ?_
  intro p e s m args below meth c ls hx hb hr hlk hml hown hts hPK hl
  obtain ⟨hP, hK⟩ := hPK
  replace hl : lv_has ls 6 [(0, .ref (bd 0)), (1, .int p0)] := hl
  replace hown : s.vm.findClass RX9 = some m.cls := hown
  have hiX9 : ∀ w ∈ wsX90, w ∈ wsX9_longest := fun w h => List.mem_cons_of_mem _ (List.mem_append_right _ h)
  have hS : va_S A s.heap s.heap [] := va_S.rf
  unfold fX9_longest at hf
  refine lv_iload_n hx hb dX9_longest_0 rfl (lv_at hl 1 rfl) ?_
  refine lv_i2l (v := (p0).toInt64) hx hb dX9_longest_1 rfl ?_
  refine lv_lconst (v := (0 : Int64)) hx hb dX9_longest_2 (by decide) ?_
  refine lv_ldc2 (v := (2 : Int64)) hx hb hown (hts _ (List.mem_of_getElem? (i := 1) rfl)) dX9_longest_3 ?_
  obtain ⟨r_1, hq, hf⟩ := ob hf
  try dsimp only at hf
  refine rcS (As := [.long (p0).toInt64, .long (0 : Int64), .long (2 : Int64)]) (rest := []) ⟨hx, hb, hml, hown, hts⟩ (ctX9_in l (p0).toInt64 (0 : Int64) (2 : Int64) r_1 hq) (va_cwS 3 hts gX9_longest_X9_in rfl rfl rfl (by decide +kernel) ⟨Nat.le_of_ble_eq_true rfl, Nat.le_of_ble_eq_true rfl⟩) rfl hl.1 rfl (Nat.le_of_ble_eq_true rfl) dX9_longest_6 ⟨Nat.zero_le _, Nat.zero_le _⟩ ?_
  refine lv_if_ne (tgt := 17) hx hb dX9_longest_9 (by decide) (fun hc => ?_) (fun hc => ?_)
  · replace hf := (if_neg hc).symm.trans hf
    refine lv_iconst (v := (0 : Int32)) hx hb dX9_longest_17 (by decide) ?_
    refine lv_istore_n (lv' := [(2, .int (0 : Int32)), (0, .ref (bd 0)), (1, .int p0)]) hx hb dX9_longest_18 rfl hl (by decide) rfl (fun ls hl => ?_)
    refine lv_iconst (v := (0 : Int32)) hx hb dX9_longest_19 (by decide) ?_
    refine lv_istore_n (lv' := [(3, .int (0 : Int32)), (2, .int (0 : Int32)), (0, .ref (bd 0)), (1, .int p0)]) hx hb dX9_longest_20 rfl hl (by decide) rfl (fun ls hl => ?_)
    refine lv_iconst (v := (0 : Int32)) hx hb dX9_longest_21 (by decide) ?_
    refine lv_istore (lv' := [(4, .int (0 : Int32)), (3, .int (0 : Int32)), (2, .int (0 : Int32)), (0, .ref (bd 0)), (1, .int p0)]) hx hb dX9_longest_22 hl (by decide) rfl (fun ls hl => ?_)
    have hL24 : ∀ (n : Nat) (v2_2 : Int32) (v3_3 : Int32) (v4_4 : Int32) (ov2_2 : Int32) (ov3_3 : Int32) (ov4_4 : Int32) (H : Heap) (locs : List Loc) (ls : Array Slot), lp (fX9_longest_L24 mVil mRts mLns) n (v2_2, v3_3, v4_4) = some (ov2_2, ov3_3, ov4_4) → va_P D vwCl (wM cI cB cZ bd mVil mBad mFul mLen mSig mWay mLef mSpo mBeg mTok mVal mWor mNum mThe mRts mLns mOpn mTxt mAns mWys mSiz mNbs) H → va_S A s.heap H locs → lv_has ls 6 [(0, .ref (bd 0)), (1, .int p0), (2, .int v2_2), (3, .int v3_3), (4, .int v4_4)] → (∀ (H : Heap) (locs : List Loc) (ls : Array Slot), va_P D vwCl (wM cI cB cZ bd mVil mBad mFul mLen mSig mWay mLef mSpo mBeg mTok mVal mWor mNum mThe mRts mLns mOpn mTxt mAns mWys mSiz mNbs) H → va_S A s.heap H locs → lv_has ls 6 [(0, .ref (bd 0)), (1, .int p0), (2, .int ov2_2), (3, .int ov3_3), (4, .int ov4_4)] → W p l e (rmN 2 49) s m args below meth c H locs 0 0 (MQ below (QI D (wM cI cB cZ bd mVil zmBad mFul mLen mSig mWay mLef mSpo mBeg mTok mVal mWor mNum mThe mRts mLns mOpn mTxt mAns mWys mSiz mNbs) A rv) args s 0 0 A) (F0 m 73 ls [])) → W p l e (rmN 2 49) s m args below meth c H locs 0 0 (MQ below (QI D (wM cI cB cZ bd mVil zmBad mFul mLen mSig mWay mLef mSpo mBeg mTok mVal mWor mNum mThe mRts mLns mOpn mTxt mAns mWys mSiz mNbs) A rv) args s 0 0 A) (F0 m 24 ls []) := by
      intro n
      induction n with
      | zero => intro v2_2 v3_3 v4_4 ov2_2 ov3_3 ov4_4 H locs ls hf; exact (lp_0 hf).elim
      | succ n ih =>
        intro v2_2 v3_3 v4_4 ov2_2 ov3_3 ov4_4 H locs ls hf hP hS hl hE
        replace hf := lp_s hf
        dsimp only [fX9_longest_L24] at hf
        refine lv_iload hx hb dX9_longest_24 (lv_at hl 4 rfl) ?_
        refine lv_aload_n hx hb dX9_longest_26 rfl (lv_at hl 0 rfl) ?_
        refine va_get (ci := 8) (v := .int mVil) (C := RX9) (T := TX9) (N := 22) hx hb hts hiX9 hown hK hP 0 rfl rfl 0 (by decide) (hts _ (List.mem_of_getElem? (i := 2) rfl)) (fun _ h9 => h9) rfl dX9_longest_27 ?_
        refine lv_icmp_ge (tgt := 73) hx hb dX9_longest_30 (by decide) (fun hc => ?_) (fun hc => ?_)
        · replace hf := (if_pos hc).symm.trans hf
          cases hf
          exact hE _ _ _ hP hS (lv_sub hl [0, 1, 2, 3, 4] rfl)
        · replace hf := (if_neg hc).symm.trans hf
          refine lv_aload_n hx hb dX9_longest_33 rfl (lv_at hl 0 rfl) ?_
          refine lv_iload hx hb dX9_longest_34 (lv_at hl 4 rfl) ?_
          obtain ⟨r_5, hq, hf⟩ := ob hf
          try dsimp only at hf
          refine rcV 0 8 (As := [.int v4_4]) (rest := []) ⟨hx, hb, hml, hown, hts⟩ (ctX9_farthest l D cI cB cZ bd mVil mBad mFul mLen mSig mWay mLef mSpo mBeg mTok mVal mWor mNum mThe mRts mLns mOpn mTxt mAns mWys mSiz mNbs v4_4 r_5 hq) (cwV 1 hts gX9_longest_X9_farthest rfl rfl rfl (by decide +kernel) ⟨Nat.le_of_ble_eq_true rfl, Nat.le_of_ble_eq_true rfl⟩) hK hP rfl rfl rfl hl.1 rfl (Nat.le_of_ble_eq_true rfl) dX9_longest_36 ⟨Nat.zero_le _, Nat.zero_le _⟩ ?_
          refine lv_istore (lv' := [(5, .int r_5), (0, .ref (bd 0)), (1, .int p0), (2, .int v2_2), (3, .int v3_3), (4, .int v4_4)]) hx hb dX9_longest_39 hl (by decide) rfl (fun ls hl => ?_)
          refine lv_iload hx hb dX9_longest_41 (lv_at hl 0 rfl) ?_
          refine lv_iload_n hx hb dX9_longest_43 rfl (lv_at hl 3 rfl) ?_
          have hJ53 : ∀ (t_6 : Int32) (H : Heap) (locs : List Loc) (ls : Array Slot), fX9_longest_J53 v2_2 v4_4 (lp (fX9_longest_L24 mVil mRts mLns) n) r_5 t_6 = some (ov2_2, ov3_3, ov4_4) → va_P D vwCl (wM cI cB cZ bd mVil mBad mFul mLen mSig mWay mLef mSpo mBeg mTok mVal mWor mNum mThe mRts mLns mOpn mTxt mAns mWys mSiz mNbs) H → va_S A s.heap H locs → lv_has ls 6 [(0, .ref (bd 0)), (1, .int p0), (2, .int v2_2), (3, .int v3_3), (4, .int v4_4), (5, .int r_5)] → W p l e (rmN 2 49) s m args below meth c H locs 0 0 (MQ below (QI D (wM cI cB cZ bd mVil zmBad mFul mLen mSig mWay mLef mSpo mBeg mTok mVal mWor mNum mThe mRts mLns mOpn mTxt mAns mWys mSiz mNbs) A rv) args s 0 0 A) (F0 m 53 ls [.int t_6]) := by
            intro t_6 H locs ls hf hP hS hl
            unfold fX9_longest_J53 at hf
            refine lv_istore_n (lv' := [(3, .int t_6), (0, .ref (bd 0)), (1, .int p0), (2, .int v2_2), (4, .int v4_4), (5, .int r_5)]) hx hb dX9_longest_53 rfl hl (by decide) rfl (fun ls hl => ?_)
            refine lv_iload hx hb dX9_longest_54 (lv_at hl 5 rfl) ?_
            refine lv_iload_n hx hb dX9_longest_56 rfl (lv_at hl 3 rfl) ?_
            have hJ66 : ∀ (t_7 : Int32) (H : Heap) (locs : List Loc) (ls : Array Slot), fX9_longest_J66 v4_4 (lp (fX9_longest_L24 mVil mRts mLns) n) t_6 t_7 = some (ov2_2, ov3_3, ov4_4) → va_P D vwCl (wM cI cB cZ bd mVil mBad mFul mLen mSig mWay mLef mSpo mBeg mTok mVal mWor mNum mThe mRts mLns mOpn mTxt mAns mWys mSiz mNbs) H → va_S A s.heap H locs → lv_has ls 6 [(0, .ref (bd 0)), (1, .int p0), (2, .int v2_2), (3, .int t_6), (4, .int v4_4), (5, .int r_5)] → W p l e (rmN 2 49) s m args below meth c H locs 0 0 (MQ below (QI D (wM cI cB cZ bd mVil zmBad mFul mLen mSig mWay mLef mSpo mBeg mTok mVal mWor mNum mThe mRts mLns mOpn mTxt mAns mWys mSiz mNbs) A rv) args s 0 0 A) (F0 m 66 ls [.int t_7]) := by
              intro t_7 H locs ls hf hP hS hl
              unfold fX9_longest_J66 at hf
              refine lv_istore_n (lv' := [(2, .int t_7), (0, .ref (bd 0)), (1, .int p0), (3, .int t_6), (4, .int v4_4), (5, .int r_5)]) hx hb dX9_longest_66 rfl hl (by decide) rfl (fun ls hl => ?_)
              refine lv_iinc (v := (v4_4 + (1 : Int32))) (lv' := [(4, .int (v4_4 + (1 : Int32))), (2, .int t_7), (0, .ref (bd 0)), (1, .int p0), (3, .int t_6), (5, .int r_5)]) hx hb dX9_longest_67 hl (k := 4) rfl rfl (by decide) rfl (fun ls hl => ?_)
              refine lv_goto (tgt := 24) hx hb dX9_longest_70 (by decide) ?_
              exact ih _ _ _ _ _ _ _ _ _ hf hP hS (lv_sub hl [2, 3, 1, 4, 0] rfl) hE
            refine lv_icmp_le (tgt := 65) hx hb dX9_longest_57 (by decide) (fun hc => ?_) (fun hc => ?_)
            · replace hf := (if_pos hc).symm.trans hf
              refine lv_iload_n hx hb dX9_longest_65 rfl (lv_at hl 3 rfl) ?_
              exact hJ66 _ _ _ _ hf hP hS (lv_sub hl [1, 2, 3, 0, 4, 5] rfl)
            · replace hf := (if_neg hc).symm.trans hf
              refine lv_iload hx hb dX9_longest_60 (lv_at hl 5 rfl) ?_
              refine lv_goto (tgt := 66) hx hb dX9_longest_62 (by decide) ?_
              exact hJ66 _ _ _ _ hf hP hS (lv_sub hl [1, 2, 3, 0, 4, 5] rfl)
          refine lv_icmp_le (tgt := 52) hx hb dX9_longest_44 (by decide) (fun hc => ?_) (fun hc => ?_)
          · replace hf := (if_pos hc).symm.trans hf
            refine lv_iload_n hx hb dX9_longest_52 rfl (lv_at hl 4 rfl) ?_
            exact hJ53 _ _ _ _ hf hP hS (lv_sub hl [1, 2, 3, 4, 5, 0] rfl)
          · replace hf := (if_neg hc).symm.trans hf
            refine lv_iload hx hb dX9_longest_47 (lv_at hl 5 rfl) ?_
            refine lv_goto (tgt := 53) hx hb dX9_longest_49 (by decide) ?_
            exact hJ53 _ _ _ _ hf hP hS (lv_sub hl [1, 2, 3, 4, 5, 0] rfl)
    obtain ⟨⟨ov2_2, ov3_3, ov4_4⟩, hq, hf⟩ := ob hf
    try dsimp only at hf
    refine hL24 FU _ _ _ ov2_2 ov3_3 ov4_4 _ _ ls hq hP hS (lv_sub hl [3, 4, 2, 1, 0] rfl) (fun H locs ls hP hS hl => ?_)
    refine lv_iconst (v := (0 : Int32)) hx hb dX9_longest_73 (by decide) ?_
    refine lv_istore (lv' := [(4, .int (0 : Int32)), (0, .ref (bd 0)), (1, .int p0), (2, .int ov2_2), (3, .int ov3_3)]) hx hb dX9_longest_74 hl (by decide) rfl (fun ls hl => ?_)
    have hL76 : ∀ (n : Nat) (v4_8 : Int32) (ov4_8 : Int32) (H : Heap) (locs : List Loc) (ls : Array Slot), lp (fX9_longest_L76 mRts mLns ov2_2 ov3_3) n v4_8 = some ov4_8 → va_P D vwCl (wM cI cB cZ bd mVil mBad mFul mLen mSig mWay mLef mSpo mBeg mTok mVal mWor mNum mThe mRts mLns mOpn mTxt mAns mWys mSiz mNbs) H → va_S A s.heap H locs → lv_has ls 6 [(0, .ref (bd 0)), (1, .int p0), (2, .int ov2_2), (3, .int ov3_3), (4, .int v4_8)] → (∀ (H : Heap) (locs : List Loc) (ls : Array Slot), va_P D vwCl (wM cI cB cZ bd mVil mBad mFul mLen mSig mWay mLef mSpo mBeg mTok mVal mWor mNum mThe mRts mLns mOpn mTxt mAns mWys mSiz mNbs) H → va_S A s.heap H locs → lv_has ls 6 [(0, .ref (bd 0)), (1, .int p0), (2, .int ov2_2), (3, .int ov3_3), (4, .int ov4_8)] → W p l e (rmN 2 49) s m args below meth c H locs 0 0 (MQ below (QI D (wM cI cB cZ bd mVil zmBad mFul mLen mSig mWay mLef mSpo mBeg mTok mVal mWor mNum mThe mRts mLns mOpn mTxt mAns mWys mSiz mNbs) A rv) args s 0 0 A) (F0 m 93 ls [])) → W p l e (rmN 2 49) s m args below meth c H locs 0 0 (MQ below (QI D (wM cI cB cZ bd mVil zmBad mFul mLen mSig mWay mLef mSpo mBeg mTok mVal mWor mNum mThe mRts mLns mOpn mTxt mAns mWys mSiz mNbs) A rv) args s 0 0 A) (F0 m 76 ls []) := by
      intro n
      induction n with
      | zero => intro v4_8 ov4_8 H locs ls hf; exact (lp_0 hf).elim
      | succ n ih =>
        intro v4_8 ov4_8 H locs ls hf hP hS hl hE
        replace hf := lp_s hf
        dsimp only [fX9_longest_L76] at hf
        refine lv_aload_n hx hb dX9_longest_76 rfl (lv_at hl 0 rfl) ?_
        refine lv_iload_n hx hb dX9_longest_77 rfl (lv_at hl 3 rfl) ?_
        refine lv_iload hx hb dX9_longest_78 (lv_at hl 4 rfl) ?_
        obtain ⟨r_9, hq, hf⟩ := ob hf
        try dsimp only at hf
        refine rcV 0 8 (As := [.int ov3_3, .int v4_8]) (rest := []) ⟨hx, hb, hml, hown, hts⟩ (ctX9_farFrom l D cI cB cZ bd mVil mBad mFul mLen mSig mWay mLef mSpo mBeg mTok mVal mWor mNum mThe mRts mLns mOpn mTxt mAns mWys mSiz mNbs ov3_3 v4_8 r_9 hq) (cwV 2 hts gX9_longest_X9_farFrom rfl rfl rfl (by decide +kernel) ⟨Nat.le_of_ble_eq_true rfl, Nat.le_of_ble_eq_true rfl⟩) hK hP rfl rfl rfl hl.1 rfl (Nat.le_of_ble_eq_true rfl) dX9_longest_80 ⟨Nat.zero_le _, Nat.zero_le _⟩ ?_
        refine lv_iload_n hx hb dX9_longest_83 rfl (lv_at hl 2 rfl) ?_
        refine lv_icmp_eq (tgt := 93) hx hb dX9_longest_84 (by decide) (fun hc => ?_) (fun hc => ?_)
        · replace hf := (if_pos hc).symm.trans hf
          cases hf
          exact hE _ _ _ hP hS (lv_sub hl [0, 1, 2, 3, 4] rfl)
        · replace hf := (if_neg hc).symm.trans hf
          refine lv_iinc (v := (v4_8 + (1 : Int32))) (lv' := [(4, .int (v4_8 + (1 : Int32))), (0, .ref (bd 0)), (1, .int p0), (2, .int ov2_2), (3, .int ov3_3)]) hx hb dX9_longest_87 hl (k := 4) rfl rfl (by decide) rfl (fun ls hl => ?_)
          refine lv_goto (tgt := 76) hx hb dX9_longest_90 (by decide) ?_
          exact ih _ _ _ _ _ hf hP hS (lv_sub hl [1, 2, 3, 4, 0] rfl) hE
    obtain ⟨ov4_8, hq, hf⟩ := ob hf
    try dsimp only at hf
    refine hL76 FU _ ov4_8 _ _ ls hq hP hS (lv_sub hl [1, 2, 3, 4, 0] rfl) (fun H locs ls hP hS hl => ?_)
    refine lv_iload_n hx hb dX9_longest_93 rfl (lv_at hl 1 rfl) ?_
    refine lv_if_ne (tgt := 101) hx hb dX9_longest_94 (by decide) (fun hc => ?_) (fun hc => ?_)
    · replace hf := (if_neg hc).symm.trans hf
      refine lv_iload_n hx hb dX9_longest_101 rfl (lv_at hl 1 rfl) ?_
      refine lv_iconst (v := (1 : Int32)) hx hb dX9_longest_102 (by decide) ?_
      refine lv_icmp_ne (tgt := 110) hx hb dX9_longest_103 (by decide) (fun hc => ?_) (fun hc => ?_)
      · replace hf := (if_neg hc).symm.trans hf
        refine lv_iload hx hb dX9_longest_110 (lv_at hl 4 rfl) ?_
        obtain ⟨e0, hz1⟩ := Prod.mk.inj (Option.some.inj hf)
        subst e0
        subst hz1
        exact rm_i hx hb hr hlk hP hS dX9_longest_112
      · replace hf := (if_pos hc).symm.trans hf
        refine lv_iload_n hx hb dX9_longest_106 rfl (lv_at hl 3 rfl) ?_
        refine lv_goto (tgt := 112) hx hb dX9_longest_107 (by decide) ?_
        obtain ⟨e0, hz1⟩ := Prod.mk.inj (Option.some.inj hf)
        subst e0
        subst hz1
        exact rm_i hx hb hr hlk hP hS dX9_longest_112
    · replace hf := (if_pos hc).symm.trans hf
      refine lv_iload_n hx hb dX9_longest_97 rfl (lv_at hl 2 rfl) ?_
      refine lv_goto (tgt := 112) hx hb dX9_longest_98 (by decide) ?_
      obtain ⟨e0, hz1⟩ := Prod.mk.inj (Option.some.inj hf)
      subst e0
      subst hz1
      exact rm_i hx hb hr hlk hP hS dX9_longest_112
  · replace hf := (if_pos hc).symm.trans hf
    refine lv_aload_n hx hb dX9_longest_12 rfl (lv_at hl 0 rfl) ?_
    obtain ⟨⟨r_10, qmBad_11⟩, hq, hf⟩ := ob hf
    try dsimp only at hf
    refine mcVi 0 8 (As := []) (rest := []) ⟨hx, hb, hml, hown, hts⟩ (ctX9_refuse l D cI cB cZ bd A hAD mVil mBad mFul mLen mSig mWay mLef mSpo mBeg mTok mVal mWor mNum mThe mRts mLns mOpn mTxt mAns mWys mSiz mNbs  r_10 qmBad_11 hq) (cwV 0 hts gX9_longest_X9_refuse rfl rfl rfl (by decide +kernel) ⟨Nat.le_of_ble_eq_true rfl, Nat.le_of_ble_eq_true rfl⟩) hK hP hS rfl rfl rfl hl.1 rfl (Nat.le_of_ble_eq_true rfl) dX9_longest_13 ⟨Nat.zero_le _, Nat.zero_le _⟩ (fun H locs hP hS => ?_)
    obtain ⟨e0, hz1⟩ := Prod.mk.inj (Option.some.inj hf)
    subst e0
    subst hz1
    exact rm_i hx hb hr hlk hP hS dX9_longest_16

def fX9_sumFrom_L4 (mVil : Int32) (mRts : Nat → Int32) (mLns : Nat → Int32) (p0 : Int32) (kk : (Int32 × Int32) → Option (Int32 × Int32)) (ww : Int32 × Int32) : Option (Int32 × Int32) :=
  match ww with
  | (v2_1, v3_2) => (if mVil ≤ v3_2 then (some (v2_1, v3_2)) else ((fX9_farFrom mRts mLns v3_2 p0).bind fun r_3 => (kk ((v2_1 + r_3), (v3_2 + (1 : Int32))))))
def fX9_sumFrom (mVil : Int32) (mRts : Nat → Int32) (mLns : Nat → Int32) (p0 : Int32) : Option (Int32) :=
  ((lp (fX9_sumFrom_L4 mVil mRts mLns p0) FU ((0 : Int32), (0 : Int32))).bind fun (ov2_1, ov3_2) => (some ov2_1))
set_option maxRecDepth 100000 in
set_option maxHeartbeats 4000000 in
theorem ctX9_sumFrom (l : Launch) (D : va_G) (cI cB cZ : ClassId) (bd : Nat → Nat) (mVil mBad mFul mLen mSig mWay mLef mSpo mBeg mTok mVal mWor mNum mThe : Int32) (mRts mLns mOpn mTxt mAns mWys mSiz mNbs : Nat → Int32) (p0 : Int32) (rv : Int32) (hf : fX9_sumFrom mVil mRts mLns p0 = some rv) : Met l yX9_sumFrom wsX9_sumFrom (rmN 1 25) (PR D (tyL cI cB cZ) (wM cI cB cZ bd mVil mBad mFul mLen mSig mWay mLef mSpo mBeg mTok mVal mWor mNum mThe mRts mLns mOpn mTxt mAns mWys mSiz mNbs) [.ref (bd 0), .int p0]) (SI rv) 0 0 (fun _ => False) := by
  refine mk_met cX9_sumFrom 4 (some .int) (by decide) rfl (Nat.le_of_ble_eq_true rfl) ?_
  intro p e s m args below meth c ls hx hb hr hlk hml hown hts hPK hl
  obtain ⟨hP, hK⟩ := hPK
  replace hl : lv_has ls 4 [(0, .ref (bd 0)), (1, .int p0)] := hl
  replace hown : s.vm.findClass RX9 = some m.cls := hown
  have hiX9 : ∀ w ∈ wsX90, w ∈ wsX9_sumFrom := fun w h => List.mem_cons_of_mem _ (List.mem_append_right _ h)
  unfold fX9_sumFrom at hf
  refine lv_iconst (v := (0 : Int32)) hx hb dX9_sumFrom_0 (by decide) ?_
  refine lv_istore_n (lv' := [(2, .int (0 : Int32)), (0, .ref (bd 0)), (1, .int p0)]) hx hb dX9_sumFrom_1 rfl hl (by decide) rfl (fun ls hl => ?_)
  refine lv_iconst (v := (0 : Int32)) hx hb dX9_sumFrom_2 (by decide) ?_
  refine lv_istore_n (lv' := [(3, .int (0 : Int32)), (2, .int (0 : Int32)), (0, .ref (bd 0)), (1, .int p0)]) hx hb dX9_sumFrom_3 rfl hl (by decide) rfl (fun ls hl => ?_)
  have hL4 : ∀ (n : Nat) (v2_1 : Int32) (v3_2 : Int32) (ov2_1 : Int32) (ov3_2 : Int32) (ls : Array Slot), lp (fX9_sumFrom_L4 mVil mRts mLns p0) n (v2_1, v3_2) = some (ov2_1, ov3_2) → lv_has ls 4 [(0, .ref (bd 0)), (1, .int p0), (2, .int v2_1), (3, .int v3_2)] → (∀ (ls : Array Slot), lv_has ls 4 [(0, .ref (bd 0)), (1, .int p0), (2, .int ov2_1), (3, .int ov3_2)] → W p l e (rmN 1 25) s m args below meth c s.heap [] 0 0 (MQ below (SI rv) args s 0 0 (fun _ => False)) (F0 m 27 ls [])) → W p l e (rmN 1 25) s m args below meth c s.heap [] 0 0 (MQ below (SI rv) args s 0 0 (fun _ => False)) (F0 m 4 ls []) := by
    intro n
    induction n with
    | zero => intro v2_1 v3_2 ov2_1 ov3_2 ls hf; exact (lp_0 hf).elim
    | succ n ih =>
      intro v2_1 v3_2 ov2_1 ov3_2 ls hf hl hE
      replace hf := lp_s hf
      dsimp only [fX9_sumFrom_L4] at hf
      refine lv_iload_n hx hb dX9_sumFrom_4 rfl (lv_at hl 3 rfl) ?_
      refine lv_aload_n hx hb dX9_sumFrom_5 rfl (lv_at hl 0 rfl) ?_
      refine va_get (ci := 8) (v := .int mVil) (C := RX9) (T := TX9) (N := 22) hx hb hts hiX9 hown hK hP 0 rfl rfl 0 (by decide) (hts _ (List.mem_of_getElem? (i := 1) rfl)) (fun _ h9 => h9) rfl dX9_sumFrom_6 ?_
      refine lv_icmp_ge (tgt := 27) hx hb dX9_sumFrom_9 (by decide) (fun hc => ?_) (fun hc => ?_)
      · replace hf := (if_pos hc).symm.trans hf
        cases hf
        exact hE _ (lv_sub hl [0, 1, 2, 3] rfl)
      · replace hf := (if_neg hc).symm.trans hf
        refine lv_iload_n hx hb dX9_sumFrom_12 rfl (lv_at hl 2 rfl) ?_
        refine lv_aload_n hx hb dX9_sumFrom_13 rfl (lv_at hl 0 rfl) ?_
        refine lv_iload_n hx hb dX9_sumFrom_14 rfl (lv_at hl 3 rfl) ?_
        refine lv_iload_n hx hb dX9_sumFrom_15 rfl (lv_at hl 1 rfl) ?_
        obtain ⟨r_3, hq, hf⟩ := ob hf
        try dsimp only at hf
        refine rcV 0 8 (As := [.int v3_2, .int p0]) (rest := [.int v2_1]) ⟨hx, hb, hml, hown, hts⟩ (ctX9_farFrom l D cI cB cZ bd mVil mBad mFul mLen mSig mWay mLef mSpo mBeg mTok mVal mWor mNum mThe mRts mLns mOpn mTxt mAns mWys mSiz mNbs v3_2 p0 r_3 hq) (cwV 2 hts gX9_sumFrom_X9_farFrom rfl rfl rfl (by decide +kernel) ⟨Nat.le_of_ble_eq_true rfl, Nat.le_of_ble_eq_true rfl⟩) hK hP rfl rfl rfl hl.1 rfl (Nat.le_of_ble_eq_true rfl) dX9_sumFrom_16 ⟨Nat.zero_le _, Nat.zero_le _⟩ ?_
        refine lv_iadd hx hb dX9_sumFrom_19 ?_
        refine lv_istore_n (lv' := [(2, .int (v2_1 + r_3)), (0, .ref (bd 0)), (1, .int p0), (3, .int v3_2)]) hx hb dX9_sumFrom_20 rfl hl (by decide) rfl (fun ls hl => ?_)
        refine lv_iinc (v := (v3_2 + (1 : Int32))) (lv' := [(3, .int (v3_2 + (1 : Int32))), (2, .int (v2_1 + r_3)), (0, .ref (bd 0)), (1, .int p0)]) hx hb dX9_sumFrom_21 hl (k := 3) rfl rfl (by decide) rfl (fun ls hl => ?_)
        refine lv_goto (tgt := 4) hx hb dX9_sumFrom_24 (by decide) ?_
        exact ih _ _ _ _ _ hf (lv_sub hl [2, 3, 1, 0] rfl) hE
  obtain ⟨⟨ov2_1, ov3_2⟩, hq, hf⟩ := ob hf
  try dsimp only at hf
  refine hL4 FU _ _ ov2_1 ov3_2 ls hq (lv_sub hl [2, 3, 1, 0] rfl) (fun ls hl => ?_)
  refine lv_iload_n hx hb dX9_sumFrom_27 rfl (lv_at hl 2 rfl) ?_
  exact re_i hx hb hr hlk dX9_sumFrom_28 hf

def fX9_restOf_J57 (v2_1 : Int32) (v3_3 : Int32) (wmSiz_4 : Nat → Int32) (kk : (Int32 × (Nat → Int32)) → Option (Int32 × (Nat → Int32))) (t_5 : Int32) : Option (Int32 × (Nat → Int32)) :=
  (if gI v2_1 60 then (kk ((v3_3 + (1 : Int32)), (upd wmSiz_4 (v2_1).toNatClampNeg ((wmSiz_4 (v2_1).toNatClampNeg) + t_5)))) else none)
def fX9_restOf_L22 (mVil : Int32) (mRts : Nat → Int32) (v2_1 : Int32) (kk : (Int32 × (Nat → Int32)) → Option (Int32 × (Nat → Int32))) (ww : Int32 × (Nat → Int32)) : Option (Int32 × (Nat → Int32)) :=
  match ww with
  | (v3_3, wmSiz_4) => (if mVil ≤ v3_3 then (some (v3_3, wmSiz_4)) else (if gI v2_1 60 then (if gI v3_3 60 then (if (mRts (v3_3).toNatClampNeg) = v2_1 then (if gI v3_3 60 then (fX9_restOf_J57 v2_1 v3_3 wmSiz_4 kk (wmSiz_4 (v3_3).toNatClampNeg)) else none) else (fX9_restOf_J57 v2_1 v3_3 wmSiz_4 kk (0 : Int32))) else none) else none))
def fX9_restOf_L7 (mVil : Int32) (mRts : Nat → Int32) (kk : (Int32 × (Nat → Int32)) → Option (Int32 × (Nat → Int32))) (ww : Int32 × (Nat → Int32)) : Option (Int32 × (Nat → Int32)) :=
  match ww with
  | (v2_1, wmSiz_2) => (if v2_1 < 0 then (some (v2_1, wmSiz_2)) else (if gI v2_1 60 then ((lp (fX9_restOf_L22 mVil mRts v2_1) FU ((v2_1 + (1 : Int32)), (upd wmSiz_2 (v2_1).toNatClampNeg (1 : Int32)))).bind fun (ov3_3, owmSiz_4) => (kk ((v2_1 + (-1 : Int32)), owmSiz_4))) else none))
def fX9_restOf_J125 (v3_7 : Int32) (kk : (Int32 × Int32) → Option (Int32 × Int32)) (t_8 : Int32) : Option (Int32 × Int32) :=
  (kk (t_8, (v3_7 + (1 : Int32))))
def fX9_restOf_J124 (v2_6 : Int32) (v3_7 : Int32) (kk : (Int32 × Int32) → Option (Int32 × Int32)) : Option (Int32 × Int32) :=
  (fX9_restOf_J125 v3_7 kk v2_6)
def fX9_restOf_L87 (mVil : Int32) (mRts : Nat → Int32) (p0 : Int32) (owmSiz_2 : Nat → Int32) (kk : (Int32 × Int32) → Option (Int32 × Int32)) (ww : Int32 × Int32) : Option (Int32 × Int32) :=
  match ww with
  | (v2_6, v3_7) => (if mVil ≤ v3_7 then (some (v2_6, v3_7)) else (if gI v3_7 60 then (if (mRts (v3_7).toNatClampNeg) = p0 then (if gI v3_7 60 then (if (owmSiz_2 (v3_7).toNatClampNeg) ≤ v2_6 then (fX9_restOf_J124 v2_6 v3_7 kk) else (if gI v3_7 60 then (fX9_restOf_J125 v3_7 kk (owmSiz_2 (v3_7).toNatClampNeg)) else none)) else none) else (fX9_restOf_J124 v2_6 v3_7 kk)) else none))
def fX9_restOf (mVil : Int32) (mRts : Nat → Int32) (mSiz : Nat → Int32) (p0 : Int32) : Option (Int32 × (Nat → Int32)) :=
  ((lp (fX9_restOf_L7 mVil mRts) FU ((mVil - (1 : Int32)), mSiz)).bind fun (ov2_1, owmSiz_2) => (if gI p0 60 then ((lp (fX9_restOf_L87 mVil mRts p0 owmSiz_2) FU ((mVil - (owmSiz_2 (p0).toNatClampNeg)), (p0 + (1 : Int32)))).bind fun (ov2_6, ov3_7) => (some (ov2_6, owmSiz_2))) else none))
set_option maxRecDepth 100000 in
set_option maxHeartbeats 4000000 in
theorem ctX9_restOf (l : Launch) (D : va_G) (cI cB cZ : ClassId) (bd : Nat → Nat) (A : Nat → Prop) (hAD : AD A bd 9) (mVil mBad mFul mLen mSig mWay mLef mSpo mBeg mTok mVal mWor mNum mThe : Int32) (mRts mLns mOpn mTxt mAns mWys mSiz mNbs : Nat → Int32) (p0 : Int32) (rv : Int32) (zmSiz : Nat → Int32) (hf : fX9_restOf mVil mRts mSiz p0 = some (rv, zmSiz)) : Met l yX9_restOf wsX9_restOf (rmN 0 0) (PR D (tyL cI cB cZ) (wM cI cB cZ bd mVil mBad mFul mLen mSig mWay mLef mSpo mBeg mTok mVal mWor mNum mThe mRts mLns mOpn mTxt mAns mWys mSiz mNbs) [.ref (bd 0), .int p0]) (QI D (wM cI cB cZ bd mVil mBad mFul mLen mSig mWay mLef mSpo mBeg mTok mVal mWor mNum mThe mRts mLns mOpn mTxt mAns mWys zmSiz mNbs) A rv) 0 0 A := by
  refine mk_met cX9_restOf 4 (some .int) (by decide) rfl (Nat.le_of_ble_eq_true rfl) ?_
  intro p e s m args below meth c ls hx hb hr hlk hml hown hts hPK hl
  obtain ⟨hP, hK⟩ := hPK
  replace hl : lv_has ls 4 [(0, .ref (bd 0)), (1, .int p0)] := hl
  replace hown : s.vm.findClass RX9 = some m.cls := hown
  have hiX9 : ∀ w ∈ wsX90, w ∈ wsX9_restOf := fun w h => List.mem_cons_of_mem _ (List.mem_append_right _ h)
  have hS : va_S A s.heap s.heap [] := va_S.rf
  unfold fX9_restOf at hf
  refine lv_aload_n hx hb dX9_restOf_0 rfl (lv_at hl 0 rfl) ?_
  refine va_get (ci := 8) (v := .int mVil) (C := RX9) (T := TX9) (N := 22) hx hb hts hiX9 hown hK hP 0 rfl rfl 0 (by decide) (hts _ (List.mem_of_getElem? (i := 1) rfl)) (fun _ h9 => h9) rfl dX9_restOf_1 ?_
  refine lv_iconst (v := (1 : Int32)) hx hb dX9_restOf_4 (by decide) ?_
  refine lv_isub hx hb dX9_restOf_5 ?_
  refine lv_istore_n (lv' := [(2, .int (mVil - (1 : Int32))), (0, .ref (bd 0)), (1, .int p0)]) hx hb dX9_restOf_6 rfl hl (by decide) rfl (fun ls hl => ?_)
  have hL7 : ∀ (n : Nat) (v2_1 : Int32) (wmSiz_2 : Nat → Int32) (ov2_1 : Int32) (owmSiz_2 : Nat → Int32) (H : Heap) (locs : List Loc) (ls : Array Slot), lp (fX9_restOf_L7 mVil mRts) n (v2_1, wmSiz_2) = some (ov2_1, owmSiz_2) → va_P D vwCl (wM cI cB cZ bd mVil mBad mFul mLen mSig mWay mLef mSpo mBeg mTok mVal mWor mNum mThe mRts mLns mOpn mTxt mAns mWys wmSiz_2 mNbs) H → va_S A s.heap H locs → lv_has ls 4 [(0, .ref (bd 0)), (1, .int p0), (2, .int v2_1)] → (∀ (H : Heap) (locs : List Loc) (ls : Array Slot), va_P D vwCl (wM cI cB cZ bd mVil mBad mFul mLen mSig mWay mLef mSpo mBeg mTok mVal mWor mNum mThe mRts mLns mOpn mTxt mAns mWys owmSiz_2 mNbs) H → va_S A s.heap H locs → lv_has ls 4 [(0, .ref (bd 0)), (1, .int p0), (2, .int ov2_1)] → W p l e (rmN 0 0) s m args below meth c H locs 0 0 (MQ below (QI D (wM cI cB cZ bd mVil mBad mFul mLen mSig mWay mLef mSpo mBeg mTok mVal mWor mNum mThe mRts mLns mOpn mTxt mAns mWys zmSiz mNbs) A rv) args s 0 0 A) (F0 m 71 ls [])) → W p l e (rmN 0 0) s m args below meth c H locs 0 0 (MQ below (QI D (wM cI cB cZ bd mVil mBad mFul mLen mSig mWay mLef mSpo mBeg mTok mVal mWor mNum mThe mRts mLns mOpn mTxt mAns mWys zmSiz mNbs) A rv) args s 0 0 A) (F0 m 7 ls []) := by
    intro n
    induction n with
    | zero => intro v2_1 wmSiz_2 ov2_1 owmSiz_2 H locs ls hf; exact (lp_0 hf).elim
    | succ n ih =>
      intro v2_1 wmSiz_2 ov2_1 owmSiz_2 H locs ls hf hP hS hl hE
      replace hf := lp_s hf
      dsimp only [fX9_restOf_L7] at hf
      refine lv_iload_n hx hb dX9_restOf_7 rfl (lv_at hl 2 rfl) ?_
      refine lv_if_lt (tgt := 71) hx hb dX9_restOf_8 (by decide) (fun hc => ?_) (fun hc => ?_)
      · replace hf := (if_pos hc).symm.trans hf
        cases hf
        exact hE _ _ _ hP hS (lv_sub hl [0, 1, 2] rfl)
      · replace hf := (if_neg hc).symm.trans hf
        refine lv_aload_n hx hb dX9_restOf_11 rfl (lv_at hl 0 rfl) ?_
        refine va_get (ci := 8) (v := .ref (bd 7)) (C := RX9) (T := TX9) (N := 22) hx hb hts hiX9 hown hK hP 0 rfl rfl 12 (by decide) (hts _ (List.mem_of_getElem? (i := 2) rfl)) (fun _ h9 => h9) rfl dX9_restOf_12 ?_
        refine lv_iload_n hx hb dX9_restOf_15 rfl (lv_at hl 2 rfl) ?_
        refine lv_iconst (v := (1 : Int32)) hx hb dX9_restOf_16 (by decide) ?_
        obtain ⟨hg, hf⟩ := og hf
        refine va_iast hx hb hK hP (wM_D hAD) hS 7 0 rfl rfl (gI_in hg) dX9_restOf_17 (fun H locs hP _ hS => ?_)
        have hP : va_P D vwCl (wM cI cB cZ bd mVil mBad mFul mLen mSig mWay mLef mSpo mBeg mTok mVal mWor mNum mThe mRts mLns mOpn mTxt mAns mWys (upd wmSiz_2 (v2_1).toNatClampNeg (1 : Int32)) mNbs) H := hP
        refine lv_iload_n hx hb dX9_restOf_18 rfl (lv_at hl 2 rfl) ?_
        refine lv_iconst (v := (1 : Int32)) hx hb dX9_restOf_19 (by decide) ?_
        refine lv_iadd hx hb dX9_restOf_20 ?_
        refine lv_istore_n (lv' := [(3, .int (v2_1 + (1 : Int32))), (0, .ref (bd 0)), (1, .int p0), (2, .int v2_1)]) hx hb dX9_restOf_21 rfl hl (by decide) rfl (fun ls hl => ?_)
        have hL22 : ∀ (n : Nat) (v3_3 : Int32) (wmSiz_4 : Nat → Int32) (ov3_3 : Int32) (owmSiz_4 : Nat → Int32) (H : Heap) (locs : List Loc) (ls : Array Slot), lp (fX9_restOf_L22 mVil mRts v2_1) n (v3_3, wmSiz_4) = some (ov3_3, owmSiz_4) → va_P D vwCl (wM cI cB cZ bd mVil mBad mFul mLen mSig mWay mLef mSpo mBeg mTok mVal mWor mNum mThe mRts mLns mOpn mTxt mAns mWys wmSiz_4 mNbs) H → va_S A s.heap H locs → lv_has ls 4 [(0, .ref (bd 0)), (1, .int p0), (2, .int v2_1), (3, .int v3_3)] → (∀ (H : Heap) (locs : List Loc) (ls : Array Slot), va_P D vwCl (wM cI cB cZ bd mVil mBad mFul mLen mSig mWay mLef mSpo mBeg mTok mVal mWor mNum mThe mRts mLns mOpn mTxt mAns mWys owmSiz_4 mNbs) H → va_S A s.heap H locs → lv_has ls 4 [(0, .ref (bd 0)), (1, .int p0), (2, .int v2_1), (3, .int ov3_3)] → W p l e (rmN 0 0) s m args below meth c H locs 0 0 (MQ below (QI D (wM cI cB cZ bd mVil mBad mFul mLen mSig mWay mLef mSpo mBeg mTok mVal mWor mNum mThe mRts mLns mOpn mTxt mAns mWys zmSiz mNbs) A rv) args s 0 0 A) (F0 m 65 ls [])) → W p l e (rmN 0 0) s m args below meth c H locs 0 0 (MQ below (QI D (wM cI cB cZ bd mVil mBad mFul mLen mSig mWay mLef mSpo mBeg mTok mVal mWor mNum mThe mRts mLns mOpn mTxt mAns mWys zmSiz mNbs) A rv) args s 0 0 A) (F0 m 22 ls []) := by
          intro n
          induction n with
          | zero => intro v3_3 wmSiz_4 ov3_3 owmSiz_4 H locs ls hf; exact (lp_0 hf).elim
          | succ n ih =>
            intro v3_3 wmSiz_4 ov3_3 owmSiz_4 H locs ls hf hP hS hl hE
            replace hf := lp_s hf
            dsimp only [fX9_restOf_L22] at hf
            refine lv_iload_n hx hb dX9_restOf_22 rfl (lv_at hl 3 rfl) ?_
            refine lv_aload_n hx hb dX9_restOf_23 rfl (lv_at hl 0 rfl) ?_
            refine va_get (ci := 8) (v := .int mVil) (C := RX9) (T := TX9) (N := 22) hx hb hts hiX9 hown hK hP 0 rfl rfl 0 (by decide) (hts _ (List.mem_of_getElem? (i := 1) rfl)) (fun _ h9 => h9) rfl dX9_restOf_24 ?_
            refine lv_icmp_ge (tgt := 65) hx hb dX9_restOf_27 (by decide) (fun hc => ?_) (fun hc => ?_)
            · replace hf := (if_pos hc).symm.trans hf
              cases hf
              exact hE _ _ _ hP hS (lv_sub hl [0, 1, 2, 3] rfl)
            · replace hf := (if_neg hc).symm.trans hf
              refine lv_aload_n hx hb dX9_restOf_30 rfl (lv_at hl 0 rfl) ?_
              refine va_get (ci := 8) (v := .ref (bd 7)) (C := RX9) (T := TX9) (N := 22) hx hb hts hiX9 hown hK hP 0 rfl rfl 12 (by decide) (hts _ (List.mem_of_getElem? (i := 2) rfl)) (fun _ h9 => h9) rfl dX9_restOf_31 ?_
              refine lv_iload_n hx hb dX9_restOf_34 rfl (lv_at hl 2 rfl) ?_
              refine lv_dup2_11 hx hb dX9_restOf_35 rfl rfl ?_
              obtain ⟨hg, hf⟩ := og hf
              refine va_iald hx hb hK hP 7 0 rfl rfl (gI_in hg) dX9_restOf_36 ?_
              refine lv_aload_n hx hb dX9_restOf_37 rfl (lv_at hl 0 rfl) ?_
              refine va_get (ci := 8) (v := .ref (bd 1)) (C := RX9) (T := TX9) (N := 22) hx hb hts hiX9 hown hK hP 0 rfl rfl 1 (by decide) (hts _ (List.mem_of_getElem? (i := 3) rfl)) (fun _ h9 => h9) rfl dX9_restOf_38 ?_
              refine lv_iload_n hx hb dX9_restOf_41 rfl (lv_at hl 3 rfl) ?_
              obtain ⟨hg, hf⟩ := og hf
              refine va_iald hx hb hK hP 1 0 rfl rfl (gI_in hg) dX9_restOf_42 ?_
              refine lv_iload_n hx hb dX9_restOf_43 rfl (lv_at hl 2 rfl) ?_
              have hJ57 : ∀ (t_5 : Int32) (H : Heap) (locs : List Loc) (ls : Array Slot), fX9_restOf_J57 v2_1 v3_3 wmSiz_4 (lp (fX9_restOf_L22 mVil mRts v2_1) n) t_5 = some (ov3_3, owmSiz_4) → va_P D vwCl (wM cI cB cZ bd mVil mBad mFul mLen mSig mWay mLef mSpo mBeg mTok mVal mWor mNum mThe mRts mLns mOpn mTxt mAns mWys wmSiz_4 mNbs) H → va_S A s.heap H locs → lv_has ls 4 [(0, .ref (bd 0)), (1, .int p0), (2, .int v2_1), (3, .int v3_3)] → W p l e (rmN 0 0) s m args below meth c H locs 0 0 (MQ below (QI D (wM cI cB cZ bd mVil mBad mFul mLen mSig mWay mLef mSpo mBeg mTok mVal mWor mNum mThe mRts mLns mOpn mTxt mAns mWys zmSiz mNbs) A rv) args s 0 0 A) (F0 m 57 ls [.int t_5, .int (wmSiz_4 (v2_1).toNatClampNeg), .int v2_1, .ref (bd 7)]) := by
                intro t_5 H locs ls hf hP hS hl
                unfold fX9_restOf_J57 at hf
                refine lv_iadd hx hb dX9_restOf_57 ?_
                obtain ⟨hg, hf⟩ := og hf
                refine va_iast hx hb hK hP (wM_D hAD) hS 7 0 rfl rfl (gI_in hg) dX9_restOf_58 (fun H locs hP _ hS => ?_)
                have hP : va_P D vwCl (wM cI cB cZ bd mVil mBad mFul mLen mSig mWay mLef mSpo mBeg mTok mVal mWor mNum mThe mRts mLns mOpn mTxt mAns mWys (upd wmSiz_4 (v2_1).toNatClampNeg ((wmSiz_4 (v2_1).toNatClampNeg) + t_5)) mNbs) H := hP
                refine lv_iinc (v := (v3_3 + (1 : Int32))) (lv' := [(3, .int (v3_3 + (1 : Int32))), (0, .ref (bd 0)), (1, .int p0), (2, .int v2_1)]) hx hb dX9_restOf_59 hl (k := 3) rfl rfl (by decide) rfl (fun ls hl => ?_)
                refine lv_goto (tgt := 22) hx hb dX9_restOf_62 (by decide) ?_
                exact ih _ _ _ _ _ _ _ hf hP hS (lv_sub hl [1, 2, 3, 0] rfl) hE
              refine lv_icmp_ne (tgt := 56) hx hb dX9_restOf_44 (by decide) (fun hc => ?_) (fun hc => ?_)
              · replace hf := (if_neg hc).symm.trans hf
                refine lv_iconst (v := (0 : Int32)) hx hb dX9_restOf_56 (by decide) ?_
                exact hJ57 _ _ _ _ hf hP hS (lv_sub hl [0, 1, 2, 3] rfl)
              · replace hf := (if_pos hc).symm.trans hf
                refine lv_aload_n hx hb dX9_restOf_47 rfl (lv_at hl 0 rfl) ?_
                refine va_get (ci := 8) (v := .ref (bd 7)) (C := RX9) (T := TX9) (N := 22) hx hb hts hiX9 hown hK hP 0 rfl rfl 12 (by decide) (hts _ (List.mem_of_getElem? (i := 2) rfl)) (fun _ h9 => h9) rfl dX9_restOf_48 ?_
                refine lv_iload_n hx hb dX9_restOf_51 rfl (lv_at hl 3 rfl) ?_
                obtain ⟨hg, hf⟩ := og hf
                refine va_iald hx hb hK hP 7 0 rfl rfl (gI_in hg) dX9_restOf_52 ?_
                refine lv_goto (tgt := 57) hx hb dX9_restOf_53 (by decide) ?_
                exact hJ57 _ _ _ _ hf hP hS (lv_sub hl [0, 1, 2, 3] rfl)
        obtain ⟨⟨ov3_3, owmSiz_4⟩, hq, hf⟩ := ob hf
        try dsimp only at hf
        refine hL22 FU _ _ ov3_3 owmSiz_4 _ _ ls hq hP hS (lv_sub hl [1, 2, 3, 0] rfl) (fun H locs ls hP hS hl => ?_)
        refine lv_iinc (v := (v2_1 + (-1 : Int32))) (lv' := [(2, .int (v2_1 + (-1 : Int32))), (0, .ref (bd 0)), (1, .int p0), (3, .int ov3_3)]) hx hb dX9_restOf_65 hl (k := 2) rfl rfl (by decide) rfl (fun ls hl => ?_)
        refine lv_goto (tgt := 7) hx hb dX9_restOf_68 (by decide) ?_
        exact ih _ _ _ _ _ _ _ hf hP hS (lv_sub hl [1, 2, 0] rfl) hE
  obtain ⟨⟨ov2_1, owmSiz_2⟩, hq, hf⟩ := ob hf
  try dsimp only at hf
  refine hL7 FU _ _ ov2_1 owmSiz_2 _ _ ls hq hP hS (lv_sub hl [1, 2, 0] rfl) (fun H locs ls hP hS hl => ?_)
  refine lv_aload_n hx hb dX9_restOf_71 rfl (lv_at hl 0 rfl) ?_
  refine va_get (ci := 8) (v := .int mVil) (C := RX9) (T := TX9) (N := 22) hx hb hts hiX9 hown hK hP 0 rfl rfl 0 (by decide) (hts _ (List.mem_of_getElem? (i := 1) rfl)) (fun _ h9 => h9) rfl dX9_restOf_72 ?_
  refine lv_aload_n hx hb dX9_restOf_75 rfl (lv_at hl 0 rfl) ?_
  refine va_get (ci := 8) (v := .ref (bd 7)) (C := RX9) (T := TX9) (N := 22) hx hb hts hiX9 hown hK hP 0 rfl rfl 12 (by decide) (hts _ (List.mem_of_getElem? (i := 2) rfl)) (fun _ h9 => h9) rfl dX9_restOf_76 ?_
  refine lv_iload_n hx hb dX9_restOf_79 rfl (lv_at hl 1 rfl) ?_
  obtain ⟨hg, hf⟩ := og hf
  refine va_iald hx hb hK hP 7 0 rfl rfl (gI_in hg) dX9_restOf_80 ?_
  refine lv_isub hx hb dX9_restOf_81 ?_
  refine lv_istore_n (lv' := [(2, .int (mVil - (owmSiz_2 (p0).toNatClampNeg))), (0, .ref (bd 0)), (1, .int p0)]) hx hb dX9_restOf_82 rfl hl (by decide) rfl (fun ls hl => ?_)
  refine lv_iload_n hx hb dX9_restOf_83 rfl (lv_at hl 2 rfl) ?_
  refine lv_iconst (v := (1 : Int32)) hx hb dX9_restOf_84 (by decide) ?_
  refine lv_iadd hx hb dX9_restOf_85 ?_
  refine lv_istore_n (lv' := [(3, .int (p0 + (1 : Int32))), (2, .int (mVil - (owmSiz_2 (p0).toNatClampNeg))), (0, .ref (bd 0)), (1, .int p0)]) hx hb dX9_restOf_86 rfl hl (by decide) rfl (fun ls hl => ?_)
  have hL87 : ∀ (n : Nat) (v2_6 : Int32) (v3_7 : Int32) (ov2_6 : Int32) (ov3_7 : Int32) (H : Heap) (locs : List Loc) (ls : Array Slot), lp (fX9_restOf_L87 mVil mRts p0 owmSiz_2) n (v2_6, v3_7) = some (ov2_6, ov3_7) → va_P D vwCl (wM cI cB cZ bd mVil mBad mFul mLen mSig mWay mLef mSpo mBeg mTok mVal mWor mNum mThe mRts mLns mOpn mTxt mAns mWys owmSiz_2 mNbs) H → va_S A s.heap H locs → lv_has ls 4 [(0, .ref (bd 0)), (1, .int p0), (2, .int v2_6), (3, .int v3_7)] → (∀ (H : Heap) (locs : List Loc) (ls : Array Slot), va_P D vwCl (wM cI cB cZ bd mVil mBad mFul mLen mSig mWay mLef mSpo mBeg mTok mVal mWor mNum mThe mRts mLns mOpn mTxt mAns mWys owmSiz_2 mNbs) H → va_S A s.heap H locs → lv_has ls 4 [(0, .ref (bd 0)), (1, .int p0), (2, .int ov2_6), (3, .int ov3_7)] → W p l e (rmN 0 0) s m args below meth c H locs 0 0 (MQ below (QI D (wM cI cB cZ bd mVil mBad mFul mLen mSig mWay mLef mSpo mBeg mTok mVal mWor mNum mThe mRts mLns mOpn mTxt mAns mWys zmSiz mNbs) A rv) args s 0 0 A) (F0 m 132 ls [])) → W p l e (rmN 0 0) s m args below meth c H locs 0 0 (MQ below (QI D (wM cI cB cZ bd mVil mBad mFul mLen mSig mWay mLef mSpo mBeg mTok mVal mWor mNum mThe mRts mLns mOpn mTxt mAns mWys zmSiz mNbs) A rv) args s 0 0 A) (F0 m 87 ls []) := by
    intro n
    induction n with
    | zero => intro v2_6 v3_7 ov2_6 ov3_7 H locs ls hf; exact (lp_0 hf).elim
    | succ n ih =>
      intro v2_6 v3_7 ov2_6 ov3_7 H locs ls hf hP hS hl hE
      replace hf := lp_s hf
      dsimp only [fX9_restOf_L87] at hf
      refine lv_iload_n hx hb dX9_restOf_87 rfl (lv_at hl 3 rfl) ?_
      refine lv_aload_n hx hb dX9_restOf_88 rfl (lv_at hl 0 rfl) ?_
      refine va_get (ci := 8) (v := .int mVil) (C := RX9) (T := TX9) (N := 22) hx hb hts hiX9 hown hK hP 0 rfl rfl 0 (by decide) (hts _ (List.mem_of_getElem? (i := 1) rfl)) (fun _ h9 => h9) rfl dX9_restOf_89 ?_
      refine lv_icmp_ge (tgt := 132) hx hb dX9_restOf_92 (by decide) (fun hc => ?_) (fun hc => ?_)
      · replace hf := (if_pos hc).symm.trans hf
        cases hf
        exact hE _ _ _ hP hS (lv_sub hl [0, 1, 2, 3] rfl)
      · replace hf := (if_neg hc).symm.trans hf
        refine lv_aload_n hx hb dX9_restOf_95 rfl (lv_at hl 0 rfl) ?_
        refine va_get (ci := 8) (v := .ref (bd 1)) (C := RX9) (T := TX9) (N := 22) hx hb hts hiX9 hown hK hP 0 rfl rfl 1 (by decide) (hts _ (List.mem_of_getElem? (i := 3) rfl)) (fun _ h9 => h9) rfl dX9_restOf_96 ?_
        refine lv_iload_n hx hb dX9_restOf_99 rfl (lv_at hl 3 rfl) ?_
        obtain ⟨hg, hf⟩ := og hf
        refine va_iald hx hb hK hP 1 0 rfl rfl (gI_in hg) dX9_restOf_100 ?_
        refine lv_iload_n hx hb dX9_restOf_101 rfl (lv_at hl 1 rfl) ?_
        have hJ125 : ∀ (t_8 : Int32) (H : Heap) (locs : List Loc) (ls : Array Slot), fX9_restOf_J125 v3_7 (lp (fX9_restOf_L87 mVil mRts p0 owmSiz_2) n) t_8 = some (ov2_6, ov3_7) → va_P D vwCl (wM cI cB cZ bd mVil mBad mFul mLen mSig mWay mLef mSpo mBeg mTok mVal mWor mNum mThe mRts mLns mOpn mTxt mAns mWys owmSiz_2 mNbs) H → va_S A s.heap H locs → lv_has ls 4 [(0, .ref (bd 0)), (1, .int p0), (2, .int v2_6), (3, .int v3_7)] → W p l e (rmN 0 0) s m args below meth c H locs 0 0 (MQ below (QI D (wM cI cB cZ bd mVil mBad mFul mLen mSig mWay mLef mSpo mBeg mTok mVal mWor mNum mThe mRts mLns mOpn mTxt mAns mWys zmSiz mNbs) A rv) args s 0 0 A) (F0 m 125 ls [.int t_8]) := by
          intro t_8 H locs ls hf hP hS hl
          unfold fX9_restOf_J125 at hf
          refine lv_istore_n (lv' := [(2, .int t_8), (0, .ref (bd 0)), (1, .int p0), (3, .int v3_7)]) hx hb dX9_restOf_125 rfl hl (by decide) rfl (fun ls hl => ?_)
          refine lv_iinc (v := (v3_7 + (1 : Int32))) (lv' := [(3, .int (v3_7 + (1 : Int32))), (2, .int t_8), (0, .ref (bd 0)), (1, .int p0)]) hx hb dX9_restOf_126 hl (k := 3) rfl rfl (by decide) rfl (fun ls hl => ?_)
          refine lv_goto (tgt := 87) hx hb dX9_restOf_129 (by decide) ?_
          exact ih _ _ _ _ _ _ _ hf hP hS (lv_sub hl [2, 3, 1, 0] rfl) hE
        have hJ124 : ∀  (H : Heap) (locs : List Loc) (ls : Array Slot), fX9_restOf_J124 v2_6 v3_7 (lp (fX9_restOf_L87 mVil mRts p0 owmSiz_2) n) = some (ov2_6, ov3_7) → va_P D vwCl (wM cI cB cZ bd mVil mBad mFul mLen mSig mWay mLef mSpo mBeg mTok mVal mWor mNum mThe mRts mLns mOpn mTxt mAns mWys owmSiz_2 mNbs) H → va_S A s.heap H locs → lv_has ls 4 [(0, .ref (bd 0)), (1, .int p0), (2, .int v2_6), (3, .int v3_7)] → W p l e (rmN 0 0) s m args below meth c H locs 0 0 (MQ below (QI D (wM cI cB cZ bd mVil mBad mFul mLen mSig mWay mLef mSpo mBeg mTok mVal mWor mNum mThe mRts mLns mOpn mTxt mAns mWys zmSiz mNbs) A rv) args s 0 0 A) (F0 m 124 ls []) := by
          intro  H locs ls hf hP hS hl
          unfold fX9_restOf_J124 at hf
          refine lv_iload_n hx hb dX9_restOf_124 rfl (lv_at hl 2 rfl) ?_
          exact hJ125 _ _ _ _ hf hP hS (lv_sub hl [0, 1, 2, 3] rfl)
        refine lv_icmp_ne (tgt := 124) hx hb dX9_restOf_102 (by decide) (fun hc => ?_) (fun hc => ?_)
        · replace hf := (if_neg hc).symm.trans hf
          exact hJ124  _ _ _ hf hP hS (lv_sub hl [0, 1, 2, 3] rfl)
        · replace hf := (if_pos hc).symm.trans hf
          refine lv_aload_n hx hb dX9_restOf_105 rfl (lv_at hl 0 rfl) ?_
          refine va_get (ci := 8) (v := .ref (bd 7)) (C := RX9) (T := TX9) (N := 22) hx hb hts hiX9 hown hK hP 0 rfl rfl 12 (by decide) (hts _ (List.mem_of_getElem? (i := 2) rfl)) (fun _ h9 => h9) rfl dX9_restOf_106 ?_
          refine lv_iload_n hx hb dX9_restOf_109 rfl (lv_at hl 3 rfl) ?_
          obtain ⟨hg, hf⟩ := og hf
          refine va_iald hx hb hK hP 7 0 rfl rfl (gI_in hg) dX9_restOf_110 ?_
          refine lv_iload_n hx hb dX9_restOf_111 rfl (lv_at hl 2 rfl) ?_
          refine lv_icmp_le (tgt := 124) hx hb dX9_restOf_112 (by decide) (fun hc => ?_) (fun hc => ?_)
          · replace hf := (if_pos hc).symm.trans hf
            exact hJ124  _ _ _ hf hP hS (lv_sub hl [0, 1, 2, 3] rfl)
          · replace hf := (if_neg hc).symm.trans hf
            refine lv_aload_n hx hb dX9_restOf_115 rfl (lv_at hl 0 rfl) ?_
            refine va_get (ci := 8) (v := .ref (bd 7)) (C := RX9) (T := TX9) (N := 22) hx hb hts hiX9 hown hK hP 0 rfl rfl 12 (by decide) (hts _ (List.mem_of_getElem? (i := 2) rfl)) (fun _ h9 => h9) rfl dX9_restOf_116 ?_
            refine lv_iload_n hx hb dX9_restOf_119 rfl (lv_at hl 3 rfl) ?_
            obtain ⟨hg, hf⟩ := og hf
            refine va_iald hx hb hK hP 7 0 rfl rfl (gI_in hg) dX9_restOf_120 ?_
            refine lv_goto (tgt := 125) hx hb dX9_restOf_121 (by decide) ?_
            exact hJ125 _ _ _ _ hf hP hS (lv_sub hl [0, 1, 2, 3] rfl)
  obtain ⟨⟨ov2_6, ov3_7⟩, hq, hf⟩ := ob hf
  try dsimp only at hf
  refine hL87 FU _ _ ov2_6 ov3_7 _ _ ls hq hP hS (lv_sub hl [2, 3, 1, 0] rfl) (fun H locs ls hP hS hl => ?_)
  refine lv_iload_n hx hb dX9_restOf_132 rfl (lv_at hl 2 rfl) ?_
  obtain ⟨e0, hz1⟩ := Prod.mk.inj (Option.some.inj hf)
  subst e0
  subst hz1
  exact rm_i hx hb hr hlk hP hS dX9_restOf_133

def fX9_middle_J103 (v4_4 : Int32) (kk : (Int32 × Int32 × Int32 × (Nat → Int32)) → Option (Int32 × Int32 × Int32 × (Nat → Int32))) (wmSiz_7 : Nat → Int32) (t_8 : Int32) (t_9 : Int32) : Option (Int32 × Int32 × Int32 × (Nat → Int32)) :=
  (kk (t_8, t_9, (v4_4 + (1 : Int32)), wmSiz_7))
def fX9_middle_J97 (v4_4 : Int32) (kk : (Int32 × Int32 × Int32 × (Nat → Int32)) → Option (Int32 × Int32 × Int32 × (Nat → Int32))) (t_6 : Int32) (wmSiz_7 : Nat → Int32) (t_8 : Int32) : Option (Int32 × Int32 × Int32 × (Nat → Int32)) :=
  (fX9_middle_J103 v4_4 kk wmSiz_7 t_8 t_6)
def fX9_middle_J85 (v3_3 : Int32) (v4_4 : Int32) (kk : (Int32 × Int32 × Int32 × (Nat → Int32)) → Option (Int32 × Int32 × Int32 × (Nat → Int32))) (t_6 : Int32) (wmSiz_7 : Nat → Int32) (t_8 : Int32) : Option (Int32 × Int32 × Int32 × (Nat → Int32)) :=
  (if v4_4 = 0 then (fX9_middle_J97 v4_4 kk t_6 wmSiz_7 t_8) else (if v3_3 ≤ t_6 then (fX9_middle_J103 v4_4 kk wmSiz_7 t_8 v3_3) else (fX9_middle_J97 v4_4 kk t_6 wmSiz_7 t_8)))
def fX9_middle_J79 (v3_3 : Int32) (v4_4 : Int32) (kk : (Int32 × Int32 × Int32 × (Nat → Int32)) → Option (Int32 × Int32 × Int32 × (Nat → Int32))) (t_6 : Int32) (wmSiz_7 : Nat → Int32) : Option (Int32 × Int32 × Int32 × (Nat → Int32)) :=
  (fX9_middle_J85 v3_3 v4_4 kk t_6 wmSiz_7 v4_4)
def fX9_middle_J66 (v2_2 : Int32) (v3_3 : Int32) (v4_4 : Int32) (kk : (Int32 × Int32 × Int32 × (Nat → Int32)) → Option (Int32 × Int32 × Int32 × (Nat → Int32))) (t_6 : Int32) (wmSiz_7 : Nat → Int32) : Option (Int32 × Int32 × Int32 × (Nat → Int32)) :=
  (if v4_4 = 0 then (fX9_middle_J79 v3_3 v4_4 kk t_6 wmSiz_7) else (if v3_3 ≤ t_6 then (fX9_middle_J85 v3_3 v4_4 kk t_6 wmSiz_7 v2_2) else (fX9_middle_J79 v3_3 v4_4 kk t_6 wmSiz_7)))
def fX9_middle_L24 (mVil : Int32) (mRts : Nat → Int32) (mLns : Nat → Int32) (p0 : Int32) (kk : (Int32 × Int32 × Int32 × (Nat → Int32)) → Option (Int32 × Int32 × Int32 × (Nat → Int32))) (ww : Int32 × Int32 × Int32 × (Nat → Int32)) : Option (Int32 × Int32 × Int32 × (Nat → Int32)) :=
  match ww with
  | (v2_2, v3_3, v4_4, wmSiz_5) => (if mVil ≤ v4_4 then (some (v2_2, v3_3, v4_4, wmSiz_5)) else (if p0 = 0 then ((fX9_farthest mVil mRts mLns v4_4).bind fun r_13 => (fX9_middle_J66 v2_2 v3_3 v4_4 kk r_13 wmSiz_5)) else (if p0 = (1 : Int32) then ((fX9_sumFrom mVil mRts mLns v4_4).bind fun r_12 => (fX9_middle_J66 v2_2 v3_3 v4_4 kk r_12 wmSiz_5)) else ((fX9_restOf mVil mRts wmSiz_5 v4_4).bind fun (r_10, qmSiz_11) => (fX9_middle_J66 v2_2 v3_3 v4_4 kk r_10 qmSiz_11)))))
def fX9_middle (mVil : Int32) (mBad : Int32) (mRts : Nat → Int32) (mLns : Nat → Int32) (mSiz : Nat → Int32) (p0 : Int32) : Option (Int32 × Int32 × (Nat → Int32)) :=
  ((fX9_in (p0).toInt64 (0 : Int64) (2 : Int64)).bind fun r_1 => (if r_1 = 0 then ((fX9_refuse mBad).bind fun (r_14, qmBad_15) => (some (r_14, qmBad_15, mSiz))) else ((lp (fX9_middle_L24 mVil mRts mLns p0) FU ((0 : Int32), (0 : Int32), (0 : Int32), mSiz)).bind fun (ov2_2, ov3_3, ov4_4, owmSiz_5) => (some (ov2_2, mBad, owmSiz_5)))))
set_option maxRecDepth 100000 in
set_option maxHeartbeats 4000000 in
theorem ctX9_middle (l : Launch) (D : va_G) (cI cB cZ : ClassId) (bd : Nat → Nat) (A : Nat → Prop) (hAD : AD A bd 9) (mVil mBad mFul mLen mSig mWay mLef mSpo mBeg mTok mVal mWor mNum mThe : Int32) (mRts mLns mOpn mTxt mAns mWys mSiz mNbs : Nat → Int32) (p0 : Int32) (rv : Int32) (zmBad : Int32) (zmSiz : Nat → Int32) (hf : fX9_middle mVil mBad mRts mLns mSiz p0 = some (rv, zmBad, zmSiz)) : Met l yX9_middle wsX9_middle (rmN 2 49) (PR D (tyL cI cB cZ) (wM cI cB cZ bd mVil mBad mFul mLen mSig mWay mLef mSpo mBeg mTok mVal mWor mNum mThe mRts mLns mOpn mTxt mAns mWys mSiz mNbs) [.ref (bd 0), .int p0]) (QI D (wM cI cB cZ bd mVil zmBad mFul mLen mSig mWay mLef mSpo mBeg mTok mVal mWor mNum mThe mRts mLns mOpn mTxt mAns mWys zmSiz mNbs) A rv) 0 0 A := by
  refine mk_met cX9_middle 6 (some .int) (by decide) rfl (Nat.le_of_ble_eq_true rfl) ?_
  intro p e s m args below meth c ls hx hb hr hlk hml hown hts hPK hl
  obtain ⟨hP, hK⟩ := hPK
  replace hl : lv_has ls 6 [(0, .ref (bd 0)), (1, .int p0)] := hl
  replace hown : s.vm.findClass RX9 = some m.cls := hown
  have hiX9 : ∀ w ∈ wsX90, w ∈ wsX9_middle := fun w h => List.mem_cons_of_mem _ (List.mem_append_right _ h)
  have hS : va_S A s.heap s.heap [] := va_S.rf
  unfold fX9_middle at hf
  refine lv_iload_n hx hb dX9_middle_0 rfl (lv_at hl 1 rfl) ?_
  refine lv_i2l (v := (p0).toInt64) hx hb dX9_middle_1 rfl ?_
  refine lv_lconst (v := (0 : Int64)) hx hb dX9_middle_2 (by decide) ?_
  refine lv_ldc2 (v := (2 : Int64)) hx hb hown (hts _ (List.mem_of_getElem? (i := 1) rfl)) dX9_middle_3 ?_
  obtain ⟨r_1, hq, hf⟩ := ob hf
  try dsimp only at hf
  refine rcS (As := [.long (p0).toInt64, .long (0 : Int64), .long (2 : Int64)]) (rest := []) ⟨hx, hb, hml, hown, hts⟩ (ctX9_in l (p0).toInt64 (0 : Int64) (2 : Int64) r_1 hq) (va_cwS 3 hts gX9_middle_X9_in rfl rfl rfl (by decide +kernel) ⟨Nat.le_of_ble_eq_true rfl, Nat.le_of_ble_eq_true rfl⟩) rfl hl.1 rfl (Nat.le_of_ble_eq_true rfl) dX9_middle_6 ⟨Nat.zero_le _, Nat.zero_le _⟩ ?_
  refine lv_if_ne (tgt := 17) hx hb dX9_middle_9 (by decide) (fun hc => ?_) (fun hc => ?_)
  · replace hf := (if_neg hc).symm.trans hf
    refine lv_iconst (v := (0 : Int32)) hx hb dX9_middle_17 (by decide) ?_
    refine lv_istore_n (lv' := [(2, .int (0 : Int32)), (0, .ref (bd 0)), (1, .int p0)]) hx hb dX9_middle_18 rfl hl (by decide) rfl (fun ls hl => ?_)
    refine lv_iconst (v := (0 : Int32)) hx hb dX9_middle_19 (by decide) ?_
    refine lv_istore_n (lv' := [(3, .int (0 : Int32)), (2, .int (0 : Int32)), (0, .ref (bd 0)), (1, .int p0)]) hx hb dX9_middle_20 rfl hl (by decide) rfl (fun ls hl => ?_)
    refine lv_iconst (v := (0 : Int32)) hx hb dX9_middle_21 (by decide) ?_
    refine lv_istore (lv' := [(4, .int (0 : Int32)), (3, .int (0 : Int32)), (2, .int (0 : Int32)), (0, .ref (bd 0)), (1, .int p0)]) hx hb dX9_middle_22 hl (by decide) rfl (fun ls hl => ?_)
    have hL24 : ∀ (n : Nat) (v2_2 : Int32) (v3_3 : Int32) (v4_4 : Int32) (wmSiz_5 : Nat → Int32) (ov2_2 : Int32) (ov3_3 : Int32) (ov4_4 : Int32) (owmSiz_5 : Nat → Int32) (H : Heap) (locs : List Loc) (ls : Array Slot), lp (fX9_middle_L24 mVil mRts mLns p0) n (v2_2, v3_3, v4_4, wmSiz_5) = some (ov2_2, ov3_3, ov4_4, owmSiz_5) → va_P D vwCl (wM cI cB cZ bd mVil mBad mFul mLen mSig mWay mLef mSpo mBeg mTok mVal mWor mNum mThe mRts mLns mOpn mTxt mAns mWys wmSiz_5 mNbs) H → va_S A s.heap H locs → lv_has ls 6 [(0, .ref (bd 0)), (1, .int p0), (2, .int v2_2), (3, .int v3_3), (4, .int v4_4)] → (∀ (H : Heap) (locs : List Loc) (ls : Array Slot), va_P D vwCl (wM cI cB cZ bd mVil mBad mFul mLen mSig mWay mLef mSpo mBeg mTok mVal mWor mNum mThe mRts mLns mOpn mTxt mAns mWys owmSiz_5 mNbs) H → va_S A s.heap H locs → lv_has ls 6 [(0, .ref (bd 0)), (1, .int p0), (2, .int ov2_2), (3, .int ov3_3), (4, .int ov4_4)] → W p l e (rmN 2 49) s m args below meth c H locs 0 0 (MQ below (QI D (wM cI cB cZ bd mVil zmBad mFul mLen mSig mWay mLef mSpo mBeg mTok mVal mWor mNum mThe mRts mLns mOpn mTxt mAns mWys zmSiz mNbs) A rv) args s 0 0 A) (F0 m 110 ls [])) → W p l e (rmN 2 49) s m args below meth c H locs 0 0 (MQ below (QI D (wM cI cB cZ bd mVil zmBad mFul mLen mSig mWay mLef mSpo mBeg mTok mVal mWor mNum mThe mRts mLns mOpn mTxt mAns mWys zmSiz mNbs) A rv) args s 0 0 A) (F0 m 24 ls []) := by
      intro n
      induction n with
      | zero => intro v2_2 v3_3 v4_4 wmSiz_5 ov2_2 ov3_3 ov4_4 owmSiz_5 H locs ls hf; exact (lp_0 hf).elim
      | succ n ih =>
        intro v2_2 v3_3 v4_4 wmSiz_5 ov2_2 ov3_3 ov4_4 owmSiz_5 H locs ls hf hP hS hl hE
        replace hf := lp_s hf
        dsimp only [fX9_middle_L24] at hf
        refine lv_iload hx hb dX9_middle_24 (lv_at hl 4 rfl) ?_
        refine lv_aload_n hx hb dX9_middle_26 rfl (lv_at hl 0 rfl) ?_
        refine va_get (ci := 8) (v := .int mVil) (C := RX9) (T := TX9) (N := 22) hx hb hts hiX9 hown hK hP 0 rfl rfl 0 (by decide) (hts _ (List.mem_of_getElem? (i := 2) rfl)) (fun _ h9 => h9) rfl dX9_middle_27 ?_
        refine lv_icmp_ge (tgt := 110) hx hb dX9_middle_30 (by decide) (fun hc => ?_) (fun hc => ?_)
        · replace hf := (if_pos hc).symm.trans hf
          cases hf
          exact hE _ _ _ hP hS (lv_sub hl [0, 1, 2, 3, 4] rfl)
        · replace hf := (if_neg hc).symm.trans hf
          refine lv_iload_n hx hb dX9_middle_33 rfl (lv_at hl 1 rfl) ?_
          have hJ66 : ∀ (t_6 : Int32) (wmSiz_7 : Nat → Int32) (H : Heap) (locs : List Loc) (ls : Array Slot), fX9_middle_J66 v2_2 v3_3 v4_4 (lp (fX9_middle_L24 mVil mRts mLns p0) n) t_6 wmSiz_7 = some (ov2_2, ov3_3, ov4_4, owmSiz_5) → va_P D vwCl (wM cI cB cZ bd mVil mBad mFul mLen mSig mWay mLef mSpo mBeg mTok mVal mWor mNum mThe mRts mLns mOpn mTxt mAns mWys wmSiz_7 mNbs) H → va_S A s.heap H locs → lv_has ls 6 [(0, .ref (bd 0)), (1, .int p0), (2, .int v2_2), (3, .int v3_3), (4, .int v4_4)] → W p l e (rmN 2 49) s m args below meth c H locs 0 0 (MQ below (QI D (wM cI cB cZ bd mVil zmBad mFul mLen mSig mWay mLef mSpo mBeg mTok mVal mWor mNum mThe mRts mLns mOpn mTxt mAns mWys zmSiz mNbs) A rv) args s 0 0 A) (F0 m 66 ls [.int t_6]) := by
            intro t_6 wmSiz_7 H locs ls hf hP hS hl
            unfold fX9_middle_J66 at hf
            refine lv_istore (lv' := [(5, .int t_6), (0, .ref (bd 0)), (1, .int p0), (2, .int v2_2), (3, .int v3_3), (4, .int v4_4)]) hx hb dX9_middle_66 hl (by decide) rfl (fun ls hl => ?_)
            refine lv_iload hx hb dX9_middle_68 (lv_at hl 5 rfl) ?_
            have hJ85 : ∀ (t_8 : Int32) (H : Heap) (locs : List Loc) (ls : Array Slot), fX9_middle_J85 v3_3 v4_4 (lp (fX9_middle_L24 mVil mRts mLns p0) n) t_6 wmSiz_7 t_8 = some (ov2_2, ov3_3, ov4_4, owmSiz_5) → va_P D vwCl (wM cI cB cZ bd mVil mBad mFul mLen mSig mWay mLef mSpo mBeg mTok mVal mWor mNum mThe mRts mLns mOpn mTxt mAns mWys wmSiz_7 mNbs) H → va_S A s.heap H locs → lv_has ls 6 [(0, .ref (bd 0)), (1, .int p0), (2, .int v2_2), (3, .int v3_3), (4, .int v4_4), (5, .int t_6)] → W p l e (rmN 2 49) s m args below meth c H locs 0 0 (MQ below (QI D (wM cI cB cZ bd mVil zmBad mFul mLen mSig mWay mLef mSpo mBeg mTok mVal mWor mNum mThe mRts mLns mOpn mTxt mAns mWys zmSiz mNbs) A rv) args s 0 0 A) (F0 m 85 ls [.int t_8]) := by
              intro t_8 H locs ls hf hP hS hl
              unfold fX9_middle_J85 at hf
              refine lv_istore_n (lv' := [(2, .int t_8), (0, .ref (bd 0)), (1, .int p0), (3, .int v3_3), (4, .int v4_4), (5, .int t_6)]) hx hb dX9_middle_85 rfl hl (by decide) rfl (fun ls hl => ?_)
              refine lv_iload hx hb dX9_middle_86 (lv_at hl 4 rfl) ?_
              have hJ103 : ∀ (t_9 : Int32) (H : Heap) (locs : List Loc) (ls : Array Slot), fX9_middle_J103 v4_4 (lp (fX9_middle_L24 mVil mRts mLns p0) n) wmSiz_7 t_8 t_9 = some (ov2_2, ov3_3, ov4_4, owmSiz_5) → va_P D vwCl (wM cI cB cZ bd mVil mBad mFul mLen mSig mWay mLef mSpo mBeg mTok mVal mWor mNum mThe mRts mLns mOpn mTxt mAns mWys wmSiz_7 mNbs) H → va_S A s.heap H locs → lv_has ls 6 [(0, .ref (bd 0)), (1, .int p0), (2, .int t_8), (3, .int v3_3), (4, .int v4_4), (5, .int t_6)] → W p l e (rmN 2 49) s m args below meth c H locs 0 0 (MQ below (QI D (wM cI cB cZ bd mVil zmBad mFul mLen mSig mWay mLef mSpo mBeg mTok mVal mWor mNum mThe mRts mLns mOpn mTxt mAns mWys zmSiz mNbs) A rv) args s 0 0 A) (F0 m 103 ls [.int t_9]) := by
                intro t_9 H locs ls hf hP hS hl
                unfold fX9_middle_J103 at hf
                refine lv_istore_n (lv' := [(3, .int t_9), (0, .ref (bd 0)), (1, .int p0), (2, .int t_8), (4, .int v4_4), (5, .int t_6)]) hx hb dX9_middle_103 rfl hl (by decide) rfl (fun ls hl => ?_)
                refine lv_iinc (v := (v4_4 + (1 : Int32))) (lv' := [(4, .int (v4_4 + (1 : Int32))), (3, .int t_9), (0, .ref (bd 0)), (1, .int p0), (2, .int t_8), (5, .int t_6)]) hx hb dX9_middle_104 hl (k := 4) rfl rfl (by decide) rfl (fun ls hl => ?_)
                refine lv_goto (tgt := 24) hx hb dX9_middle_107 (by decide) ?_
                exact ih _ _ _ _ _ _ _ _ _ _ _ hf hP hS (lv_sub hl [2, 3, 4, 1, 0] rfl) hE
              have hJ97 : ∀  (H : Heap) (locs : List Loc) (ls : Array Slot), fX9_middle_J97 v4_4 (lp (fX9_middle_L24 mVil mRts mLns p0) n) t_6 wmSiz_7 t_8 = some (ov2_2, ov3_3, ov4_4, owmSiz_5) → va_P D vwCl (wM cI cB cZ bd mVil mBad mFul mLen mSig mWay mLef mSpo mBeg mTok mVal mWor mNum mThe mRts mLns mOpn mTxt mAns mWys wmSiz_7 mNbs) H → va_S A s.heap H locs → lv_has ls 6 [(0, .ref (bd 0)), (1, .int p0), (2, .int t_8), (3, .int v3_3), (4, .int v4_4), (5, .int t_6)] → W p l e (rmN 2 49) s m args below meth c H locs 0 0 (MQ below (QI D (wM cI cB cZ bd mVil zmBad mFul mLen mSig mWay mLef mSpo mBeg mTok mVal mWor mNum mThe mRts mLns mOpn mTxt mAns mWys zmSiz mNbs) A rv) args s 0 0 A) (F0 m 97 ls []) := by
                intro  H locs ls hf hP hS hl
                unfold fX9_middle_J97 at hf
                refine lv_iload hx hb dX9_middle_97 (lv_at hl 5 rfl) ?_
                refine lv_goto (tgt := 103) hx hb dX9_middle_99 (by decide) ?_
                exact hJ103 _ _ _ _ hf hP hS (lv_sub hl [0, 1, 2, 3, 4, 5] rfl)
              refine lv_if_eq (tgt := 97) hx hb dX9_middle_88 (by decide) (fun hc => ?_) (fun hc => ?_)
              · replace hf := (if_pos hc).symm.trans hf
                exact hJ97  _ _ _ hf hP hS (lv_sub hl [1, 2, 0, 3, 4, 5] rfl)
              · replace hf := (if_neg hc).symm.trans hf
                refine lv_iload hx hb dX9_middle_91 (lv_at hl 5 rfl) ?_
                refine lv_iload_n hx hb dX9_middle_93 rfl (lv_at hl 3 rfl) ?_
                refine lv_icmp_ge (tgt := 102) hx hb dX9_middle_94 (by decide) (fun hc => ?_) (fun hc => ?_)
                · replace hf := (if_pos hc).symm.trans hf
                  refine lv_iload_n hx hb dX9_middle_102 rfl (lv_at hl 3 rfl) ?_
                  exact hJ103 _ _ _ _ hf hP hS (lv_sub hl [1, 2, 0, 3, 4, 5] rfl)
                · replace hf := (if_neg hc).symm.trans hf
                  exact hJ97  _ _ _ hf hP hS (lv_sub hl [1, 2, 0, 3, 4, 5] rfl)
            have hJ79 : ∀  (H : Heap) (locs : List Loc) (ls : Array Slot), fX9_middle_J79 v3_3 v4_4 (lp (fX9_middle_L24 mVil mRts mLns p0) n) t_6 wmSiz_7 = some (ov2_2, ov3_3, ov4_4, owmSiz_5) → va_P D vwCl (wM cI cB cZ bd mVil mBad mFul mLen mSig mWay mLef mSpo mBeg mTok mVal mWor mNum mThe mRts mLns mOpn mTxt mAns mWys wmSiz_7 mNbs) H → va_S A s.heap H locs → lv_has ls 6 [(0, .ref (bd 0)), (1, .int p0), (2, .int v2_2), (3, .int v3_3), (4, .int v4_4), (5, .int t_6)] → W p l e (rmN 2 49) s m args below meth c H locs 0 0 (MQ below (QI D (wM cI cB cZ bd mVil zmBad mFul mLen mSig mWay mLef mSpo mBeg mTok mVal mWor mNum mThe mRts mLns mOpn mTxt mAns mWys zmSiz mNbs) A rv) args s 0 0 A) (F0 m 79 ls []) := by
              intro  H locs ls hf hP hS hl
              unfold fX9_middle_J79 at hf
              refine lv_iload hx hb dX9_middle_79 (lv_at hl 4 rfl) ?_
              refine lv_goto (tgt := 85) hx hb dX9_middle_81 (by decide) ?_
              exact hJ85 _ _ _ _ hf hP hS (lv_sub hl [0, 1, 2, 3, 4, 5] rfl)
            refine lv_if_eq (tgt := 79) hx hb dX9_middle_70 (by decide) (fun hc => ?_) (fun hc => ?_)
            · replace hf := (if_pos hc).symm.trans hf
              exact hJ79  _ _ _ hf hP hS (lv_sub hl [1, 2, 3, 4, 5, 0] rfl)
            · replace hf := (if_neg hc).symm.trans hf
              refine lv_iload hx hb dX9_middle_73 (lv_at hl 0 rfl) ?_
              refine lv_iload_n hx hb dX9_middle_75 rfl (lv_at hl 4 rfl) ?_
              refine lv_icmp_ge (tgt := 84) hx hb dX9_middle_76 (by decide) (fun hc => ?_) (fun hc => ?_)
              · replace hf := (if_pos hc).symm.trans hf
                refine lv_iload_n hx hb dX9_middle_84 rfl (lv_at hl 3 rfl) ?_
                exact hJ85 _ _ _ _ hf hP hS (lv_sub hl [1, 2, 3, 4, 5, 0] rfl)
              · replace hf := (if_neg hc).symm.trans hf
                exact hJ79  _ _ _ hf hP hS (lv_sub hl [1, 2, 3, 4, 5, 0] rfl)
          refine lv_if_ne (tgt := 46) hx hb dX9_middle_34 (by decide) (fun hc => ?_) (fun hc => ?_)
          · replace hf := (if_neg hc).symm.trans hf
            refine lv_iload_n hx hb dX9_middle_46 rfl (lv_at hl 1 rfl) ?_
            refine lv_iconst (v := (1 : Int32)) hx hb dX9_middle_47 (by decide) ?_
            refine lv_icmp_ne (tgt := 60) hx hb dX9_middle_48 (by decide) (fun hc => ?_) (fun hc => ?_)
            · replace hf := (if_neg hc).symm.trans hf
              refine lv_aload_n hx hb dX9_middle_60 rfl (lv_at hl 0 rfl) ?_
              refine lv_iload hx hb dX9_middle_61 (lv_at hl 4 rfl) ?_
              obtain ⟨⟨r_10, qmSiz_11⟩, hq, hf⟩ := ob hf
              try dsimp only at hf
              refine mcVi 0 8 (As := [.int v4_4]) (rest := []) ⟨hx, hb, hml, hown, hts⟩ (ctX9_restOf l D cI cB cZ bd A hAD mVil mBad mFul mLen mSig mWay mLef mSpo mBeg mTok mVal mWor mNum mThe mRts mLns mOpn mTxt mAns mWys wmSiz_5 mNbs v4_4 r_10 qmSiz_11 hq) (cwV 1 hts gX9_middle_X9_restOf rfl rfl rfl (by decide +kernel) ⟨Nat.le_of_ble_eq_true rfl, Nat.le_of_ble_eq_true rfl⟩) hK hP hS rfl rfl rfl hl.1 rfl (Nat.le_of_ble_eq_true rfl) dX9_middle_63 ⟨Nat.zero_le _, Nat.zero_le _⟩ (fun H locs hP hS => ?_)
              exact hJ66 _ _ _ _ _ hf hP hS (lv_sub hl [0, 1, 2, 3, 4] rfl)
            · replace hf := (if_pos hc).symm.trans hf
              refine lv_aload_n hx hb dX9_middle_51 rfl (lv_at hl 0 rfl) ?_
              refine lv_iload hx hb dX9_middle_52 (lv_at hl 4 rfl) ?_
              obtain ⟨r_12, hq, hf⟩ := ob hf
              try dsimp only at hf
              refine rcV 0 8 (As := [.int v4_4]) (rest := []) ⟨hx, hb, hml, hown, hts⟩ (ctX9_sumFrom l D cI cB cZ bd mVil mBad mFul mLen mSig mWay mLef mSpo mBeg mTok mVal mWor mNum mThe mRts mLns mOpn mTxt mAns mWys wmSiz_5 mNbs v4_4 r_12 hq) (cwV 1 hts gX9_middle_X9_sumFrom rfl rfl rfl (by decide +kernel) ⟨Nat.le_of_ble_eq_true rfl, Nat.le_of_ble_eq_true rfl⟩) hK hP rfl rfl rfl hl.1 rfl (Nat.le_of_ble_eq_true rfl) dX9_middle_54 ⟨Nat.zero_le _, Nat.zero_le _⟩ ?_
              refine lv_goto (tgt := 66) hx hb dX9_middle_57 (by decide) ?_
              exact hJ66 _ _ _ _ _ hf hP hS (lv_sub hl [0, 1, 2, 3, 4] rfl)
          · replace hf := (if_pos hc).symm.trans hf
            refine lv_aload_n hx hb dX9_middle_37 rfl (lv_at hl 0 rfl) ?_
            refine lv_iload hx hb dX9_middle_38 (lv_at hl 4 rfl) ?_
            obtain ⟨r_13, hq, hf⟩ := ob hf
            try dsimp only at hf
            refine rcV 0 8 (As := [.int v4_4]) (rest := []) ⟨hx, hb, hml, hown, hts⟩ (ctX9_farthest l D cI cB cZ bd mVil mBad mFul mLen mSig mWay mLef mSpo mBeg mTok mVal mWor mNum mThe mRts mLns mOpn mTxt mAns mWys wmSiz_5 mNbs v4_4 r_13 hq) (cwV 1 hts gX9_middle_X9_farthest rfl rfl rfl (by decide +kernel) ⟨Nat.le_of_ble_eq_true rfl, Nat.le_of_ble_eq_true rfl⟩) hK hP rfl rfl rfl hl.1 rfl (Nat.le_of_ble_eq_true rfl) dX9_middle_40 ⟨Nat.zero_le _, Nat.zero_le _⟩ ?_
            refine lv_goto (tgt := 66) hx hb dX9_middle_43 (by decide) ?_
            exact hJ66 _ _ _ _ _ hf hP hS (lv_sub hl [0, 1, 2, 3, 4] rfl)
    obtain ⟨⟨ov2_2, ov3_3, ov4_4, owmSiz_5⟩, hq, hf⟩ := ob hf
    try dsimp only at hf
    refine hL24 FU _ _ _ _ ov2_2 ov3_3 ov4_4 owmSiz_5 _ _ ls hq hP hS (lv_sub hl [3, 4, 2, 1, 0] rfl) (fun H locs ls hP hS hl => ?_)
    refine lv_iload_n hx hb dX9_middle_110 rfl (lv_at hl 2 rfl) ?_
    obtain ⟨e0, hz1⟩ := Prod.mk.inj (Option.some.inj hf)
    obtain ⟨e1, hz2⟩ := Prod.mk.inj hz1
    subst e0
    subst e1
    subst hz2
    exact rm_i hx hb hr hlk hP hS dX9_middle_111
  · replace hf := (if_pos hc).symm.trans hf
    refine lv_aload_n hx hb dX9_middle_12 rfl (lv_at hl 0 rfl) ?_
    obtain ⟨⟨r_14, qmBad_15⟩, hq, hf⟩ := ob hf
    try dsimp only at hf
    refine mcVi 0 8 (As := []) (rest := []) ⟨hx, hb, hml, hown, hts⟩ (ctX9_refuse l D cI cB cZ bd A hAD mVil mBad mFul mLen mSig mWay mLef mSpo mBeg mTok mVal mWor mNum mThe mRts mLns mOpn mTxt mAns mWys mSiz mNbs  r_14 qmBad_15 hq) (cwV 0 hts gX9_middle_X9_refuse rfl rfl rfl (by decide +kernel) ⟨Nat.le_of_ble_eq_true rfl, Nat.le_of_ble_eq_true rfl⟩) hK hP hS rfl rfl rfl hl.1 rfl (Nat.le_of_ble_eq_true rfl) dX9_middle_13 ⟨Nat.zero_le _, Nat.zero_le _⟩ (fun H locs hP hS => ?_)
    obtain ⟨e0, hz1⟩ := Prod.mk.inj (Option.some.inj hf)
    obtain ⟨e1, hz2⟩ := Prod.mk.inj hz1
    subst e0
    subst e1
    subst hz2
    exact rm_i hx hb hr hlk hP hS dX9_middle_16

def fX9_openMany_J27 (v1_1 : Int32) (v2_2 : Int32) (kk : (Int32 × Int32) → Option (Int32 × Int32)) (t_3 : Int32) : Option (Int32 × Int32) :=
  (kk ((v1_1 + t_3), (v2_2 + (1 : Int32))))
def fX9_openMany_L4 (mVil : Int32) (mOpn : Nat → Int32) (kk : (Int32 × Int32) → Option (Int32 × Int32)) (ww : Int32 × Int32) : Option (Int32 × Int32) :=
  match ww with
  | (v1_1, v2_2) => (if mVil ≤ v2_2 then (some (v1_1, v2_2)) else (if gI v2_2 60 then (if (mOpn (v2_2).toNatClampNeg) = 0 then (fX9_openMany_J27 v1_1 v2_2 kk (0 : Int32)) else (fX9_openMany_J27 v1_1 v2_2 kk (1 : Int32))) else none))
def fX9_openMany (mVil : Int32) (mOpn : Nat → Int32)  : Option (Int32) :=
  ((lp (fX9_openMany_L4 mVil mOpn) FU ((0 : Int32), (0 : Int32))).bind fun (ov1_1, ov2_2) => (some ov1_1))
set_option maxRecDepth 100000 in
set_option maxHeartbeats 4000000 in
theorem ctX9_openMany (l : Launch) (D : va_G) (cI cB cZ : ClassId) (bd : Nat → Nat) (mVil mBad mFul mLen mSig mWay mLef mSpo mBeg mTok mVal mWor mNum mThe : Int32) (mRts mLns mOpn mTxt mAns mWys mSiz mNbs : Nat → Int32)  (rv : Int32) (hf : fX9_openMany mVil mOpn = some rv) : Met l yX9_openMany wsX9_openMany (rmN 0 0) (PR D (tyL cI cB cZ) (wM cI cB cZ bd mVil mBad mFul mLen mSig mWay mLef mSpo mBeg mTok mVal mWor mNum mThe mRts mLns mOpn mTxt mAns mWys mSiz mNbs) [.ref (bd 0)]) (SI rv) 0 0 (fun _ => False) := by
  refine mk_met cX9_openMany 3 (some .int) (by decide) rfl (Nat.le_of_ble_eq_true rfl) ?_
  intro p e s m args below meth c ls hx hb hr hlk hml hown hts hPK hl
  obtain ⟨hP, hK⟩ := hPK
  replace hl : lv_has ls 3 [(0, .ref (bd 0))] := hl
  replace hown : s.vm.findClass RX9 = some m.cls := hown
  have hiX9 : ∀ w ∈ wsX90, w ∈ wsX9_openMany := fun w h => List.mem_cons_of_mem _ (List.mem_append_right _ h)
  unfold fX9_openMany at hf
  refine lv_iconst (v := (0 : Int32)) hx hb dX9_openMany_0 (by decide) ?_
  refine lv_istore_n (lv' := [(1, .int (0 : Int32)), (0, .ref (bd 0))]) hx hb dX9_openMany_1 rfl hl (by decide) rfl (fun ls hl => ?_)
  refine lv_iconst (v := (0 : Int32)) hx hb dX9_openMany_2 (by decide) ?_
  refine lv_istore_n (lv' := [(2, .int (0 : Int32)), (1, .int (0 : Int32)), (0, .ref (bd 0))]) hx hb dX9_openMany_3 rfl hl (by decide) rfl (fun ls hl => ?_)
  have hL4 : ∀ (n : Nat) (v1_1 : Int32) (v2_2 : Int32) (ov1_1 : Int32) (ov2_2 : Int32) (ls : Array Slot), lp (fX9_openMany_L4 mVil mOpn) n (v1_1, v2_2) = some (ov1_1, ov2_2) → lv_has ls 3 [(0, .ref (bd 0)), (1, .int v1_1), (2, .int v2_2)] → (∀ (ls : Array Slot), lv_has ls 3 [(0, .ref (bd 0)), (1, .int ov1_1), (2, .int ov2_2)] → W p l e (rmN 0 0) s m args below meth c s.heap [] 0 0 (MQ below (SI rv) args s 0 0 (fun _ => False)) (F0 m 35 ls [])) → W p l e (rmN 0 0) s m args below meth c s.heap [] 0 0 (MQ below (SI rv) args s 0 0 (fun _ => False)) (F0 m 4 ls []) := by
    intro n
    induction n with
    | zero => intro v1_1 v2_2 ov1_1 ov2_2 ls hf; exact (lp_0 hf).elim
    | succ n ih =>
      intro v1_1 v2_2 ov1_1 ov2_2 ls hf hl hE
      replace hf := lp_s hf
      dsimp only [fX9_openMany_L4] at hf
      refine lv_iload_n hx hb dX9_openMany_4 rfl (lv_at hl 2 rfl) ?_
      refine lv_aload_n hx hb dX9_openMany_5 rfl (lv_at hl 0 rfl) ?_
      refine va_get (ci := 8) (v := .int mVil) (C := RX9) (T := TX9) (N := 22) hx hb hts hiX9 hown hK hP 0 rfl rfl 0 (by decide) (hts _ (List.mem_of_getElem? (i := 1) rfl)) (fun _ h9 => h9) rfl dX9_openMany_6 ?_
      refine lv_icmp_ge (tgt := 35) hx hb dX9_openMany_9 (by decide) (fun hc => ?_) (fun hc => ?_)
      · replace hf := (if_pos hc).symm.trans hf
        cases hf
        exact hE _ (lv_sub hl [0, 1, 2] rfl)
      · replace hf := (if_neg hc).symm.trans hf
        refine lv_iload_n hx hb dX9_openMany_12 rfl (lv_at hl 1 rfl) ?_
        refine lv_aload_n hx hb dX9_openMany_13 rfl (lv_at hl 0 rfl) ?_
        refine va_get (ci := 8) (v := .ref (bd 3)) (C := RX9) (T := TX9) (N := 22) hx hb hts hiX9 hown hK hP 0 rfl rfl 3 (by decide) (hts _ (List.mem_of_getElem? (i := 2) rfl)) (fun _ h9 => h9) rfl dX9_openMany_14 ?_
        refine lv_iload_n hx hb dX9_openMany_17 rfl (lv_at hl 2 rfl) ?_
        obtain ⟨hg, hf⟩ := og hf
        refine va_zald hx hb hK hP 3 2 rfl rfl (gI_in hg) dX9_openMany_18 ?_
        have hJ27 : ∀ (t_3 : Int32) (ls : Array Slot), fX9_openMany_J27 v1_1 v2_2 (lp (fX9_openMany_L4 mVil mOpn) n) t_3 = some (ov1_1, ov2_2) → lv_has ls 3 [(0, .ref (bd 0)), (1, .int v1_1), (2, .int v2_2)] → W p l e (rmN 0 0) s m args below meth c s.heap [] 0 0 (MQ below (SI rv) args s 0 0 (fun _ => False)) (F0 m 27 ls [.int t_3, .int v1_1]) := by
          intro t_3 ls hf hl
          unfold fX9_openMany_J27 at hf
          refine lv_iadd hx hb dX9_openMany_27 ?_
          refine lv_istore_n (lv' := [(1, .int (v1_1 + t_3)), (0, .ref (bd 0)), (2, .int v2_2)]) hx hb dX9_openMany_28 rfl hl (by decide) rfl (fun ls hl => ?_)
          refine lv_iinc (v := (v2_2 + (1 : Int32))) (lv' := [(2, .int (v2_2 + (1 : Int32))), (1, .int (v1_1 + t_3)), (0, .ref (bd 0))]) hx hb dX9_openMany_29 hl (k := 2) rfl rfl (by decide) rfl (fun ls hl => ?_)
          refine lv_goto (tgt := 4) hx hb dX9_openMany_32 (by decide) ?_
          exact ih _ _ _ _ _ hf (lv_sub hl [2, 1, 0] rfl) hE
        refine lv_if_eq (tgt := 26) hx hb dX9_openMany_19 (by decide) (fun hc => ?_) (fun hc => ?_)
        · replace hf := (if_pos hc).symm.trans hf
          refine lv_iconst (v := (0 : Int32)) hx hb dX9_openMany_26 (by decide) ?_
          exact hJ27 _ _ hf (lv_sub hl [0, 1, 2] rfl)
        · replace hf := (if_neg hc).symm.trans hf
          refine lv_iconst (v := (1 : Int32)) hx hb dX9_openMany_22 (by decide) ?_
          refine lv_goto (tgt := 27) hx hb dX9_openMany_23 (by decide) ?_
          exact hJ27 _ _ hf (lv_sub hl [0, 1, 2] rfl)
  obtain ⟨⟨ov1_1, ov2_2⟩, hq, hf⟩ := ob hf
  try dsimp only at hf
  refine hL4 FU _ _ ov1_1 ov2_2 ls hq (lv_sub hl [2, 1, 0] rfl) (fun ls hl => ?_)
  refine lv_iload_n hx hb dX9_openMany_35 rfl (lv_at hl 1 rfl) ?_
  exact re_i hx hb hr hlk dX9_openMany_36 hf
