def fX9_nearestOf_J47 (v3_2 : Int32) (kk : (Int32 × Int32) → Option (Int32 × Int32)) (t_3 : Int32) : Option (Int32 × Int32) :=
  (kk (t_3, (v3_2 + (-1 : Int32))))
def fX9_nearestOf_J46 (v2_1 : Int32) (v3_2 : Int32) (kk : (Int32 × Int32) → Option (Int32 × Int32)) : Option (Int32 × Int32) :=
  (fX9_nearestOf_J47 v3_2 kk v2_1)
def fX9_nearestOf_J42 (v3_2 : Int32) (kk : (Int32 × Int32) → Option (Int32 × Int32)) : Option (Int32 × Int32) :=
  (fX9_nearestOf_J47 v3_2 kk v3_2)
def fX9_nearestOf_L9 (mRts : Nat → Int32) (mLns : Nat → Int32) (mOpn : Nat → Int32) (p0 : Int32) (kk : (Int32 × Int32) → Option (Int32 × Int32)) (ww : Int32 × Int32) : Option (Int32 × Int32) :=
  match ww with
  | (v2_1, v3_2) => (if v3_2 < 0 then (some (v2_1, v3_2)) else (if gI v3_2 60 then (if (mOpn (v3_2).toNatClampNeg) = 0 then (fX9_nearestOf_J46 v2_1 v3_2 kk) else (if v2_1 = (-1 : Int32) then (fX9_nearestOf_J42 v3_2 kk) else ((fX9_farFrom mRts mLns v3_2 p0).bind fun r_4 => ((fX9_farFrom mRts mLns v2_1 p0).bind fun r_5 => (if r_5 < r_4 then (fX9_nearestOf_J46 v2_1 v3_2 kk) else (fX9_nearestOf_J42 v3_2 kk)))))) else none))
def fX9_nearestOf (mVil : Int32) (mRts : Nat → Int32) (mLns : Nat → Int32) (mOpn : Nat → Int32) (p0 : Int32) : Option (Int32) :=
  ((lp (fX9_nearestOf_L9 mRts mLns mOpn p0) FU ((-1 : Int32), (mVil - (1 : Int32)))).bind fun (ov2_1, ov3_2) => (some ov2_1))
set_option maxRecDepth 100000 in
set_option maxHeartbeats 4000000 in
theorem ctX9_nearestOf (l : Launch) (D : va_G) (cI cB cZ : ClassId) (bd : Nat → Nat) (mVil mBad mFul mLen mSig mWay mLef mSpo mBeg mTok mVal mWor mNum mThe : Int32) (mRts mLns mOpn mTxt mAns mWys mSiz mNbs : Nat → Int32) (p0 : Int32) (rv : Int32) (hf : fX9_nearestOf mVil mRts mLns mOpn p0 = some rv) : Met l yX9_nearestOf wsX9_nearestOf (rmN 1 25) (PR D (tyL cI cB cZ) (wM cI cB cZ bd mVil mBad mFul mLen mSig mWay mLef mSpo mBeg mTok mVal mWor mNum mThe mRts mLns mOpn mTxt mAns mWys mSiz mNbs) [.ref (bd 0), .int p0]) (SI rv) 0 0 (fun _ => False) := by
  refine mk_met cX9_nearestOf 4 (some .int) (by decide) rfl (Nat.le_of_ble_eq_true rfl) ?_
  intro p e s m args below meth c ls hx hb hr hlk hml hown hts hPK hl
  obtain ⟨hP, hK⟩ := hPK
  replace hl : lv_has ls 4 [(0, .ref (bd 0)), (1, .int p0)] := hl
  replace hown : s.vm.findClass RX9 = some m.cls := hown
  have hiX9 : ∀ w ∈ wsX90, w ∈ wsX9_nearestOf := fun w h => List.mem_cons_of_mem _ (List.mem_append_right _ h)
  unfold fX9_nearestOf at hf
  refine lv_iconst (v := (-1 : Int32)) hx hb dX9_nearestOf_0 (by decide) ?_
  refine lv_istore_n (lv' := [(2, .int (-1 : Int32)), (0, .ref (bd 0)), (1, .int p0)]) hx hb dX9_nearestOf_1 rfl hl (by decide) rfl (fun ls hl => ?_)
  refine lv_aload_n hx hb dX9_nearestOf_2 rfl (lv_at hl 1 rfl) ?_
  refine va_get (ci := 8) (v := .int mVil) (C := RX9) (T := TX9) (N := 22) hx hb hts hiX9 hown hK hP 0 rfl rfl 0 (by decide) (hts _ (List.mem_of_getElem? (i := 1) rfl)) (fun _ h9 => h9) rfl dX9_nearestOf_3 ?_
  refine lv_iconst (v := (1 : Int32)) hx hb dX9_nearestOf_6 (by decide) ?_
  refine lv_isub hx hb dX9_nearestOf_7 ?_
  refine lv_istore_n (lv' := [(3, .int (mVil - (1 : Int32))), (2, .int (-1 : Int32)), (0, .ref (bd 0)), (1, .int p0)]) hx hb dX9_nearestOf_8 rfl hl (by decide) rfl (fun ls hl => ?_)
  have hL9 : ∀ (n : Nat) (v2_1 : Int32) (v3_2 : Int32) (ov2_1 : Int32) (ov3_2 : Int32) (ls : Array Slot), lp (fX9_nearestOf_L9 mRts mLns mOpn p0) n (v2_1, v3_2) = some (ov2_1, ov3_2) → lv_has ls 4 [(0, .ref (bd 0)), (1, .int p0), (2, .int v2_1), (3, .int v3_2)] → (∀ (ls : Array Slot), lv_has ls 4 [(0, .ref (bd 0)), (1, .int p0), (2, .int ov2_1), (3, .int ov3_2)] → W p l e (rmN 1 25) s m args below meth c s.heap [] 0 0 (MQ below (SI rv) args s 0 0 (fun _ => False)) (F0 m 54 ls [])) → W p l e (rmN 1 25) s m args below meth c s.heap [] 0 0 (MQ below (SI rv) args s 0 0 (fun _ => False)) (F0 m 9 ls []) := by
    intro n
    induction n with
    | zero => intro v2_1 v3_2 ov2_1 ov3_2 ls hf; exact (lp_0 hf).elim
    | succ n ih =>
      intro v2_1 v3_2 ov2_1 ov3_2 ls hf hl hE
      replace hf := lp_s hf
      dsimp only [fX9_nearestOf_L9] at hf
      refine lv_iload_n hx hb dX9_nearestOf_9 rfl (lv_at hl 3 rfl) ?_
      refine lv_if_lt (tgt := 54) hx hb dX9_nearestOf_10 (by decide) (fun hc => ?_) (fun hc => ?_)
      · replace hf := (if_pos hc).symm.trans hf
        cases hf
        exact hE _ (lv_sub hl [0, 1, 2, 3] rfl)
      · replace hf := (if_neg hc).symm.trans hf
        refine lv_aload_n hx hb dX9_nearestOf_13 rfl (lv_at hl 0 rfl) ?_
        refine va_get (ci := 8) (v := .ref (bd 3)) (C := RX9) (T := TX9) (N := 22) hx hb hts hiX9 hown hK hP 0 rfl rfl 3 (by decide) (hts _ (List.mem_of_getElem? (i := 2) rfl)) (fun _ h9 => h9) rfl dX9_nearestOf_14 ?_
        refine lv_iload_n hx hb dX9_nearestOf_17 rfl (lv_at hl 3 rfl) ?_
        obtain ⟨hg, hf⟩ := og hf
        refine va_zald hx hb hK hP 3 2 rfl rfl (gI_in hg) dX9_nearestOf_18 ?_
        have hJ47 : ∀ (t_3 : Int32) (ls : Array Slot), fX9_nearestOf_J47 v3_2 (lp (fX9_nearestOf_L9 mRts mLns mOpn p0) n) t_3 = some (ov2_1, ov3_2) → lv_has ls 4 [(0, .ref (bd 0)), (1, .int p0), (2, .int v2_1), (3, .int v3_2)] → W p l e (rmN 1 25) s m args below meth c s.heap [] 0 0 (MQ below (SI rv) args s 0 0 (fun _ => False)) (F0 m 47 ls [.int t_3]) := by
          intro t_3 ls hf hl
          unfold fX9_nearestOf_J47 at hf
          refine lv_istore_n (lv' := [(2, .int t_3), (0, .ref (bd 0)), (1, .int p0), (3, .int v3_2)]) hx hb dX9_nearestOf_47 rfl hl (by decide) rfl (fun ls hl => ?_)
          refine lv_iinc (v := (v3_2 + (-1 : Int32))) (lv' := [(3, .int (v3_2 + (-1 : Int32))), (2, .int t_3), (0, .ref (bd 0)), (1, .int p0)]) hx hb dX9_nearestOf_48 hl (k := 3) rfl rfl (by decide) rfl (fun ls hl => ?_)
          refine lv_goto (tgt := 9) hx hb dX9_nearestOf_51 (by decide) ?_
          exact ih _ _ _ _ _ hf (lv_sub hl [2, 3, 1, 0] rfl) hE
        have hJ46 : ∀  (ls : Array Slot), fX9_nearestOf_J46 v2_1 v3_2 (lp (fX9_nearestOf_L9 mRts mLns mOpn p0) n) = some (ov2_1, ov3_2) → lv_has ls 4 [(0, .ref (bd 0)), (1, .int p0), (2, .int v2_1), (3, .int v3_2)] → W p l e (rmN 1 25) s m args below meth c s.heap [] 0 0 (MQ below (SI rv) args s 0 0 (fun _ => False)) (F0 m 46 ls []) := by
          intro  ls hf hl
          unfold fX9_nearestOf_J46 at hf
          refine lv_iload_n hx hb dX9_nearestOf_46 rfl (lv_at hl 2 rfl) ?_
          exact hJ47 _ _ hf (lv_sub hl [0, 1, 2, 3] rfl)
        refine lv_if_eq (tgt := 46) hx hb dX9_nearestOf_19 (by decide) (fun hc => ?_) (fun hc => ?_)
        · replace hf := (if_pos hc).symm.trans hf
          exact hJ46  _ hf (lv_sub hl [0, 1, 2, 3] rfl)
        · replace hf := (if_neg hc).symm.trans hf
          refine lv_iload_n hx hb dX9_nearestOf_22 rfl (lv_at hl 2 rfl) ?_
          refine lv_iconst (v := (-1 : Int32)) hx hb dX9_nearestOf_23 (by decide) ?_
          have hJ42 : ∀  (ls : Array Slot), fX9_nearestOf_J42 v3_2 (lp (fX9_nearestOf_L9 mRts mLns mOpn p0) n) = some (ov2_1, ov3_2) → lv_has ls 4 [(0, .ref (bd 0)), (1, .int p0), (2, .int v2_1), (3, .int v3_2)] → W p l e (rmN 1 25) s m args below meth c s.heap [] 0 0 (MQ below (SI rv) args s 0 0 (fun _ => False)) (F0 m 42 ls []) := by
            intro  ls hf hl
            unfold fX9_nearestOf_J42 at hf
            refine lv_iload_n hx hb dX9_nearestOf_42 rfl (lv_at hl 3 rfl) ?_
            refine lv_goto (tgt := 47) hx hb dX9_nearestOf_43 (by decide) ?_
            exact hJ47 _ _ hf (lv_sub hl [0, 1, 2, 3] rfl)
          refine lv_icmp_eq (tgt := 42) hx hb dX9_nearestOf_24 (by decide) (fun hc => ?_) (fun hc => ?_)
          · replace hf := (if_pos hc).symm.trans hf
            exact hJ42  _ hf (lv_sub hl [0, 1, 2, 3] rfl)
          · replace hf := (if_neg hc).symm.trans hf
            refine lv_aload_n hx hb dX9_nearestOf_27 rfl (lv_at hl 0 rfl) ?_
            refine lv_iload_n hx hb dX9_nearestOf_28 rfl (lv_at hl 3 rfl) ?_
            refine lv_iload_n hx hb dX9_nearestOf_29 rfl (lv_at hl 1 rfl) ?_
            obtain ⟨r_4, hq, hf⟩ := ob hf
            try dsimp only at hf
            refine rcV 0 8 (As := [.int v3_2, .int p0]) (rest := []) ⟨hx, hb, hml, hown, hts⟩ (ctX9_farFrom l D cI cB cZ bd mVil mBad mFul mLen mSig mWay mLef mSpo mBeg mTok mVal mWor mNum mThe mRts mLns mOpn mTxt mAns mWys mSiz mNbs v3_2 p0 r_4 hq) (cwV 2 hts gX9_nearestOf_X9_farFrom rfl rfl rfl (by decide +kernel) ⟨Nat.le_of_ble_eq_true rfl, Nat.le_of_ble_eq_true rfl⟩) hK hP rfl rfl rfl hl.1 rfl (Nat.le_of_ble_eq_true rfl) dX9_nearestOf_30 ⟨Nat.zero_le _, Nat.zero_le _⟩ ?_
            refine lv_aload_n hx hb dX9_nearestOf_33 rfl (lv_at hl 0 rfl) ?_
            refine lv_iload_n hx hb dX9_nearestOf_34 rfl (lv_at hl 2 rfl) ?_
            refine lv_iload_n hx hb dX9_nearestOf_35 rfl (lv_at hl 1 rfl) ?_
            obtain ⟨r_5, hq, hf⟩ := ob hf
            try dsimp only at hf
            refine rcV 0 8 (As := [.int v2_1, .int p0]) (rest := [.int r_4]) ⟨hx, hb, hml, hown, hts⟩ (ctX9_farFrom l D cI cB cZ bd mVil mBad mFul mLen mSig mWay mLef mSpo mBeg mTok mVal mWor mNum mThe mRts mLns mOpn mTxt mAns mWys mSiz mNbs v2_1 p0 r_5 hq) (cwV 2 hts gX9_nearestOf_X9_farFrom rfl rfl rfl (by decide +kernel) ⟨Nat.le_of_ble_eq_true rfl, Nat.le_of_ble_eq_true rfl⟩) hK hP rfl rfl rfl hl.1 rfl (Nat.le_of_ble_eq_true rfl) dX9_nearestOf_36 ⟨Nat.zero_le _, Nat.zero_le _⟩ ?_
            refine lv_icmp_gt (tgt := 46) hx hb dX9_nearestOf_39 (by decide) (fun hc => ?_) (fun hc => ?_)
            · replace hf := (if_pos hc).symm.trans hf
              exact hJ46  _ hf (lv_sub hl [0, 1, 2, 3] rfl)
            · replace hf := (if_neg hc).symm.trans hf
              exact hJ42  _ hf (lv_sub hl [0, 1, 2, 3] rfl)
  obtain ⟨⟨ov2_1, ov3_2⟩, hq, hf⟩ := ob hf
  try dsimp only at hf
  refine hL9 FU _ _ ov2_1 ov3_2 ls hq (lv_sub hl [2, 3, 1, 0] rfl) (fun ls hl => ?_)
  refine lv_iload_n hx hb dX9_nearestOf_54 rfl (lv_at hl 2 rfl) ?_
  exact re_i hx hb hr hlk dX9_nearestOf_55 hf

def fX9_nearest_J18 (mBad : Int32) : Option (Int32 × Int32) :=
  ((fX9_refuse mBad).bind fun (r_2, qmBad_3) => (some (r_2, qmBad_3)))
def fX9_nearest_J38 (mBad : Int32) (r_5 : Int32) : Option (Int32 × Int32) :=
  (some (r_5, mBad))
def fX9_nearest (mVil : Int32) (mBad : Int32) (mRts : Nat → Int32) (mLns : Nat → Int32) (mOpn : Nat → Int32) (p0 : Int32) (p1 : Int32) : Option (Int32 × Int32) :=
  ((fX9_isVillage mVil p0).bind fun r_1 => (if r_1 = 0 then (fX9_nearest_J18 mBad) else ((fX9_in (p1).toInt64 (0 : Int64) (1 : Int64)).bind fun r_4 => (if r_4 = 0 then (fX9_nearest_J18 mBad) else ((fX9_nearestOf mVil mRts mLns mOpn p0).bind fun r_5 => (if p1 = 0 then (fX9_nearest_J38 mBad r_5) else (if r_5 = (-1 : Int32) then (fX9_nearest_J38 mBad r_5) else ((fX9_farFrom mRts mLns r_5 p0).bind fun r_6 => (some (r_6, mBad))))))))))
set_option maxRecDepth 100000 in
set_option maxHeartbeats 4000000 in
theorem ctX9_nearest (l : Launch) (D : va_G) (cI cB cZ : ClassId) (bd : Nat → Nat) (A : Nat → Prop) (hAD : AD A bd 9) (mVil mBad mFul mLen mSig mWay mLef mSpo mBeg mTok mVal mWor mNum mThe : Int32) (mRts mLns mOpn mTxt mAns mWys mSiz mNbs : Nat → Int32) (p0 : Int32) (p1 : Int32) (rv : Int32) (zmBad : Int32) (hf : fX9_nearest mVil mBad mRts mLns mOpn p0 p1 = some (rv, zmBad)) : Met l yX9_nearest wsX9_nearest (rmN 2 48) (PR D (tyL cI cB cZ) (wM cI cB cZ bd mVil mBad mFul mLen mSig mWay mLef mSpo mBeg mTok mVal mWor mNum mThe mRts mLns mOpn mTxt mAns mWys mSiz mNbs) [.ref (bd 0), .int p0, .int p1]) (QI D (wM cI cB cZ bd mVil zmBad mFul mLen mSig mWay mLef mSpo mBeg mTok mVal mWor mNum mThe mRts mLns mOpn mTxt mAns mWys mSiz mNbs) A rv) 0 0 A := by
  refine mk_met cX9_nearest 4 (some .int) (by decide) rfl (Nat.le_of_ble_eq_true rfl) ?_
  intro p e s m args below meth c ls hx hb hr hlk hml hown hts hPK hl
  obtain ⟨hP, hK⟩ := hPK
  replace hl : lv_has ls 4 [(0, .ref (bd 0)), (1, .int p0), (2, .int p1)] := hl
  replace hown : s.vm.findClass RX9 = some m.cls := hown
  have hS : va_S A s.heap s.heap [] := va_S.rf
  unfold fX9_nearest at hf
  refine lv_aload_n hx hb dX9_nearest_0 rfl (lv_at hl 0 rfl) ?_
  refine lv_iload_n hx hb dX9_nearest_1 rfl (lv_at hl 1 rfl) ?_
  obtain ⟨r_1, hq, hf⟩ := ob hf
  try dsimp only at hf
  refine rcV 0 8 (As := [.int p0]) (rest := []) ⟨hx, hb, hml, hown, hts⟩ (ctX9_isVillage l D cI cB cZ bd mVil mBad mFul mLen mSig mWay mLef mSpo mBeg mTok mVal mWor mNum mThe mRts mLns mOpn mTxt mAns mWys mSiz mNbs p0 r_1 hq) (cwV 1 hts gX9_nearest_X9_isVillage rfl rfl rfl (by decide +kernel) ⟨Nat.le_of_ble_eq_true rfl, Nat.le_of_ble_eq_true rfl⟩) hK hP rfl rfl rfl hl.1 rfl (Nat.le_of_ble_eq_true rfl) dX9_nearest_2 ⟨Nat.zero_le _, Nat.zero_le _⟩ ?_
  have hJ18 : ∀  (H : Heap) (locs : List Loc) (ls : Array Slot), fX9_nearest_J18 mBad = some (rv, zmBad) → va_P D vwCl (wM cI cB cZ bd mVil mBad mFul mLen mSig mWay mLef mSpo mBeg mTok mVal mWor mNum mThe mRts mLns mOpn mTxt mAns mWys mSiz mNbs) H → va_S A s.heap H locs → lv_has ls 4 [(0, .ref (bd 0)), (1, .int p0), (2, .int p1)] → W p l e (rmN 2 48) s m args below meth c H locs 0 0 (MQ below (QI D (wM cI cB cZ bd mVil zmBad mFul mLen mSig mWay mLef mSpo mBeg mTok mVal mWor mNum mThe mRts mLns mOpn mTxt mAns mWys mSiz mNbs) A rv) args s 0 0 A) (F0 m 18 ls []) := by
    intro  H locs ls hf hP hS hl
    unfold fX9_nearest_J18 at hf
    refine lv_aload_n hx hb dX9_nearest_18 rfl (lv_at hl 0 rfl) ?_
    obtain ⟨⟨r_2, qmBad_3⟩, hq, hf⟩ := ob hf
    try dsimp only at hf
    refine mcVi 0 8 (As := []) (rest := []) ⟨hx, hb, hml, hown, hts⟩ (ctX9_refuse l D cI cB cZ bd A hAD mVil mBad mFul mLen mSig mWay mLef mSpo mBeg mTok mVal mWor mNum mThe mRts mLns mOpn mTxt mAns mWys mSiz mNbs  r_2 qmBad_3 hq) (cwV 0 hts gX9_nearest_X9_refuse rfl rfl rfl (by decide +kernel) ⟨Nat.le_of_ble_eq_true rfl, Nat.le_of_ble_eq_true rfl⟩) hK hP hS rfl rfl rfl hl.1 rfl (Nat.le_of_ble_eq_true rfl) dX9_nearest_19 ⟨Nat.zero_le _, Nat.zero_le _⟩ (fun H locs hP hS => ?_)
    obtain ⟨e0, hz1⟩ := Prod.mk.inj (Option.some.inj hf)
    subst e0
    subst hz1
    exact rm_i hx hb hr hlk hP hS dX9_nearest_22
  refine lv_if_eq (tgt := 18) hx hb dX9_nearest_5 (by decide) (fun hc => ?_) (fun hc => ?_)
  · replace hf := (if_pos hc).symm.trans hf
    exact hJ18  _ _ _ hf hP hS (lv_sub hl [0, 1, 2] rfl)
  · replace hf := (if_neg hc).symm.trans hf
    refine lv_iload_n hx hb dX9_nearest_8 rfl (lv_at hl 2 rfl) ?_
    refine lv_i2l (v := (p1).toInt64) hx hb dX9_nearest_9 rfl ?_
    refine lv_lconst (v := (0 : Int64)) hx hb dX9_nearest_10 (by decide) ?_
    refine lv_lconst (v := (1 : Int64)) hx hb dX9_nearest_11 (by decide) ?_
    obtain ⟨r_4, hq, hf⟩ := ob hf
    try dsimp only at hf
    refine rcS (As := [.long (p1).toInt64, .long (0 : Int64), .long (1 : Int64)]) (rest := []) ⟨hx, hb, hml, hown, hts⟩ (ctX9_in l (p1).toInt64 (0 : Int64) (1 : Int64) r_4 hq) (va_cwS 3 hts gX9_nearest_X9_in rfl rfl rfl (by decide +kernel) ⟨Nat.le_of_ble_eq_true rfl, Nat.le_of_ble_eq_true rfl⟩) rfl hl.1 rfl (Nat.le_of_ble_eq_true rfl) dX9_nearest_12 ⟨Nat.zero_le _, Nat.zero_le _⟩ ?_
    refine lv_if_ne (tgt := 23) hx hb dX9_nearest_15 (by decide) (fun hc => ?_) (fun hc => ?_)
    · replace hf := (if_neg hc).symm.trans hf
      refine lv_aload_n hx hb dX9_nearest_23 rfl (lv_at hl 0 rfl) ?_
      refine lv_iload_n hx hb dX9_nearest_24 rfl (lv_at hl 1 rfl) ?_
      obtain ⟨r_5, hq, hf⟩ := ob hf
      try dsimp only at hf
      refine rcV 0 8 (As := [.int p0]) (rest := []) ⟨hx, hb, hml, hown, hts⟩ (ctX9_nearestOf l D cI cB cZ bd mVil mBad mFul mLen mSig mWay mLef mSpo mBeg mTok mVal mWor mNum mThe mRts mLns mOpn mTxt mAns mWys mSiz mNbs p0 r_5 hq) (cwV 1 hts gX9_nearest_X9_nearestOf rfl rfl rfl (by decide +kernel) ⟨Nat.le_of_ble_eq_true rfl, Nat.le_of_ble_eq_true rfl⟩) hK hP rfl rfl rfl hl.1 rfl (Nat.le_of_ble_eq_true rfl) dX9_nearest_25 ⟨Nat.zero_le _, Nat.zero_le _⟩ ?_
      refine lv_istore_n (lv' := [(3, .int r_5), (0, .ref (bd 0)), (1, .int p0), (2, .int p1)]) hx hb dX9_nearest_28 rfl hl (by decide) rfl (fun ls hl => ?_)
      refine lv_iload_n hx hb dX9_nearest_29 rfl (lv_at hl 3 rfl) ?_
      have hJ38 : ∀  (H : Heap) (locs : List Loc) (ls : Array Slot), fX9_nearest_J38 mBad r_5 = some (rv, zmBad) → va_P D vwCl (wM cI cB cZ bd mVil mBad mFul mLen mSig mWay mLef mSpo mBeg mTok mVal mWor mNum mThe mRts mLns mOpn mTxt mAns mWys mSiz mNbs) H → va_S A s.heap H locs → lv_has ls 4 [(0, .ref (bd 0)), (1, .int p0), (2, .int p1), (3, .int r_5)] → W p l e (rmN 2 48) s m args below meth c H locs 0 0 (MQ below (QI D (wM cI cB cZ bd mVil zmBad mFul mLen mSig mWay mLef mSpo mBeg mTok mVal mWor mNum mThe mRts mLns mOpn mTxt mAns mWys mSiz mNbs) A rv) args s 0 0 A) (F0 m 38 ls []) := by
        intro  H locs ls hf hP hS hl
        unfold fX9_nearest_J38 at hf
        refine lv_iload_n hx hb dX9_nearest_38 rfl (lv_at hl 3 rfl) ?_
        refine lv_goto (tgt := 48) hx hb dX9_nearest_39 (by decide) ?_
        obtain ⟨e0, hz1⟩ := Prod.mk.inj (Option.some.inj hf)
        subst e0
        subst hz1
        exact rm_i hx hb hr hlk hP hS dX9_nearest_48
      refine lv_if_eq (tgt := 38) hx hb dX9_nearest_30 (by decide) (fun hc => ?_) (fun hc => ?_)
      · replace hf := (if_pos hc).symm.trans hf
        exact hJ38  _ _ _ hf hP hS (lv_sub hl [1, 2, 3, 0] rfl)
      · replace hf := (if_neg hc).symm.trans hf
        refine lv_iload_n hx hb dX9_nearest_33 rfl (lv_at hl 0 rfl) ?_
        refine lv_iconst (v := (-1 : Int32)) hx hb dX9_nearest_34 (by decide) ?_
        refine lv_icmp_ne (tgt := 42) hx hb dX9_nearest_35 (by decide) (fun hc => ?_) (fun hc => ?_)
        · replace hf := (if_neg hc).symm.trans hf
          refine lv_aload_n hx hb dX9_nearest_42 rfl (lv_at hl 1 rfl) ?_
          refine lv_iload_n hx hb dX9_nearest_43 rfl (lv_at hl 0 rfl) ?_
          refine lv_iload_n hx hb dX9_nearest_44 rfl (lv_at hl 2 rfl) ?_
          obtain ⟨r_6, hq, hf⟩ := ob hf
          try dsimp only at hf
          refine rcV 0 8 (As := [.int r_5, .int p0]) (rest := []) ⟨hx, hb, hml, hown, hts⟩ (ctX9_farFrom l D cI cB cZ bd mVil mBad mFul mLen mSig mWay mLef mSpo mBeg mTok mVal mWor mNum mThe mRts mLns mOpn mTxt mAns mWys mSiz mNbs r_5 p0 r_6 hq) (cwV 2 hts gX9_nearest_X9_farFrom rfl rfl rfl (by decide +kernel) ⟨Nat.le_of_ble_eq_true rfl, Nat.le_of_ble_eq_true rfl⟩) hK hP rfl rfl rfl hl.1 rfl (Nat.le_of_ble_eq_true rfl) dX9_nearest_45 ⟨Nat.zero_le _, Nat.zero_le _⟩ ?_
          obtain ⟨e0, hz1⟩ := Prod.mk.inj (Option.some.inj hf)
          subst e0
          subst hz1
          exact rm_i hx hb hr hlk hP hS dX9_nearest_48
        · replace hf := (if_pos hc).symm.trans hf
          exact hJ38  _ _ _ hf hP hS (lv_sub hl [1, 2, 3, 0] rfl)
    · replace hf := (if_pos hc).symm.trans hf
      exact hJ18  _ _ _ hf hP hS (lv_sub hl [0, 1, 2] rfl)

def fX9_turn_J22 (mBad : Int32) : Option (Int32 × Int32) :=
  ((fX9_refuse mBad).bind fun (r_2, qmBad_3) => (some (r_2, qmBad_3)))
def fX9_turn_J115 (v5_6 : Int32) (v6_7 : Int32) (kk : (Int32 × Int32) → Option (Int32 × Int32)) (t_10 : Int32) : Option (Int32 × Int32) :=
  (kk ((v5_6 + t_10), (v6_7 + (1 : Int32))))
def fX9_turn_J114 (v5_6 : Int32) (v6_7 : Int32) (kk : (Int32 × Int32) → Option (Int32 × Int32)) : Option (Int32 × Int32) :=
  (fX9_turn_J115 v5_6 v6_7 kk (0 : Int32))
def fX9_turn_J110 (v5_6 : Int32) (v6_7 : Int32) (kk : (Int32 × Int32) → Option (Int32 × Int32)) : Option (Int32 × Int32) :=
  (fX9_turn_J115 v5_6 v6_7 kk (1 : Int32))
def fX9_turn_L45 (mVil : Int32) (mRts : Nat → Int32) (mLns : Nat → Int32) (mOpn : Nat → Int32) (p0 : Int32) (v4_5 : Int32) (kk : (Int32 × Int32) → Option (Int32 × Int32)) (ww : Int32 × Int32) : Option (Int32 × Int32) :=
  match ww with
  | (v5_6, v6_7) => (if mVil ≤ v6_7 then (some (v5_6, v6_7)) else (if gI v4_5 60 then (if (mOpn (v4_5).toNatClampNeg) = 0 then (some (v5_6, v6_7)) else ((fX9_farFrom mRts mLns v6_7 p0).bind fun r_8 => ((fX9_farFrom mRts mLns v4_5 p0).bind fun r_9 => (if gI v6_7 60 then (if (mOpn (v6_7).toNatClampNeg) = 0 then (fX9_turn_J114 v5_6 v6_7 kk) else (if (r_8 - r_9) < 0 then (fX9_turn_J110 v5_6 v6_7 kk) else (if (r_8 - r_9) = 0 then (if v4_5 ≤ v6_7 then (fX9_turn_J114 v5_6 v6_7 kk) else (fX9_turn_J110 v5_6 v6_7 kk)) else (fX9_turn_J114 v5_6 v6_7 kk)))) else none)))) else none))
def fX9_turn_J157 (v4_5 : Int32) (kk : (Int32) → Option (Int32 × Int32)) : Option (Int32 × Int32) :=
  (kk (v4_5 + (1 : Int32)))
def fX9_turn_L30 (mVil : Int32) (mBad : Int32) (mRts : Nat → Int32) (mLns : Nat → Int32) (mOpn : Nat → Int32) (p0 : Int32) (p1 : Int32) (p2 : Int32) (kk : (Int32) → Option (Int32 × Int32)) (v4_5 : Int32) : Option (Int32 × Int32) :=
  (if mVil ≤ v4_5 then (some ((-1 : Int32), mBad)) else ((lp (fX9_turn_L45 mVil mRts mLns mOpn p0 v4_5) FU ((0 : Int32), (0 : Int32))).bind fun (ov5_6, ov6_7) => (if gI v4_5 60 then (if (mOpn (v4_5).toNatClampNeg) = 0 then (fX9_turn_J157 v4_5 kk) else (if ov5_6 = p1 then (if p2 = 0 then (some (v4_5, mBad)) else ((fX9_farFrom mRts mLns v4_5 p0).bind fun r_11 => (some (r_11, mBad)))) else (fX9_turn_J157 v4_5 kk))) else none)))
def fX9_turn (mVil : Int32) (mBad : Int32) (mRts : Nat → Int32) (mLns : Nat → Int32) (mOpn : Nat → Int32) (p0 : Int32) (p1 : Int32) (p2 : Int32) : Option (Int32 × Int32) :=
  ((fX9_isVillage mVil p0).bind fun r_1 => (if r_1 = 0 then (fX9_turn_J22 mBad) else (if p1 < 0 then (fX9_turn_J22 mBad) else ((fX9_in (p2).toInt64 (0 : Int64) (1 : Int64)).bind fun r_4 => (if r_4 = 0 then (fX9_turn_J22 mBad) else (lp (fX9_turn_L30 mVil mBad mRts mLns mOpn p0 p1 p2) FU (0 : Int32)))))))
set_option maxRecDepth 100000 in
set_option maxHeartbeats 4000000 in
theorem ctX9_turn (l : Launch) (D : va_G) (cI cB cZ : ClassId) (bd : Nat → Nat) (A : Nat → Prop) (hAD : AD A bd 9) (mVil mBad mFul mLen mSig mWay mLef mSpo mBeg mTok mVal mWor mNum mThe : Int32) (mRts mLns mOpn mTxt mAns mWys mSiz mNbs : Nat → Int32) (p0 : Int32) (p1 : Int32) (p2 : Int32) (rv : Int32) (zmBad : Int32) (hf : fX9_turn mVil mBad mRts mLns mOpn p0 p1 p2 = some (rv, zmBad)) : Met l yX9_turn wsX9_turn (rmN 2 46) (PR D (tyL cI cB cZ) (wM cI cB cZ bd mVil mBad mFul mLen mSig mWay mLef mSpo mBeg mTok mVal mWor mNum mThe mRts mLns mOpn mTxt mAns mWys mSiz mNbs) [.ref (bd 0), .int p0, .int p1, .int p2]) (QI D (wM cI cB cZ bd mVil zmBad mFul mLen mSig mWay mLef mSpo mBeg mTok mVal mWor mNum mThe mRts mLns mOpn mTxt mAns mWys mSiz mNbs) A rv) 0 0 A := by
  refine mk_met cX9_turn 8 (some .int) (by decide) rfl (Nat.le_of_ble_eq_true rfl) ?_
  intro p e s m args below meth c ls hx hb hr hlk hml hown hts hPK hl
  obtain ⟨hP, hK⟩ := hPK
  replace hl : lv_has ls 8 [(0, .ref (bd 0)), (1, .int p0), (2, .int p1), (3, .int p2)] := hl
  replace hown : s.vm.findClass RX9 = some m.cls := hown
  have hiX9 : ∀ w ∈ wsX90, w ∈ wsX9_turn := fun w h => List.mem_cons_of_mem _ (List.mem_append_right _ h)
  have hS : va_S A s.heap s.heap [] := va_S.rf
  unfold fX9_turn at hf
  refine lv_aload_n hx hb dX9_turn_0 rfl (lv_at hl 0 rfl) ?_
  refine lv_iload_n hx hb dX9_turn_1 rfl (lv_at hl 1 rfl) ?_
  obtain ⟨r_1, hq, hf⟩ := ob hf
  try dsimp only at hf
  refine rcV 0 8 (As := [.int p0]) (rest := []) ⟨hx, hb, hml, hown, hts⟩ (ctX9_isVillage l D cI cB cZ bd mVil mBad mFul mLen mSig mWay mLef mSpo mBeg mTok mVal mWor mNum mThe mRts mLns mOpn mTxt mAns mWys mSiz mNbs p0 r_1 hq) (cwV 1 hts gX9_turn_X9_isVillage rfl rfl rfl (by decide +kernel) ⟨Nat.le_of_ble_eq_true rfl, Nat.le_of_ble_eq_true rfl⟩) hK hP rfl rfl rfl hl.1 rfl (Nat.le_of_ble_eq_true rfl) dX9_turn_2 ⟨Nat.zero_le _, Nat.zero_le _⟩ ?_
  have hJ22 : ∀  (H : Heap) (locs : List Loc) (ls : Array Slot), fX9_turn_J22 mBad = some (rv, zmBad) → va_P D vwCl (wM cI cB cZ bd mVil mBad mFul mLen mSig mWay mLef mSpo mBeg mTok mVal mWor mNum mThe mRts mLns mOpn mTxt mAns mWys mSiz mNbs) H → va_S A s.heap H locs → lv_has ls 8 [(0, .ref (bd 0)), (1, .int p0), (2, .int p1), (3, .int p2)] → W p l e (rmN 2 46) s m args below meth c H locs 0 0 (MQ below (QI D (wM cI cB cZ bd mVil zmBad mFul mLen mSig mWay mLef mSpo mBeg mTok mVal mWor mNum mThe mRts mLns mOpn mTxt mAns mWys mSiz mNbs) A rv) args s 0 0 A) (F0 m 22 ls []) := by
    intro  H locs ls hf hP hS hl
    unfold fX9_turn_J22 at hf
    refine lv_aload_n hx hb dX9_turn_22 rfl (lv_at hl 0 rfl) ?_
    obtain ⟨⟨r_2, qmBad_3⟩, hq, hf⟩ := ob hf
    try dsimp only at hf
    refine mcVi 0 8 (As := []) (rest := []) ⟨hx, hb, hml, hown, hts⟩ (ctX9_refuse l D cI cB cZ bd A hAD mVil mBad mFul mLen mSig mWay mLef mSpo mBeg mTok mVal mWor mNum mThe mRts mLns mOpn mTxt mAns mWys mSiz mNbs  r_2 qmBad_3 hq) (cwV 0 hts gX9_turn_X9_refuse rfl rfl rfl (by decide +kernel) ⟨Nat.le_of_ble_eq_true rfl, Nat.le_of_ble_eq_true rfl⟩) hK hP hS rfl rfl rfl hl.1 rfl (Nat.le_of_ble_eq_true rfl) dX9_turn_23 ⟨Nat.zero_le _, Nat.zero_le _⟩ (fun H locs hP hS => ?_)
    obtain ⟨e0, hz1⟩ := Prod.mk.inj (Option.some.inj hf)
    subst e0
    subst hz1
    exact rm_i hx hb hr hlk hP hS dX9_turn_26
  refine lv_if_eq (tgt := 22) hx hb dX9_turn_5 (by decide) (fun hc => ?_) (fun hc => ?_)
  · replace hf := (if_pos hc).symm.trans hf
    exact hJ22  _ _ _ hf hP hS (lv_sub hl [0, 1, 2, 3] rfl)
  · replace hf := (if_neg hc).symm.trans hf
    refine lv_iload_n hx hb dX9_turn_8 rfl (lv_at hl 2 rfl) ?_
    refine lv_if_lt (tgt := 22) hx hb dX9_turn_9 (by decide) (fun hc => ?_) (fun hc => ?_)
    · replace hf := (if_pos hc).symm.trans hf
      exact hJ22  _ _ _ hf hP hS (lv_sub hl [0, 1, 2, 3] rfl)
    · replace hf := (if_neg hc).symm.trans hf
      refine lv_iload_n hx hb dX9_turn_12 rfl (lv_at hl 3 rfl) ?_
      refine lv_i2l (v := (p2).toInt64) hx hb dX9_turn_13 rfl ?_
      refine lv_lconst (v := (0 : Int64)) hx hb dX9_turn_14 (by decide) ?_
      refine lv_lconst (v := (1 : Int64)) hx hb dX9_turn_15 (by decide) ?_
      obtain ⟨r_4, hq, hf⟩ := ob hf
      try dsimp only at hf
      refine rcS (As := [.long (p2).toInt64, .long (0 : Int64), .long (1 : Int64)]) (rest := []) ⟨hx, hb, hml, hown, hts⟩ (ctX9_in l (p2).toInt64 (0 : Int64) (1 : Int64) r_4 hq) (va_cwS 3 hts gX9_turn_X9_in rfl rfl rfl (by decide +kernel) ⟨Nat.le_of_ble_eq_true rfl, Nat.le_of_ble_eq_true rfl⟩) rfl hl.1 rfl (Nat.le_of_ble_eq_true rfl) dX9_turn_16 ⟨Nat.zero_le _, Nat.zero_le _⟩ ?_
      refine lv_if_ne (tgt := 27) hx hb dX9_turn_19 (by decide) (fun hc => ?_) (fun hc => ?_)
      · replace hf := (if_neg hc).symm.trans hf
        refine lv_iconst (v := (0 : Int32)) hx hb dX9_turn_27 (by decide) ?_
        refine lv_istore (lv' := [(4, .int (0 : Int32)), (0, .ref (bd 0)), (1, .int p0), (2, .int p1), (3, .int p2)]) hx hb dX9_turn_28 hl (by decide) rfl (fun ls hl => ?_)
        have hL30 : ∀ (n : Nat) (v4_5 : Int32) (H : Heap) (locs : List Loc) (ls : Array Slot), lp (fX9_turn_L30 mVil mBad mRts mLns mOpn p0 p1 p2) n v4_5 = some (rv, zmBad) → va_P D vwCl (wM cI cB cZ bd mVil mBad mFul mLen mSig mWay mLef mSpo mBeg mTok mVal mWor mNum mThe mRts mLns mOpn mTxt mAns mWys mSiz mNbs) H → va_S A s.heap H locs → lv_has ls 8 [(0, .ref (bd 0)), (1, .int p0), (2, .int p1), (3, .int p2), (4, .int v4_5)] → W p l e (rmN 2 46) s m args below meth c H locs 0 0 (MQ below (QI D (wM cI cB cZ bd mVil zmBad mFul mLen mSig mWay mLef mSpo mBeg mTok mVal mWor mNum mThe mRts mLns mOpn mTxt mAns mWys mSiz mNbs) A rv) args s 0 0 A) (F0 m 30 ls []) := by
          intro n
          induction n with
          | zero => intro v4_5 H locs ls hf; exact (lp_0 hf).elim
          | succ n ih =>
            intro v4_5 H locs ls hf hP hS hl
            replace hf := lp_s hf
            dsimp only [fX9_turn_L30] at hf
            refine lv_iload hx hb dX9_turn_30 (lv_at hl 4 rfl) ?_
            refine lv_aload_n hx hb dX9_turn_32 rfl (lv_at hl 0 rfl) ?_
            refine va_get (ci := 8) (v := .int mVil) (C := RX9) (T := TX9) (N := 22) hx hb hts hiX9 hown hK hP 0 rfl rfl 0 (by decide) (hts _ (List.mem_of_getElem? (i := 1) rfl)) (fun _ h9 => h9) rfl dX9_turn_33 ?_
            refine lv_icmp_ge (tgt := 163) hx hb dX9_turn_36 (by decide) (fun hc => ?_) (fun hc => ?_)
            · replace hf := (if_pos hc).symm.trans hf
              refine lv_iconst (v := (-1 : Int32)) hx hb dX9_turn_163 (by decide) ?_
              obtain ⟨e0, hz1⟩ := Prod.mk.inj (Option.some.inj hf)
              subst e0
              subst hz1
              exact rm_i hx hb hr hlk hP hS dX9_turn_164
            · replace hf := (if_neg hc).symm.trans hf
              refine lv_iconst (v := (0 : Int32)) hx hb dX9_turn_39 (by decide) ?_
              refine lv_istore (lv' := [(5, .int (0 : Int32)), (0, .ref (bd 0)), (1, .int p0), (2, .int p1), (3, .int p2), (4, .int v4_5)]) hx hb dX9_turn_40 hl (by decide) rfl (fun ls hl => ?_)
              refine lv_iconst (v := (0 : Int32)) hx hb dX9_turn_42 (by decide) ?_
              refine lv_istore (lv' := [(6, .int (0 : Int32)), (5, .int (0 : Int32)), (0, .ref (bd 0)), (1, .int p0), (2, .int p1), (3, .int p2), (4, .int v4_5)]) hx hb dX9_turn_43 hl (by decide) rfl (fun ls hl => ?_)
              have hL45 : ∀ (n : Nat) (v5_6 : Int32) (v6_7 : Int32) (ov5_6 : Int32) (ov6_7 : Int32) (H : Heap) (locs : List Loc) (ls : Array Slot), lp (fX9_turn_L45 mVil mRts mLns mOpn p0 v4_5) n (v5_6, v6_7) = some (ov5_6, ov6_7) → va_P D vwCl (wM cI cB cZ bd mVil mBad mFul mLen mSig mWay mLef mSpo mBeg mTok mVal mWor mNum mThe mRts mLns mOpn mTxt mAns mWys mSiz mNbs) H → va_S A s.heap H locs → lv_has ls 8 [(0, .ref (bd 0)), (1, .int p0), (2, .int p1), (3, .int p2), (4, .int v4_5), (5, .int v5_6), (6, .int v6_7)] → (∀ (H : Heap) (locs : List Loc) (ls : Array Slot), va_P D vwCl (wM cI cB cZ bd mVil mBad mFul mLen mSig mWay mLef mSpo mBeg mTok mVal mWor mNum mThe mRts mLns mOpn mTxt mAns mWys mSiz mNbs) H → va_S A s.heap H locs → lv_has ls 8 [(0, .ref (bd 0)), (1, .int p0), (2, .int p1), (3, .int p2), (4, .int v4_5), (5, .int ov5_6), (6, .int ov6_7)] → W p l e (rmN 2 46) s m args below meth c H locs 0 0 (MQ below (QI D (wM cI cB cZ bd mVil zmBad mFul mLen mSig mWay mLef mSpo mBeg mTok mVal mWor mNum mThe mRts mLns mOpn mTxt mAns mWys mSiz mNbs) A rv) args s 0 0 A) (F0 m 124 ls [])) → W p l e (rmN 2 46) s m args below meth c H locs 0 0 (MQ below (QI D (wM cI cB cZ bd mVil zmBad mFul mLen mSig mWay mLef mSpo mBeg mTok mVal mWor mNum mThe mRts mLns mOpn mTxt mAns mWys mSiz mNbs) A rv) args s 0 0 A) (F0 m 45 ls []) := by
                intro n
                induction n with
                | zero => intro v5_6 v6_7 ov5_6 ov6_7 H locs ls hf; exact (lp_0 hf).elim
                | succ n ih =>
                  intro v5_6 v6_7 ov5_6 ov6_7 H locs ls hf hP hS hl hE
                  replace hf := lp_s hf
                  dsimp only [fX9_turn_L45] at hf
                  refine lv_iload hx hb dX9_turn_45 (lv_at hl 6 rfl) ?_
                  refine lv_aload_n hx hb dX9_turn_47 rfl (lv_at hl 0 rfl) ?_
                  refine va_get (ci := 8) (v := .int mVil) (C := RX9) (T := TX9) (N := 22) hx hb hts hiX9 hown hK hP 0 rfl rfl 0 (by decide) (hts _ (List.mem_of_getElem? (i := 1) rfl)) (fun _ h9 => h9) rfl dX9_turn_48 ?_
                  refine lv_icmp_ge (tgt := 124) hx hb dX9_turn_51 (by decide) (fun hc => ?_) (fun hc => ?_)
                  · replace hf := (if_pos hc).symm.trans hf
                    cases hf
                    exact hE _ _ _ hP hS (lv_sub hl [0, 1, 2, 3, 4, 5, 6] rfl)
                  · replace hf := (if_neg hc).symm.trans hf
                    refine lv_aload_n hx hb dX9_turn_54 rfl (lv_at hl 0 rfl) ?_
                    refine va_get (ci := 8) (v := .ref (bd 3)) (C := RX9) (T := TX9) (N := 22) hx hb hts hiX9 hown hK hP 0 rfl rfl 3 (by decide) (hts _ (List.mem_of_getElem? (i := 2) rfl)) (fun _ h9 => h9) rfl dX9_turn_55 ?_
                    refine lv_iload hx hb dX9_turn_58 (lv_at hl 4 rfl) ?_
                    obtain ⟨hg, hf⟩ := og hf
                    refine va_zald hx hb hK hP 3 2 rfl rfl (gI_in hg) dX9_turn_60 ?_
                    refine lv_if_eq (tgt := 124) hx hb dX9_turn_61 (by decide) (fun hc => ?_) (fun hc => ?_)
                    · replace hf := (if_pos hc).symm.trans hf
                      cases hf
                      exact hE _ _ _ hP hS (lv_sub hl [0, 1, 2, 3, 4, 5, 6] rfl)
                    · replace hf := (if_neg hc).symm.trans hf
                      refine lv_aload_n hx hb dX9_turn_64 rfl (lv_at hl 0 rfl) ?_
                      refine lv_iload hx hb dX9_turn_65 (lv_at hl 6 rfl) ?_
                      refine lv_iload_n hx hb dX9_turn_67 rfl (lv_at hl 1 rfl) ?_
                      obtain ⟨r_8, hq, hf⟩ := ob hf
                      try dsimp only at hf
                      refine rcV 0 8 (As := [.int v6_7, .int p0]) (rest := []) ⟨hx, hb, hml, hown, hts⟩ (ctX9_farFrom l D cI cB cZ bd mVil mBad mFul mLen mSig mWay mLef mSpo mBeg mTok mVal mWor mNum mThe mRts mLns mOpn mTxt mAns mWys mSiz mNbs v6_7 p0 r_8 hq) (cwV 2 hts gX9_turn_X9_farFrom rfl rfl rfl (by decide +kernel) ⟨Nat.le_of_ble_eq_true rfl, Nat.le_of_ble_eq_true rfl⟩) hK hP rfl rfl rfl hl.1 rfl (Nat.le_of_ble_eq_true rfl) dX9_turn_68 ⟨Nat.zero_le _, Nat.zero_le _⟩ ?_
                      refine lv_aload_n hx hb dX9_turn_71 rfl (lv_at hl 0 rfl) ?_
                      refine lv_iload hx hb dX9_turn_72 (lv_at hl 4 rfl) ?_
                      refine lv_iload_n hx hb dX9_turn_74 rfl (lv_at hl 1 rfl) ?_
                      obtain ⟨r_9, hq, hf⟩ := ob hf
                      try dsimp only at hf
                      refine rcV 0 8 (As := [.int v4_5, .int p0]) (rest := [.int r_8]) ⟨hx, hb, hml, hown, hts⟩ (ctX9_farFrom l D cI cB cZ bd mVil mBad mFul mLen mSig mWay mLef mSpo mBeg mTok mVal mWor mNum mThe mRts mLns mOpn mTxt mAns mWys mSiz mNbs v4_5 p0 r_9 hq) (cwV 2 hts gX9_turn_X9_farFrom rfl rfl rfl (by decide +kernel) ⟨Nat.le_of_ble_eq_true rfl, Nat.le_of_ble_eq_true rfl⟩) hK hP rfl rfl rfl hl.1 rfl (Nat.le_of_ble_eq_true rfl) dX9_turn_75 ⟨Nat.zero_le _, Nat.zero_le _⟩ ?_
                      refine lv_isub hx hb dX9_turn_78 ?_
                      refine lv_istore (lv' := [(7, .int (r_8 - r_9)), (0, .ref (bd 0)), (1, .int p0), (2, .int p1), (3, .int p2), (4, .int v4_5), (5, .int v5_6), (6, .int v6_7)]) hx hb dX9_turn_79 hl (by decide) rfl (fun ls hl => ?_)
                      refine lv_iload hx hb dX9_turn_81 (lv_at hl 6 rfl) ?_
                      refine lv_aload_n hx hb dX9_turn_83 rfl (lv_at hl 1 rfl) ?_
                      refine va_get (ci := 8) (v := .ref (bd 3)) (C := RX9) (T := TX9) (N := 22) hx hb hts hiX9 hown hK hP 0 rfl rfl 3 (by decide) (hts _ (List.mem_of_getElem? (i := 2) rfl)) (fun _ h9 => h9) rfl dX9_turn_84 ?_
                      refine lv_iload hx hb dX9_turn_87 (lv_at hl 7 rfl) ?_
                      obtain ⟨hg, hf⟩ := og hf
                      refine va_zald hx hb hK hP 3 2 rfl rfl (gI_in hg) dX9_turn_89 ?_
                      have hJ115 : ∀ (t_10 : Int32) (H : Heap) (locs : List Loc) (ls : Array Slot), fX9_turn_J115 v5_6 v6_7 (lp (fX9_turn_L45 mVil mRts mLns mOpn p0 v4_5) n) t_10 = some (ov5_6, ov6_7) → va_P D vwCl (wM cI cB cZ bd mVil mBad mFul mLen mSig mWay mLef mSpo mBeg mTok mVal mWor mNum mThe mRts mLns mOpn mTxt mAns mWys mSiz mNbs) H → va_S A s.heap H locs → lv_has ls 8 [(0, .ref (bd 0)), (1, .int p0), (2, .int p1), (3, .int p2), (4, .int v4_5), (5, .int v5_6), (6, .int v6_7), (7, .int (r_8 - r_9))] → W p l e (rmN 2 46) s m args below meth c H locs 0 0 (MQ below (QI D (wM cI cB cZ bd mVil zmBad mFul mLen mSig mWay mLef mSpo mBeg mTok mVal mWor mNum mThe mRts mLns mOpn mTxt mAns mWys mSiz mNbs) A rv) args s 0 0 A) (F0 m 115 ls [.int t_10, .int v5_6]) := by
                        intro t_10 H locs ls hf hP hS hl
                        unfold fX9_turn_J115 at hf
                        refine lv_iadd hx hb dX9_turn_115 ?_
                        refine lv_istore (lv' := [(5, .int (v5_6 + t_10)), (0, .ref (bd 0)), (1, .int p0), (2, .int p1), (3, .int p2), (4, .int v4_5), (6, .int v6_7), (7, .int (r_8 - r_9))]) hx hb dX9_turn_116 hl (by decide) rfl (fun ls hl => ?_)
                        refine lv_iinc (v := (v6_7 + (1 : Int32))) (lv' := [(6, .int (v6_7 + (1 : Int32))), (5, .int (v5_6 + t_10)), (0, .ref (bd 0)), (1, .int p0), (2, .int p1), (3, .int p2), (4, .int v4_5), (7, .int (r_8 - r_9))]) hx hb dX9_turn_118 hl (k := 6) rfl rfl (by decide) rfl (fun ls hl => ?_)
                        refine lv_goto (tgt := 45) hx hb dX9_turn_121 (by decide) ?_
                        exact ih _ _ _ _ _ _ _ hf hP hS (lv_sub hl [2, 3, 4, 5, 6, 1, 0] rfl) hE
                      have hJ114 : ∀  (H : Heap) (locs : List Loc) (ls : Array Slot), fX9_turn_J114 v5_6 v6_7 (lp (fX9_turn_L45 mVil mRts mLns mOpn p0 v4_5) n) = some (ov5_6, ov6_7) → va_P D vwCl (wM cI cB cZ bd mVil mBad mFul mLen mSig mWay mLef mSpo mBeg mTok mVal mWor mNum mThe mRts mLns mOpn mTxt mAns mWys mSiz mNbs) H → va_S A s.heap H locs → lv_has ls 8 [(0, .ref (bd 0)), (1, .int p0), (2, .int p1), (3, .int p2), (4, .int v4_5), (5, .int v5_6), (6, .int v6_7), (7, .int (r_8 - r_9))] → W p l e (rmN 2 46) s m args below meth c H locs 0 0 (MQ below (QI D (wM cI cB cZ bd mVil zmBad mFul mLen mSig mWay mLef mSpo mBeg mTok mVal mWor mNum mThe mRts mLns mOpn mTxt mAns mWys mSiz mNbs) A rv) args s 0 0 A) (F0 m 114 ls [.int v5_6]) := by
                        intro  H locs ls hf hP hS hl
                        unfold fX9_turn_J114 at hf
                        refine lv_iconst (v := (0 : Int32)) hx hb dX9_turn_114 (by decide) ?_
                        exact hJ115 _ _ _ _ hf hP hS (lv_sub hl [0, 1, 2, 3, 4, 5, 6, 7] rfl)
                      refine lv_if_eq (tgt := 114) hx hb dX9_turn_90 (by decide) (fun hc => ?_) (fun hc => ?_)
                      · replace hf := (if_pos hc).symm.trans hf
                        exact hJ114  _ _ _ hf hP hS (lv_sub hl [1, 2, 3, 4, 5, 6, 7, 0] rfl)
                      · replace hf := (if_neg hc).symm.trans hf
                        refine lv_iload hx hb dX9_turn_93 (lv_at hl 0 rfl) ?_
                        have hJ110 : ∀  (H : Heap) (locs : List Loc) (ls : Array Slot), fX9_turn_J110 v5_6 v6_7 (lp (fX9_turn_L45 mVil mRts mLns mOpn p0 v4_5) n) = some (ov5_6, ov6_7) → va_P D vwCl (wM cI cB cZ bd mVil mBad mFul mLen mSig mWay mLef mSpo mBeg mTok mVal mWor mNum mThe mRts mLns mOpn mTxt mAns mWys mSiz mNbs) H → va_S A s.heap H locs → lv_has ls 8 [(0, .ref (bd 0)), (1, .int p0), (2, .int p1), (3, .int p2), (4, .int v4_5), (5, .int v5_6), (6, .int v6_7), (7, .int (r_8 - r_9))] → W p l e (rmN 2 46) s m args below meth c H locs 0 0 (MQ below (QI D (wM cI cB cZ bd mVil zmBad mFul mLen mSig mWay mLef mSpo mBeg mTok mVal mWor mNum mThe mRts mLns mOpn mTxt mAns mWys mSiz mNbs) A rv) args s 0 0 A) (F0 m 110 ls [.int v5_6]) := by
                          intro  H locs ls hf hP hS hl
                          unfold fX9_turn_J110 at hf
                          refine lv_iconst (v := (1 : Int32)) hx hb dX9_turn_110 (by decide) ?_
                          refine lv_goto (tgt := 115) hx hb dX9_turn_111 (by decide) ?_
                          exact hJ115 _ _ _ _ hf hP hS (lv_sub hl [0, 1, 2, 3, 4, 5, 6, 7] rfl)
                        refine lv_if_lt (tgt := 110) hx hb dX9_turn_95 (by decide) (fun hc => ?_) (fun hc => ?_)
                        · replace hf := (if_pos hc).symm.trans hf
                          exact hJ110  _ _ _ hf hP hS (lv_sub hl [1, 2, 3, 4, 5, 6, 7, 0] rfl)
                        · replace hf := (if_neg hc).symm.trans hf
                          refine lv_iload hx hb dX9_turn_98 (lv_at hl 0 rfl) ?_
                          refine lv_if_ne (tgt := 114) hx hb dX9_turn_100 (by decide) (fun hc => ?_) (fun hc => ?_)
                          · replace hf := (if_neg hc).symm.trans hf
                            exact hJ114  _ _ _ hf hP hS (lv_sub hl [1, 2, 3, 4, 5, 6, 7, 0] rfl)
                          · replace hf := (if_pos hc).symm.trans hf
                            refine lv_iload hx hb dX9_turn_103 (lv_at hl 7 rfl) ?_
                            refine lv_iload hx hb dX9_turn_105 (lv_at hl 5 rfl) ?_
                            refine lv_icmp_ge (tgt := 114) hx hb dX9_turn_107 (by decide) (fun hc => ?_) (fun hc => ?_)
                            · replace hf := (if_pos hc).symm.trans hf
                              exact hJ114  _ _ _ hf hP hS (lv_sub hl [1, 2, 3, 4, 5, 6, 7, 0] rfl)
                            · replace hf := (if_neg hc).symm.trans hf
                              exact hJ110  _ _ _ hf hP hS (lv_sub hl [1, 2, 3, 4, 5, 6, 7, 0] rfl)
              obtain ⟨⟨ov5_6, ov6_7⟩, hq, hf⟩ := ob hf
              try dsimp only at hf
              refine hL45 FU _ _ ov5_6 ov6_7 _ _ ls hq hP hS (lv_sub hl [2, 3, 4, 5, 6, 1, 0] rfl) (fun H locs ls hP hS hl => ?_)
              refine lv_aload_n hx hb dX9_turn_124 rfl (lv_at hl 0 rfl) ?_
              refine va_get (ci := 8) (v := .ref (bd 3)) (C := RX9) (T := TX9) (N := 22) hx hb hts hiX9 hown hK hP 0 rfl rfl 3 (by decide) (hts _ (List.mem_of_getElem? (i := 2) rfl)) (fun _ h9 => h9) rfl dX9_turn_125 ?_
              refine lv_iload hx hb dX9_turn_128 (lv_at hl 4 rfl) ?_
              obtain ⟨hg, hf⟩ := og hf
              refine va_zald hx hb hK hP 3 2 rfl rfl (gI_in hg) dX9_turn_130 ?_
              have hJ157 : ∀  (H : Heap) (locs : List Loc) (ls : Array Slot), fX9_turn_J157 v4_5 (lp (fX9_turn_L30 mVil mBad mRts mLns mOpn p0 p1 p2) n) = some (rv, zmBad) → va_P D vwCl (wM cI cB cZ bd mVil mBad mFul mLen mSig mWay mLef mSpo mBeg mTok mVal mWor mNum mThe mRts mLns mOpn mTxt mAns mWys mSiz mNbs) H → va_S A s.heap H locs → lv_has ls 8 [(0, .ref (bd 0)), (1, .int p0), (2, .int p1), (3, .int p2), (4, .int v4_5), (5, .int ov5_6), (6, .int ov6_7)] → W p l e (rmN 2 46) s m args below meth c H locs 0 0 (MQ below (QI D (wM cI cB cZ bd mVil zmBad mFul mLen mSig mWay mLef mSpo mBeg mTok mVal mWor mNum mThe mRts mLns mOpn mTxt mAns mWys mSiz mNbs) A rv) args s 0 0 A) (F0 m 157 ls []) := by
                intro  H locs ls hf hP hS hl
                unfold fX9_turn_J157 at hf
                refine lv_iinc (v := (v4_5 + (1 : Int32))) (lv' := [(4, .int (v4_5 + (1 : Int32))), (0, .ref (bd 0)), (1, .int p0), (2, .int p1), (3, .int p2), (5, .int ov5_6), (6, .int ov6_7)]) hx hb dX9_turn_157 hl (k := 4) rfl rfl (by decide) rfl (fun ls hl => ?_)
                refine lv_goto (tgt := 30) hx hb dX9_turn_160 (by decide) ?_
                exact ih _ _ _ _ hf hP hS (lv_sub hl [1, 2, 3, 4, 0] rfl)
              refine lv_if_eq (tgt := 157) hx hb dX9_turn_131 (by decide) (fun hc => ?_) (fun hc => ?_)
              · replace hf := (if_pos hc).symm.trans hf
                exact hJ157  _ _ _ hf hP hS (lv_sub hl [0, 1, 2, 3, 4, 5, 6] rfl)
              · replace hf := (if_neg hc).symm.trans hf
                refine lv_iload hx hb dX9_turn_134 (lv_at hl 5 rfl) ?_
                refine lv_iload_n hx hb dX9_turn_136 rfl (lv_at hl 2 rfl) ?_
                refine lv_icmp_ne (tgt := 157) hx hb dX9_turn_137 (by decide) (fun hc => ?_) (fun hc => ?_)
                · replace hf := (if_neg hc).symm.trans hf
                  exact hJ157  _ _ _ hf hP hS (lv_sub hl [0, 1, 2, 3, 4, 5, 6] rfl)
                · replace hf := (if_pos hc).symm.trans hf
                  refine lv_iload_n hx hb dX9_turn_140 rfl (lv_at hl 3 rfl) ?_
                  refine lv_if_ne (tgt := 149) hx hb dX9_turn_141 (by decide) (fun hc => ?_) (fun hc => ?_)
                  · replace hf := (if_neg hc).symm.trans hf
                    refine lv_aload_n hx hb dX9_turn_149 rfl (lv_at hl 0 rfl) ?_
                    refine lv_iload hx hb dX9_turn_150 (lv_at hl 4 rfl) ?_
                    refine lv_iload_n hx hb dX9_turn_152 rfl (lv_at hl 1 rfl) ?_
                    obtain ⟨r_11, hq, hf⟩ := ob hf
                    try dsimp only at hf
                    refine rcV 0 8 (As := [.int v4_5, .int p0]) (rest := []) ⟨hx, hb, hml, hown, hts⟩ (ctX9_farFrom l D cI cB cZ bd mVil mBad mFul mLen mSig mWay mLef mSpo mBeg mTok mVal mWor mNum mThe mRts mLns mOpn mTxt mAns mWys mSiz mNbs v4_5 p0 r_11 hq) (cwV 2 hts gX9_turn_X9_farFrom rfl rfl rfl (by decide +kernel) ⟨Nat.le_of_ble_eq_true rfl, Nat.le_of_ble_eq_true rfl⟩) hK hP rfl rfl rfl hl.1 rfl (Nat.le_of_ble_eq_true rfl) dX9_turn_153 ⟨Nat.zero_le _, Nat.zero_le _⟩ ?_
                    obtain ⟨e0, hz1⟩ := Prod.mk.inj (Option.some.inj hf)
                    subst e0
                    subst hz1
                    exact rm_i hx hb hr hlk hP hS dX9_turn_156
                  · replace hf := (if_pos hc).symm.trans hf
                    refine lv_iload hx hb dX9_turn_144 (lv_at hl 4 rfl) ?_
                    refine lv_goto (tgt := 156) hx hb dX9_turn_146 (by decide) ?_
                    obtain ⟨e0, hz1⟩ := Prod.mk.inj (Option.some.inj hf)
                    subst e0
                    subst hz1
                    exact rm_i hx hb hr hlk hP hS dX9_turn_156
        exact hL30 FU _ _ _ ls hf hP hS (lv_sub hl [1, 2, 3, 4, 0] rfl)
      · replace hf := (if_pos hc).symm.trans hf
        exact hJ22  _ _ _ hf hP hS (lv_sub hl [0, 1, 2, 3] rfl)

def fX9_manyWithin_J41 (v3_1 : Int32) (v4_2 : Int32) (kk : (Int32 × Int32) → Option (Int32 × Int32)) (t_3 : Int32) : Option (Int32 × Int32) :=
  (kk ((v3_1 + t_3), (v4_2 + (1 : Int32))))
def fX9_manyWithin_J40 (v3_1 : Int32) (v4_2 : Int32) (kk : (Int32 × Int32) → Option (Int32 × Int32)) : Option (Int32 × Int32) :=
  (fX9_manyWithin_J41 v3_1 v4_2 kk (0 : Int32))
def fX9_manyWithin_L5 (mVil : Int32) (mRts : Nat → Int32) (mLns : Nat → Int32) (mOpn : Nat → Int32) (p0 : Int32) (p1 : Int32) (kk : (Int32 × Int32) → Option (Int32 × Int32)) (ww : Int32 × Int32) : Option (Int32 × Int32) :=
  match ww with
  | (v3_1, v4_2) => (if mVil ≤ v4_2 then (some (v3_1, v4_2)) else (if gI v4_2 60 then (if (mOpn (v4_2).toNatClampNeg) = 0 then (fX9_manyWithin_J40 v3_1 v4_2 kk) else ((fX9_farFrom mRts mLns v4_2 p0).bind fun r_4 => (if p1 < r_4 then (fX9_manyWithin_J40 v3_1 v4_2 kk) else (fX9_manyWithin_J41 v3_1 v4_2 kk (1 : Int32))))) else none))
def fX9_manyWithin (mVil : Int32) (mRts : Nat → Int32) (mLns : Nat → Int32) (mOpn : Nat → Int32) (p0 : Int32) (p1 : Int32) : Option (Int32) :=
  ((lp (fX9_manyWithin_L5 mVil mRts mLns mOpn p0 p1) FU ((0 : Int32), (0 : Int32))).bind fun (ov3_1, ov4_2) => (some ov3_1))
set_option maxRecDepth 100000 in
set_option maxHeartbeats 4000000 in
theorem ctX9_manyWithin (l : Launch) (D : va_G) (cI cB cZ : ClassId) (bd : Nat → Nat) (mVil mBad mFul mLen mSig mWay mLef mSpo mBeg mTok mVal mWor mNum mThe : Int32) (mRts mLns mOpn mTxt mAns mWys mSiz mNbs : Nat → Int32) (p0 : Int32) (p1 : Int32) (rv : Int32) (hf : fX9_manyWithin mVil mRts mLns mOpn p0 p1 = some rv) : Met l yX9_manyWithin wsX9_manyWithin (rmN 1 25) (PR D (tyL cI cB cZ) (wM cI cB cZ bd mVil mBad mFul mLen mSig mWay mLef mSpo mBeg mTok mVal mWor mNum mThe mRts mLns mOpn mTxt mAns mWys mSiz mNbs) [.ref (bd 0), .int p0, .int p1]) (SI rv) 0 0 (fun _ => False) := by
  refine mk_met cX9_manyWithin 5 (some .int) (by decide) rfl (Nat.le_of_ble_eq_true rfl) ?_
  intro p e s m args below meth c ls hx hb hr hlk hml hown hts hPK hl
  obtain ⟨hP, hK⟩ := hPK
  replace hl : lv_has ls 5 [(0, .ref (bd 0)), (1, .int p0), (2, .int p1)] := hl
  replace hown : s.vm.findClass RX9 = some m.cls := hown
  have hiX9 : ∀ w ∈ wsX90, w ∈ wsX9_manyWithin := fun w h => List.mem_cons_of_mem _ (List.mem_append_right _ h)
  unfold fX9_manyWithin at hf
  refine lv_iconst (v := (0 : Int32)) hx hb dX9_manyWithin_0 (by decide) ?_
  refine lv_istore_n (lv' := [(3, .int (0 : Int32)), (0, .ref (bd 0)), (1, .int p0), (2, .int p1)]) hx hb dX9_manyWithin_1 rfl hl (by decide) rfl (fun ls hl => ?_)
  refine lv_iconst (v := (0 : Int32)) hx hb dX9_manyWithin_2 (by decide) ?_
  refine lv_istore (lv' := [(4, .int (0 : Int32)), (3, .int (0 : Int32)), (0, .ref (bd 0)), (1, .int p0), (2, .int p1)]) hx hb dX9_manyWithin_3 hl (by decide) rfl (fun ls hl => ?_)
  have hL5 : ∀ (n : Nat) (v3_1 : Int32) (v4_2 : Int32) (ov3_1 : Int32) (ov4_2 : Int32) (ls : Array Slot), lp (fX9_manyWithin_L5 mVil mRts mLns mOpn p0 p1) n (v3_1, v4_2) = some (ov3_1, ov4_2) → lv_has ls 5 [(0, .ref (bd 0)), (1, .int p0), (2, .int p1), (3, .int v3_1), (4, .int v4_2)] → (∀ (ls : Array Slot), lv_has ls 5 [(0, .ref (bd 0)), (1, .int p0), (2, .int p1), (3, .int ov3_1), (4, .int ov4_2)] → W p l e (rmN 1 25) s m args below meth c s.heap [] 0 0 (MQ below (SI rv) args s 0 0 (fun _ => False)) (F0 m 49 ls [])) → W p l e (rmN 1 25) s m args below meth c s.heap [] 0 0 (MQ below (SI rv) args s 0 0 (fun _ => False)) (F0 m 5 ls []) := by
    intro n
    induction n with
    | zero => intro v3_1 v4_2 ov3_1 ov4_2 ls hf; exact (lp_0 hf).elim
    | succ n ih =>
      intro v3_1 v4_2 ov3_1 ov4_2 ls hf hl hE
      replace hf := lp_s hf
      dsimp only [fX9_manyWithin_L5] at hf
      refine lv_iload hx hb dX9_manyWithin_5 (lv_at hl 4 rfl) ?_
      refine lv_aload_n hx hb dX9_manyWithin_7 rfl (lv_at hl 0 rfl) ?_
      refine va_get (ci := 8) (v := .int mVil) (C := RX9) (T := TX9) (N := 22) hx hb hts hiX9 hown hK hP 0 rfl rfl 0 (by decide) (hts _ (List.mem_of_getElem? (i := 1) rfl)) (fun _ h9 => h9) rfl dX9_manyWithin_8 ?_
      refine lv_icmp_ge (tgt := 49) hx hb dX9_manyWithin_11 (by decide) (fun hc => ?_) (fun hc => ?_)
      · replace hf := (if_pos hc).symm.trans hf
        cases hf
        exact hE _ (lv_sub hl [0, 1, 2, 3, 4] rfl)
      · replace hf := (if_neg hc).symm.trans hf
        refine lv_iload_n hx hb dX9_manyWithin_14 rfl (lv_at hl 3 rfl) ?_
        refine lv_aload_n hx hb dX9_manyWithin_15 rfl (lv_at hl 0 rfl) ?_
        refine va_get (ci := 8) (v := .ref (bd 3)) (C := RX9) (T := TX9) (N := 22) hx hb hts hiX9 hown hK hP 0 rfl rfl 3 (by decide) (hts _ (List.mem_of_getElem? (i := 2) rfl)) (fun _ h9 => h9) rfl dX9_manyWithin_16 ?_
        refine lv_iload hx hb dX9_manyWithin_19 (lv_at hl 4 rfl) ?_
        obtain ⟨hg, hf⟩ := og hf
        refine va_zald hx hb hK hP 3 2 rfl rfl (gI_in hg) dX9_manyWithin_21 ?_
        have hJ41 : ∀ (t_3 : Int32) (ls : Array Slot), fX9_manyWithin_J41 v3_1 v4_2 (lp (fX9_manyWithin_L5 mVil mRts mLns mOpn p0 p1) n) t_3 = some (ov3_1, ov4_2) → lv_has ls 5 [(0, .ref (bd 0)), (1, .int p0), (2, .int p1), (3, .int v3_1), (4, .int v4_2)] → W p l e (rmN 1 25) s m args below meth c s.heap [] 0 0 (MQ below (SI rv) args s 0 0 (fun _ => False)) (F0 m 41 ls [.int t_3, .int v3_1]) := by
          intro t_3 ls hf hl
          unfold fX9_manyWithin_J41 at hf
          refine lv_iadd hx hb dX9_manyWithin_41 ?_
          refine lv_istore_n (lv' := [(3, .int (v3_1 + t_3)), (0, .ref (bd 0)), (1, .int p0), (2, .int p1), (4, .int v4_2)]) hx hb dX9_manyWithin_42 rfl hl (by decide) rfl (fun ls hl => ?_)
          refine lv_iinc (v := (v4_2 + (1 : Int32))) (lv' := [(4, .int (v4_2 + (1 : Int32))), (3, .int (v3_1 + t_3)), (0, .ref (bd 0)), (1, .int p0), (2, .int p1)]) hx hb dX9_manyWithin_43 hl (k := 4) rfl rfl (by decide) rfl (fun ls hl => ?_)
          refine lv_goto (tgt := 5) hx hb dX9_manyWithin_46 (by decide) ?_
          exact ih _ _ _ _ _ hf (lv_sub hl [2, 3, 4, 1, 0] rfl) hE
        have hJ40 : ∀  (ls : Array Slot), fX9_manyWithin_J40 v3_1 v4_2 (lp (fX9_manyWithin_L5 mVil mRts mLns mOpn p0 p1) n) = some (ov3_1, ov4_2) → lv_has ls 5 [(0, .ref (bd 0)), (1, .int p0), (2, .int p1), (3, .int v3_1), (4, .int v4_2)] → W p l e (rmN 1 25) s m args below meth c s.heap [] 0 0 (MQ below (SI rv) args s 0 0 (fun _ => False)) (F0 m 40 ls [.int v3_1]) := by
          intro  ls hf hl
          unfold fX9_manyWithin_J40 at hf
          refine lv_iconst (v := (0 : Int32)) hx hb dX9_manyWithin_40 (by decide) ?_
          exact hJ41 _ _ hf (lv_sub hl [0, 1, 2, 3, 4] rfl)
        refine lv_if_eq (tgt := 40) hx hb dX9_manyWithin_22 (by decide) (fun hc => ?_) (fun hc => ?_)
        · replace hf := (if_pos hc).symm.trans hf
          exact hJ40  _ hf (lv_sub hl [0, 1, 2, 3, 4] rfl)
        · replace hf := (if_neg hc).symm.trans hf
          refine lv_aload_n hx hb dX9_manyWithin_25 rfl (lv_at hl 0 rfl) ?_
          refine lv_iload hx hb dX9_manyWithin_26 (lv_at hl 4 rfl) ?_
          refine lv_iload_n hx hb dX9_manyWithin_28 rfl (lv_at hl 1 rfl) ?_
          obtain ⟨r_4, hq, hf⟩ := ob hf
          try dsimp only at hf
          refine rcV 0 8 (As := [.int v4_2, .int p0]) (rest := [.int v3_1]) ⟨hx, hb, hml, hown, hts⟩ (ctX9_farFrom l D cI cB cZ bd mVil mBad mFul mLen mSig mWay mLef mSpo mBeg mTok mVal mWor mNum mThe mRts mLns mOpn mTxt mAns mWys mSiz mNbs v4_2 p0 r_4 hq) (cwV 2 hts gX9_manyWithin_X9_farFrom rfl rfl rfl (by decide +kernel) ⟨Nat.le_of_ble_eq_true rfl, Nat.le_of_ble_eq_true rfl⟩) hK hP rfl rfl rfl hl.1 rfl (Nat.le_of_ble_eq_true rfl) dX9_manyWithin_29 ⟨Nat.zero_le _, Nat.zero_le _⟩ ?_
          refine lv_iload_n hx hb dX9_manyWithin_32 rfl (lv_at hl 2 rfl) ?_
          refine lv_icmp_gt (tgt := 40) hx hb dX9_manyWithin_33 (by decide) (fun hc => ?_) (fun hc => ?_)
          · replace hf := (if_pos hc).symm.trans hf
            exact hJ40  _ hf (lv_sub hl [0, 1, 2, 3, 4] rfl)
          · replace hf := (if_neg hc).symm.trans hf
            refine lv_iconst (v := (1 : Int32)) hx hb dX9_manyWithin_36 (by decide) ?_
            refine lv_goto (tgt := 41) hx hb dX9_manyWithin_37 (by decide) ?_
            exact hJ41 _ _ hf (lv_sub hl [0, 1, 2, 3, 4] rfl)
  obtain ⟨⟨ov3_1, ov4_2⟩, hq, hf⟩ := ob hf
  try dsimp only at hf
  refine hL5 FU _ _ ov3_1 ov4_2 ls hq (lv_sub hl [2, 3, 4, 1, 0] rfl) (fun ls hl => ?_)
  refine lv_iload_n hx hb dX9_manyWithin_49 rfl (lv_at hl 3 rfl) ?_
  exact re_i hx hb hr hlk dX9_manyWithin_50 hf

def fX9_within_J29 (mBad : Int32) : Option (Int32 × Int32) :=
  ((fX9_refuse mBad).bind fun (r_2, qmBad_3) => (some (r_2, qmBad_3)))
def fX9_within (mVil : Int32) (mBad : Int32) (mRts : Nat → Int32) (mLns : Nat → Int32) (mOpn : Nat → Int32) (p0 : Int32) (p1 : Int32) : Option (Int32 × Int32) :=
  ((fX9_isVillage mVil p0).bind fun r_1 => (if r_1 = 0 then (fX9_within_J29 mBad) else ((fX9_in (p1).toInt64 (0 : Int64) (6000 : Int64)).bind fun r_4 => (if r_4 = 0 then (fX9_within_J29 mBad) else ((fX9_manyWithin mVil mRts mLns mOpn p0 p1).bind fun r_5 => (some (r_5, mBad)))))))
set_option maxRecDepth 100000 in
set_option maxHeartbeats 4000000 in
theorem ctX9_within (l : Launch) (D : va_G) (cI cB cZ : ClassId) (bd : Nat → Nat) (A : Nat → Prop) (hAD : AD A bd 9) (mVil mBad mFul mLen mSig mWay mLef mSpo mBeg mTok mVal mWor mNum mThe : Int32) (mRts mLns mOpn mTxt mAns mWys mSiz mNbs : Nat → Int32) (p0 : Int32) (p1 : Int32) (rv : Int32) (zmBad : Int32) (hf : fX9_within mVil mBad mRts mLns mOpn p0 p1 = some (rv, zmBad)) : Met l yX9_within wsX9_within (rmN 2 49) (PR D (tyL cI cB cZ) (wM cI cB cZ bd mVil mBad mFul mLen mSig mWay mLef mSpo mBeg mTok mVal mWor mNum mThe mRts mLns mOpn mTxt mAns mWys mSiz mNbs) [.ref (bd 0), .int p0, .int p1]) (QI D (wM cI cB cZ bd mVil zmBad mFul mLen mSig mWay mLef mSpo mBeg mTok mVal mWor mNum mThe mRts mLns mOpn mTxt mAns mWys mSiz mNbs) A rv) 0 0 A := by
  refine mk_met cX9_within 3 (some .int) (by decide) rfl (Nat.le_of_ble_eq_true rfl) ?_
  intro p e s m args below meth c ls hx hb hr hlk hml hown hts hPK hl
  obtain ⟨hP, hK⟩ := hPK
  replace hl : lv_has ls 3 [(0, .ref (bd 0)), (1, .int p0), (2, .int p1)] := hl
  replace hown : s.vm.findClass RX9 = some m.cls := hown
  have hS : va_S A s.heap s.heap [] := va_S.rf
  unfold fX9_within at hf
  refine lv_aload_n hx hb dX9_within_0 rfl (lv_at hl 0 rfl) ?_
  refine lv_iload_n hx hb dX9_within_1 rfl (lv_at hl 1 rfl) ?_
  obtain ⟨r_1, hq, hf⟩ := ob hf
  try dsimp only at hf
  refine rcV 0 8 (As := [.int p0]) (rest := []) ⟨hx, hb, hml, hown, hts⟩ (ctX9_isVillage l D cI cB cZ bd mVil mBad mFul mLen mSig mWay mLef mSpo mBeg mTok mVal mWor mNum mThe mRts mLns mOpn mTxt mAns mWys mSiz mNbs p0 r_1 hq) (cwV 1 hts gX9_within_X9_isVillage rfl rfl rfl (by decide +kernel) ⟨Nat.le_of_ble_eq_true rfl, Nat.le_of_ble_eq_true rfl⟩) hK hP rfl rfl rfl hl.1 rfl (Nat.le_of_ble_eq_true rfl) dX9_within_2 ⟨Nat.zero_le _, Nat.zero_le _⟩ ?_
  have hJ29 : ∀  (H : Heap) (locs : List Loc) (ls : Array Slot), fX9_within_J29 mBad = some (rv, zmBad) → va_P D vwCl (wM cI cB cZ bd mVil mBad mFul mLen mSig mWay mLef mSpo mBeg mTok mVal mWor mNum mThe mRts mLns mOpn mTxt mAns mWys mSiz mNbs) H → va_S A s.heap H locs → lv_has ls 3 [(0, .ref (bd 0)), (1, .int p0), (2, .int p1)] → W p l e (rmN 2 49) s m args below meth c H locs 0 0 (MQ below (QI D (wM cI cB cZ bd mVil zmBad mFul mLen mSig mWay mLef mSpo mBeg mTok mVal mWor mNum mThe mRts mLns mOpn mTxt mAns mWys mSiz mNbs) A rv) args s 0 0 A) (F0 m 29 ls []) := by
    intro  H locs ls hf hP hS hl
    unfold fX9_within_J29 at hf
    refine lv_aload_n hx hb dX9_within_29 rfl (lv_at hl 0 rfl) ?_
    obtain ⟨⟨r_2, qmBad_3⟩, hq, hf⟩ := ob hf
    try dsimp only at hf
    refine mcVi 0 8 (As := []) (rest := []) ⟨hx, hb, hml, hown, hts⟩ (ctX9_refuse l D cI cB cZ bd A hAD mVil mBad mFul mLen mSig mWay mLef mSpo mBeg mTok mVal mWor mNum mThe mRts mLns mOpn mTxt mAns mWys mSiz mNbs  r_2 qmBad_3 hq) (cwV 0 hts gX9_within_X9_refuse rfl rfl rfl (by decide +kernel) ⟨Nat.le_of_ble_eq_true rfl, Nat.le_of_ble_eq_true rfl⟩) hK hP hS rfl rfl rfl hl.1 rfl (Nat.le_of_ble_eq_true rfl) dX9_within_30 ⟨Nat.zero_le _, Nat.zero_le _⟩ (fun H locs hP hS => ?_)
    obtain ⟨e0, hz1⟩ := Prod.mk.inj (Option.some.inj hf)
    subst e0
    subst hz1
    exact rm_i hx hb hr hlk hP hS dX9_within_33
  refine lv_if_eq (tgt := 29) hx hb dX9_within_5 (by decide) (fun hc => ?_) (fun hc => ?_)
  · replace hf := (if_pos hc).symm.trans hf
    exact hJ29  _ _ _ hf hP hS (lv_sub hl [0, 1, 2] rfl)
  · replace hf := (if_neg hc).symm.trans hf
    refine lv_iload_n hx hb dX9_within_8 rfl (lv_at hl 2 rfl) ?_
    refine lv_i2l (v := (p1).toInt64) hx hb dX9_within_9 rfl ?_
    refine lv_lconst (v := (0 : Int64)) hx hb dX9_within_10 (by decide) ?_
    refine lv_ldc2 (v := (6000 : Int64)) hx hb hown (hts _ (List.mem_of_getElem? (i := 1) rfl)) dX9_within_11 ?_
    obtain ⟨r_4, hq, hf⟩ := ob hf
    try dsimp only at hf
    refine rcS (As := [.long (p1).toInt64, .long (0 : Int64), .long (6000 : Int64)]) (rest := []) ⟨hx, hb, hml, hown, hts⟩ (ctX9_in l (p1).toInt64 (0 : Int64) (6000 : Int64) r_4 hq) (va_cwS 3 hts gX9_within_X9_in rfl rfl rfl (by decide +kernel) ⟨Nat.le_of_ble_eq_true rfl, Nat.le_of_ble_eq_true rfl⟩) rfl hl.1 rfl (Nat.le_of_ble_eq_true rfl) dX9_within_14 ⟨Nat.zero_le _, Nat.zero_le _⟩ ?_
    refine lv_if_eq (tgt := 29) hx hb dX9_within_17 (by decide) (fun hc => ?_) (fun hc => ?_)
    · replace hf := (if_pos hc).symm.trans hf
      exact hJ29  _ _ _ hf hP hS (lv_sub hl [0, 1, 2] rfl)
    · replace hf := (if_neg hc).symm.trans hf
      refine lv_aload_n hx hb dX9_within_20 rfl (lv_at hl 0 rfl) ?_
      refine lv_iload_n hx hb dX9_within_21 rfl (lv_at hl 1 rfl) ?_
      refine lv_iload_n hx hb dX9_within_22 rfl (lv_at hl 2 rfl) ?_
      obtain ⟨r_5, hq, hf⟩ := ob hf
      try dsimp only at hf
      refine rcV 0 8 (As := [.int p0, .int p1]) (rest := []) ⟨hx, hb, hml, hown, hts⟩ (ctX9_manyWithin l D cI cB cZ bd mVil mBad mFul mLen mSig mWay mLef mSpo mBeg mTok mVal mWor mNum mThe mRts mLns mOpn mTxt mAns mWys mSiz mNbs p0 p1 r_5 hq) (cwV 2 hts gX9_within_X9_manyWithin rfl rfl rfl (by decide +kernel) ⟨Nat.le_of_ble_eq_true rfl, Nat.le_of_ble_eq_true rfl⟩) hK hP rfl rfl rfl hl.1 rfl (Nat.le_of_ble_eq_true rfl) dX9_within_23 ⟨Nat.zero_le _, Nat.zero_le _⟩ ?_
      refine lv_goto (tgt := 33) hx hb dX9_within_26 (by decide) ?_
      obtain ⟨e0, hz1⟩ := Prod.mk.inj (Option.some.inj hf)
      subst e0
      subst hz1
      exact rm_i hx hb hr hlk hP hS dX9_within_33

def fX9_sumOfOpen_J32 (v2_1 : Int32) (v3_2 : Int32) (kk : (Int32 × Int32) → Option (Int32 × Int32)) (t_3 : Int32) : Option (Int32 × Int32) :=
  (kk ((v2_1 + t_3), (v3_2 + (1 : Int32))))
def fX9_sumOfOpen_L4 (mVil : Int32) (mRts : Nat → Int32) (mLns : Nat → Int32) (mOpn : Nat → Int32) (p0 : Int32) (kk : (Int32 × Int32) → Option (Int32 × Int32)) (ww : Int32 × Int32) : Option (Int32 × Int32) :=
  match ww with
  | (v2_1, v3_2) => (if mVil ≤ v3_2 then (some (v2_1, v3_2)) else (if gI v3_2 60 then (if (mOpn (v3_2).toNatClampNeg) = 0 then (fX9_sumOfOpen_J32 v2_1 v3_2 kk (0 : Int32)) else ((fX9_farFrom mRts mLns v3_2 p0).bind fun r_4 => (fX9_sumOfOpen_J32 v2_1 v3_2 kk r_4))) else none))
def fX9_sumOfOpen (mVil : Int32) (mRts : Nat → Int32) (mLns : Nat → Int32) (mOpn : Nat → Int32) (p0 : Int32) : Option (Int32) :=
  ((lp (fX9_sumOfOpen_L4 mVil mRts mLns mOpn p0) FU ((0 : Int32), (0 : Int32))).bind fun (ov2_1, ov3_2) => (some ov2_1))
set_option maxRecDepth 100000 in
set_option maxHeartbeats 4000000 in
theorem ctX9_sumOfOpen (l : Launch) (D : va_G) (cI cB cZ : ClassId) (bd : Nat → Nat) (mVil mBad mFul mLen mSig mWay mLef mSpo mBeg mTok mVal mWor mNum mThe : Int32) (mRts mLns mOpn mTxt mAns mWys mSiz mNbs : Nat → Int32) (p0 : Int32) (rv : Int32) (hf : fX9_sumOfOpen mVil mRts mLns mOpn p0 = some rv) : Met l yX9_sumOfOpen wsX9_sumOfOpen (rmN 1 25) (PR D (tyL cI cB cZ) (wM cI cB cZ bd mVil mBad mFul mLen mSig mWay mLef mSpo mBeg mTok mVal mWor mNum mThe mRts mLns mOpn mTxt mAns mWys mSiz mNbs) [.ref (bd 0), .int p0]) (SI rv) 0 0 (fun _ => False) := by
  refine mk_met cX9_sumOfOpen 4 (some .int) (by decide) rfl (Nat.le_of_ble_eq_true rfl) ?_
  intro p e s m args below meth c ls hx hb hr hlk hml hown hts hPK hl
  obtain ⟨hP, hK⟩ := hPK
  replace hl : lv_has ls 4 [(0, .ref (bd 0)), (1, .int p0)] := hl
  replace hown : s.vm.findClass RX9 = some m.cls := hown
  have hiX9 : ∀ w ∈ wsX90, w ∈ wsX9_sumOfOpen := fun w h => List.mem_cons_of_mem _ (List.mem_append_right _ h)
  unfold fX9_sumOfOpen at hf
  refine lv_iconst (v := (0 : Int32)) hx hb dX9_sumOfOpen_0 (by decide) ?_
  refine lv_istore_n (lv' := [(2, .int (0 : Int32)), (0, .ref (bd 0)), (1, .int p0)]) hx hb dX9_sumOfOpen_1 rfl hl (by decide) rfl (fun ls hl => ?_)
  refine lv_iconst (v := (0 : Int32)) hx hb dX9_sumOfOpen_2 (by decide) ?_
  refine lv_istore_n (lv' := [(3, .int (0 : Int32)), (2, .int (0 : Int32)), (0, .ref (bd 0)), (1, .int p0)]) hx hb dX9_sumOfOpen_3 rfl hl (by decide) rfl (fun ls hl => ?_)
  have hL4 : ∀ (n : Nat) (v2_1 : Int32) (v3_2 : Int32) (ov2_1 : Int32) (ov3_2 : Int32) (ls : Array Slot), lp (fX9_sumOfOpen_L4 mVil mRts mLns mOpn p0) n (v2_1, v3_2) = some (ov2_1, ov3_2) → lv_has ls 4 [(0, .ref (bd 0)), (1, .int p0), (2, .int v2_1), (3, .int v3_2)] → (∀ (ls : Array Slot), lv_has ls 4 [(0, .ref (bd 0)), (1, .int p0), (2, .int ov2_1), (3, .int ov3_2)] → W p l e (rmN 1 25) s m args below meth c s.heap [] 0 0 (MQ below (SI rv) args s 0 0 (fun _ => False)) (F0 m 40 ls [])) → W p l e (rmN 1 25) s m args below meth c s.heap [] 0 0 (MQ below (SI rv) args s 0 0 (fun _ => False)) (F0 m 4 ls []) := by
    intro n
    induction n with
    | zero => intro v2_1 v3_2 ov2_1 ov3_2 ls hf; exact (lp_0 hf).elim
    | succ n ih =>
      intro v2_1 v3_2 ov2_1 ov3_2 ls hf hl hE
      replace hf := lp_s hf
      dsimp only [fX9_sumOfOpen_L4] at hf
      refine lv_iload_n hx hb dX9_sumOfOpen_4 rfl (lv_at hl 3 rfl) ?_
      refine lv_aload_n hx hb dX9_sumOfOpen_5 rfl (lv_at hl 0 rfl) ?_
      refine va_get (ci := 8) (v := .int mVil) (C := RX9) (T := TX9) (N := 22) hx hb hts hiX9 hown hK hP 0 rfl rfl 0 (by decide) (hts _ (List.mem_of_getElem? (i := 1) rfl)) (fun _ h9 => h9) rfl dX9_sumOfOpen_6 ?_
      refine lv_icmp_ge (tgt := 40) hx hb dX9_sumOfOpen_9 (by decide) (fun hc => ?_) (fun hc => ?_)
      · replace hf := (if_pos hc).symm.trans hf
        cases hf
        exact hE _ (lv_sub hl [0, 1, 2, 3] rfl)
      · replace hf := (if_neg hc).symm.trans hf
        refine lv_iload_n hx hb dX9_sumOfOpen_12 rfl (lv_at hl 2 rfl) ?_
        refine lv_aload_n hx hb dX9_sumOfOpen_13 rfl (lv_at hl 0 rfl) ?_
        refine va_get (ci := 8) (v := .ref (bd 3)) (C := RX9) (T := TX9) (N := 22) hx hb hts hiX9 hown hK hP 0 rfl rfl 3 (by decide) (hts _ (List.mem_of_getElem? (i := 2) rfl)) (fun _ h9 => h9) rfl dX9_sumOfOpen_14 ?_
        refine lv_iload_n hx hb dX9_sumOfOpen_17 rfl (lv_at hl 3 rfl) ?_
        obtain ⟨hg, hf⟩ := og hf
        refine va_zald hx hb hK hP 3 2 rfl rfl (gI_in hg) dX9_sumOfOpen_18 ?_
        have hJ32 : ∀ (t_3 : Int32) (ls : Array Slot), fX9_sumOfOpen_J32 v2_1 v3_2 (lp (fX9_sumOfOpen_L4 mVil mRts mLns mOpn p0) n) t_3 = some (ov2_1, ov3_2) → lv_has ls 4 [(0, .ref (bd 0)), (1, .int p0), (2, .int v2_1), (3, .int v3_2)] → W p l e (rmN 1 25) s m args below meth c s.heap [] 0 0 (MQ below (SI rv) args s 0 0 (fun _ => False)) (F0 m 32 ls [.int t_3, .int v2_1]) := by
          intro t_3 ls hf hl
          unfold fX9_sumOfOpen_J32 at hf
          refine lv_iadd hx hb dX9_sumOfOpen_32 ?_
          refine lv_istore_n (lv' := [(2, .int (v2_1 + t_3)), (0, .ref (bd 0)), (1, .int p0), (3, .int v3_2)]) hx hb dX9_sumOfOpen_33 rfl hl (by decide) rfl (fun ls hl => ?_)
          refine lv_iinc (v := (v3_2 + (1 : Int32))) (lv' := [(3, .int (v3_2 + (1 : Int32))), (2, .int (v2_1 + t_3)), (0, .ref (bd 0)), (1, .int p0)]) hx hb dX9_sumOfOpen_34 hl (k := 3) rfl rfl (by decide) rfl (fun ls hl => ?_)
          refine lv_goto (tgt := 4) hx hb dX9_sumOfOpen_37 (by decide) ?_
          exact ih _ _ _ _ _ hf (lv_sub hl [2, 3, 1, 0] rfl) hE
        refine lv_if_eq (tgt := 31) hx hb dX9_sumOfOpen_19 (by decide) (fun hc => ?_) (fun hc => ?_)
        · replace hf := (if_pos hc).symm.trans hf
          refine lv_iconst (v := (0 : Int32)) hx hb dX9_sumOfOpen_31 (by decide) ?_
          exact hJ32 _ _ hf (lv_sub hl [0, 1, 2, 3] rfl)
        · replace hf := (if_neg hc).symm.trans hf
          refine lv_aload_n hx hb dX9_sumOfOpen_22 rfl (lv_at hl 0 rfl) ?_
          refine lv_iload_n hx hb dX9_sumOfOpen_23 rfl (lv_at hl 3 rfl) ?_
          refine lv_iload_n hx hb dX9_sumOfOpen_24 rfl (lv_at hl 1 rfl) ?_
          obtain ⟨r_4, hq, hf⟩ := ob hf
          try dsimp only at hf
          refine rcV 0 8 (As := [.int v3_2, .int p0]) (rest := [.int v2_1]) ⟨hx, hb, hml, hown, hts⟩ (ctX9_farFrom l D cI cB cZ bd mVil mBad mFul mLen mSig mWay mLef mSpo mBeg mTok mVal mWor mNum mThe mRts mLns mOpn mTxt mAns mWys mSiz mNbs v3_2 p0 r_4 hq) (cwV 2 hts gX9_sumOfOpen_X9_farFrom rfl rfl rfl (by decide +kernel) ⟨Nat.le_of_ble_eq_true rfl, Nat.le_of_ble_eq_true rfl⟩) hK hP rfl rfl rfl hl.1 rfl (Nat.le_of_ble_eq_true rfl) dX9_sumOfOpen_25 ⟨Nat.zero_le _, Nat.zero_le _⟩ ?_
          refine lv_goto (tgt := 32) hx hb dX9_sumOfOpen_28 (by decide) ?_
          exact hJ32 _ _ hf (lv_sub hl [0, 1, 2, 3] rfl)
  obtain ⟨⟨ov2_1, ov3_2⟩, hq, hf⟩ := ob hf
  try dsimp only at hf
  refine hL4 FU _ _ ov2_1 ov3_2 ls hq (lv_sub hl [2, 3, 1, 0] rfl) (fun ls hl => ?_)
  refine lv_iload_n hx hb dX9_sumOfOpen_40 rfl (lv_at hl 2 rfl) ?_
  exact re_i hx hb hr hlk dX9_sumOfOpen_41 hf

def fX9_sum (mVil : Int32) (mBad : Int32) (mRts : Nat → Int32) (mLns : Nat → Int32) (mOpn : Nat → Int32) (p0 : Int32) : Option (Int32 × Int32) :=
  ((fX9_isVillage mVil p0).bind fun r_1 => (if r_1 = 0 then ((fX9_refuse mBad).bind fun (r_2, qmBad_3) => (some (r_2, qmBad_3))) else ((fX9_sumOfOpen mVil mRts mLns mOpn p0).bind fun r_4 => (some (r_4, mBad)))))
set_option maxRecDepth 100000 in
set_option maxHeartbeats 4000000 in
theorem ctX9_sum (l : Launch) (D : va_G) (cI cB cZ : ClassId) (bd : Nat → Nat) (A : Nat → Prop) (hAD : AD A bd 9) (mVil mBad mFul mLen mSig mWay mLef mSpo mBeg mTok mVal mWor mNum mThe : Int32) (mRts mLns mOpn mTxt mAns mWys mSiz mNbs : Nat → Int32) (p0 : Int32) (rv : Int32) (zmBad : Int32) (hf : fX9_sum mVil mBad mRts mLns mOpn p0 = some (rv, zmBad)) : Met l yX9_sum wsX9_sum (rmN 2 48) (PR D (tyL cI cB cZ) (wM cI cB cZ bd mVil mBad mFul mLen mSig mWay mLef mSpo mBeg mTok mVal mWor mNum mThe mRts mLns mOpn mTxt mAns mWys mSiz mNbs) [.ref (bd 0), .int p0]) (QI D (wM cI cB cZ bd mVil zmBad mFul mLen mSig mWay mLef mSpo mBeg mTok mVal mWor mNum mThe mRts mLns mOpn mTxt mAns mWys mSiz mNbs) A rv) 0 0 A := by
  refine mk_met cX9_sum 2 (some .int) (by decide) rfl (Nat.le_of_ble_eq_true rfl) ?_
  intro p e s m args below meth c ls hx hb hr hlk hml hown hts hPK hl
  obtain ⟨hP, hK⟩ := hPK
  replace hl : lv_has ls 2 [(0, .ref (bd 0)), (1, .int p0)] := hl
  replace hown : s.vm.findClass RX9 = some m.cls := hown
  have hS : va_S A s.heap s.heap [] := va_S.rf
  unfold fX9_sum at hf
  refine lv_aload_n hx hb dX9_sum_0 rfl (lv_at hl 0 rfl) ?_
  refine lv_iload_n hx hb dX9_sum_1 rfl (lv_at hl 1 rfl) ?_
  obtain ⟨r_1, hq, hf⟩ := ob hf
  try dsimp only at hf
  refine rcV 0 8 (As := [.int p0]) (rest := []) ⟨hx, hb, hml, hown, hts⟩ (ctX9_isVillage l D cI cB cZ bd mVil mBad mFul mLen mSig mWay mLef mSpo mBeg mTok mVal mWor mNum mThe mRts mLns mOpn mTxt mAns mWys mSiz mNbs p0 r_1 hq) (cwV 1 hts gX9_sum_X9_isVillage rfl rfl rfl (by decide +kernel) ⟨Nat.le_of_ble_eq_true rfl, Nat.le_of_ble_eq_true rfl⟩) hK hP rfl rfl rfl hl.1 rfl (Nat.le_of_ble_eq_true rfl) dX9_sum_2 ⟨Nat.zero_le _, Nat.zero_le _⟩ ?_
  refine lv_if_eq (tgt := 16) hx hb dX9_sum_5 (by decide) (fun hc => ?_) (fun hc => ?_)
  · replace hf := (if_pos hc).symm.trans hf
    refine lv_aload_n hx hb dX9_sum_16 rfl (lv_at hl 0 rfl) ?_
    obtain ⟨⟨r_2, qmBad_3⟩, hq, hf⟩ := ob hf
    try dsimp only at hf
    refine mcVi 0 8 (As := []) (rest := []) ⟨hx, hb, hml, hown, hts⟩ (ctX9_refuse l D cI cB cZ bd A hAD mVil mBad mFul mLen mSig mWay mLef mSpo mBeg mTok mVal mWor mNum mThe mRts mLns mOpn mTxt mAns mWys mSiz mNbs  r_2 qmBad_3 hq) (cwV 0 hts gX9_sum_X9_refuse rfl rfl rfl (by decide +kernel) ⟨Nat.le_of_ble_eq_true rfl, Nat.le_of_ble_eq_true rfl⟩) hK hP hS rfl rfl rfl hl.1 rfl (Nat.le_of_ble_eq_true rfl) dX9_sum_17 ⟨Nat.zero_le _, Nat.zero_le _⟩ (fun H locs hP hS => ?_)
    obtain ⟨e0, hz1⟩ := Prod.mk.inj (Option.some.inj hf)
    subst e0
    subst hz1
    exact rm_i hx hb hr hlk hP hS dX9_sum_20
  · replace hf := (if_neg hc).symm.trans hf
    refine lv_aload_n hx hb dX9_sum_8 rfl (lv_at hl 0 rfl) ?_
    refine lv_iload_n hx hb dX9_sum_9 rfl (lv_at hl 1 rfl) ?_
    obtain ⟨r_4, hq, hf⟩ := ob hf
    try dsimp only at hf
    refine rcV 0 8 (As := [.int p0]) (rest := []) ⟨hx, hb, hml, hown, hts⟩ (ctX9_sumOfOpen l D cI cB cZ bd mVil mBad mFul mLen mSig mWay mLef mSpo mBeg mTok mVal mWor mNum mThe mRts mLns mOpn mTxt mAns mWys mSiz mNbs p0 r_4 hq) (cwV 1 hts gX9_sum_X9_sumOfOpen rfl rfl rfl (by decide +kernel) ⟨Nat.le_of_ble_eq_true rfl, Nat.le_of_ble_eq_true rfl⟩) hK hP rfl rfl rfl hl.1 rfl (Nat.le_of_ble_eq_true rfl) dX9_sum_10 ⟨Nat.zero_le _, Nat.zero_le _⟩ ?_
    refine lv_goto (tgt := 20) hx hb dX9_sum_13 (by decide) ?_
    obtain ⟨e0, hz1⟩ := Prod.mk.inj (Option.some.inj hf)
    subst e0
    subst hz1
    exact rm_i hx hb hr hlk hP hS dX9_sum_20

def fX9_findLeft_J65 (v2_2 : Int32) (kk : (Int32 × Int32 × Int32) → Option (Int32 × Int32 × Int32)) (t_6 : Int32) (t_7 : Int32) : Option (Int32 × Int32 × Int32) :=
  (kk (t_7, (v2_2 + (1 : Int32)), t_6))
def fX9_findLeft_J50 (v1_1 : Int32) (v2_2 : Int32) (kk : (Int32 × Int32 × Int32) → Option (Int32 × Int32 × Int32)) (t_5 : Int32) (t_6 : Int32) : Option (Int32 × Int32 × Int32) :=
  (if t_5 ≤ v1_1 then (fX9_findLeft_J65 v2_2 kk t_6 v1_1) else (fX9_findLeft_J65 v2_2 kk t_6 t_5))
def fX9_findLeft_J33 (v1_1 : Int32) (v2_2 : Int32) (wmLef_3 : Int32) (kk : (Int32 × Int32 × Int32) → Option (Int32 × Int32 × Int32)) (t_5 : Int32) : Option (Int32 × Int32 × Int32) :=
  (if t_5 ≤ v1_1 then (fX9_findLeft_J50 v1_1 v2_2 kk t_5 wmLef_3) else (fX9_findLeft_J50 v1_1 v2_2 kk t_5 v2_2))
def fX9_findLeft_L4 (mVil : Int32) (mRts : Nat → Int32) (mLns : Nat → Int32) (mOpn : Nat → Int32) (kk : (Int32 × Int32 × Int32) → Option (Int32 × Int32 × Int32)) (ww : Int32 × Int32 × Int32) : Option (Int32 × Int32 × Int32) :=
  match ww with
  | (v1_1, v2_2, wmLef_3) => (if mVil ≤ v2_2 then (some (v1_1, v2_2, wmLef_3)) else ((fX9_nearestOf mVil mRts mLns mOpn v2_2).bind fun r_4 => (if r_4 = (-1 : Int32) then (fX9_findLeft_J33 v1_1 v2_2 wmLef_3 kk (-1 : Int32)) else ((fX9_farFrom mRts mLns r_4 v2_2).bind fun r_8 => (fX9_findLeft_J33 v1_1 v2_2 wmLef_3 kk r_8)))))
def fX9_findLeft (mVil : Int32) (mLef : Int32) (mRts : Nat → Int32) (mLns : Nat → Int32) (mOpn : Nat → Int32)  : Option (Int32 × Int32) :=
  ((lp (fX9_findLeft_L4 mVil mRts mLns mOpn) FU ((-1 : Int32), (0 : Int32), mLef)).bind fun (ov1_1, ov2_2, owmLef_3) => (some (ov1_1, owmLef_3)))
set_option maxRecDepth 100000 in
set_option maxHeartbeats 4000000 in
theorem ctX9_findLeft (l : Launch) (D : va_G) (cI cB cZ : ClassId) (bd : Nat → Nat) (A : Nat → Prop) (hAD : AD A bd 9) (mVil mBad mFul mLen mSig mWay mLef mSpo mBeg mTok mVal mWor mNum mThe : Int32) (mRts mLns mOpn mTxt mAns mWys mSiz mNbs : Nat → Int32)  (rv : Int32) (zmLef : Int32) (hf : fX9_findLeft mVil mLef mRts mLns mOpn = some (rv, zmLef)) : Met l yX9_findLeft wsX9_findLeft (rmN 2 48) (PR D (tyL cI cB cZ) (wM cI cB cZ bd mVil mBad mFul mLen mSig mWay mLef mSpo mBeg mTok mVal mWor mNum mThe mRts mLns mOpn mTxt mAns mWys mSiz mNbs) [.ref (bd 0)]) (QI D (wM cI cB cZ bd mVil mBad mFul mLen mSig mWay zmLef mSpo mBeg mTok mVal mWor mNum mThe mRts mLns mOpn mTxt mAns mWys mSiz mNbs) A rv) 0 0 A := by
  refine mk_met cX9_findLeft 5 (some .int) (by decide) rfl (Nat.le_of_ble_eq_true rfl) ?_
  intro p e s m args below meth c ls hx hb hr hlk hml hown hts hPK hl
  obtain ⟨hP, hK⟩ := hPK
  replace hl : lv_has ls 5 [(0, .ref (bd 0))] := hl
  replace hown : s.vm.findClass RX9 = some m.cls := hown
  have hiX9 : ∀ w ∈ wsX90, w ∈ wsX9_findLeft := fun w h => List.mem_cons_of_mem _ (List.mem_append_right _ h)
  have hS : va_S A s.heap s.heap [] := va_S.rf
  unfold fX9_findLeft at hf
  refine lv_iconst (v := (-1 : Int32)) hx hb dX9_findLeft_0 (by decide) ?_
  refine lv_istore_n (lv' := [(1, .int (-1 : Int32)), (0, .ref (bd 0))]) hx hb dX9_findLeft_1 rfl hl (by decide) rfl (fun ls hl => ?_)
  refine lv_iconst (v := (0 : Int32)) hx hb dX9_findLeft_2 (by decide) ?_
  refine lv_istore_n (lv' := [(2, .int (0 : Int32)), (1, .int (-1 : Int32)), (0, .ref (bd 0))]) hx hb dX9_findLeft_3 rfl hl (by decide) rfl (fun ls hl => ?_)
  have hL4 : ∀ (n : Nat) (v1_1 : Int32) (v2_2 : Int32) (wmLef_3 : Int32) (ov1_1 : Int32) (ov2_2 : Int32) (owmLef_3 : Int32) (H : Heap) (locs : List Loc) (ls : Array Slot), lp (fX9_findLeft_L4 mVil mRts mLns mOpn) n (v1_1, v2_2, wmLef_3) = some (ov1_1, ov2_2, owmLef_3) → va_P D vwCl (wM cI cB cZ bd mVil mBad mFul mLen mSig mWay wmLef_3 mSpo mBeg mTok mVal mWor mNum mThe mRts mLns mOpn mTxt mAns mWys mSiz mNbs) H → va_S A s.heap H locs → lv_has ls 5 [(0, .ref (bd 0)), (1, .int v1_1), (2, .int v2_2)] → (∀ (H : Heap) (locs : List Loc) (ls : Array Slot), va_P D vwCl (wM cI cB cZ bd mVil mBad mFul mLen mSig mWay owmLef_3 mSpo mBeg mTok mVal mWor mNum mThe mRts mLns mOpn mTxt mAns mWys mSiz mNbs) H → va_S A s.heap H locs → lv_has ls 5 [(0, .ref (bd 0)), (1, .int ov1_1), (2, .int ov2_2)] → W p l e (rmN 2 48) s m args below meth c H locs 0 0 (MQ below (QI D (wM cI cB cZ bd mVil mBad mFul mLen mSig mWay zmLef mSpo mBeg mTok mVal mWor mNum mThe mRts mLns mOpn mTxt mAns mWys mSiz mNbs) A rv) args s 0 0 A) (F0 m 72 ls [])) → W p l e (rmN 2 48) s m args below meth c H locs 0 0 (MQ below (QI D (wM cI cB cZ bd mVil mBad mFul mLen mSig mWay zmLef mSpo mBeg mTok mVal mWor mNum mThe mRts mLns mOpn mTxt mAns mWys mSiz mNbs) A rv) args s 0 0 A) (F0 m 4 ls []) := by
    intro n
    induction n with
    | zero => intro v1_1 v2_2 wmLef_3 ov1_1 ov2_2 owmLef_3 H locs ls hf; exact (lp_0 hf).elim
    | succ n ih =>
      intro v1_1 v2_2 wmLef_3 ov1_1 ov2_2 owmLef_3 H locs ls hf hP hS hl hE
      replace hf := lp_s hf
      dsimp only [fX9_findLeft_L4] at hf
      refine lv_iload_n hx hb dX9_findLeft_4 rfl (lv_at hl 2 rfl) ?_
      refine lv_aload_n hx hb dX9_findLeft_5 rfl (lv_at hl 0 rfl) ?_
      refine va_get (ci := 8) (v := .int mVil) (C := RX9) (T := TX9) (N := 22) hx hb hts hiX9 hown hK hP 0 rfl rfl 0 (by decide) (hts _ (List.mem_of_getElem? (i := 1) rfl)) (fun _ h9 => h9) rfl dX9_findLeft_6 ?_
      refine lv_icmp_ge (tgt := 72) hx hb dX9_findLeft_9 (by decide) (fun hc => ?_) (fun hc => ?_)
      · replace hf := (if_pos hc).symm.trans hf
        cases hf
        exact hE _ _ _ hP hS (lv_sub hl [0, 1, 2] rfl)
      · replace hf := (if_neg hc).symm.trans hf
        refine lv_aload_n hx hb dX9_findLeft_12 rfl (lv_at hl 0 rfl) ?_
        refine lv_iload_n hx hb dX9_findLeft_13 rfl (lv_at hl 2 rfl) ?_
        obtain ⟨r_4, hq, hf⟩ := ob hf
        try dsimp only at hf
        refine rcV 0 8 (As := [.int v2_2]) (rest := []) ⟨hx, hb, hml, hown, hts⟩ (ctX9_nearestOf l D cI cB cZ bd mVil mBad mFul mLen mSig mWay wmLef_3 mSpo mBeg mTok mVal mWor mNum mThe mRts mLns mOpn mTxt mAns mWys mSiz mNbs v2_2 r_4 hq) (cwV 1 hts gX9_findLeft_X9_nearestOf rfl rfl rfl (by decide +kernel) ⟨Nat.le_of_ble_eq_true rfl, Nat.le_of_ble_eq_true rfl⟩) hK hP rfl rfl rfl hl.1 rfl (Nat.le_of_ble_eq_true rfl) dX9_findLeft_14 ⟨Nat.zero_le _, Nat.zero_le _⟩ ?_
        refine lv_istore_n (lv' := [(3, .int r_4), (0, .ref (bd 0)), (1, .int v1_1), (2, .int v2_2)]) hx hb dX9_findLeft_17 rfl hl (by decide) rfl (fun ls hl => ?_)
        refine lv_iload_n hx hb dX9_findLeft_18 rfl (lv_at hl 0 rfl) ?_
        refine lv_iconst (v := (-1 : Int32)) hx hb dX9_findLeft_19 (by decide) ?_
        have hJ33 : ∀ (t_5 : Int32) (H : Heap) (locs : List Loc) (ls : Array Slot), fX9_findLeft_J33 v1_1 v2_2 wmLef_3 (lp (fX9_findLeft_L4 mVil mRts mLns mOpn) n) t_5 = some (ov1_1, ov2_2, owmLef_3) → va_P D vwCl (wM cI cB cZ bd mVil mBad mFul mLen mSig mWay wmLef_3 mSpo mBeg mTok mVal mWor mNum mThe mRts mLns mOpn mTxt mAns mWys mSiz mNbs) H → va_S A s.heap H locs → lv_has ls 5 [(0, .ref (bd 0)), (1, .int v1_1), (2, .int v2_2), (3, .int r_4)] → W p l e (rmN 2 48) s m args below meth c H locs 0 0 (MQ below (QI D (wM cI cB cZ bd mVil mBad mFul mLen mSig mWay zmLef mSpo mBeg mTok mVal mWor mNum mThe mRts mLns mOpn mTxt mAns mWys mSiz mNbs) A rv) args s 0 0 A) (F0 m 33 ls [.int t_5]) := by
          intro t_5 H locs ls hf hP hS hl
          unfold fX9_findLeft_J33 at hf
          refine lv_istore (lv' := [(4, .int t_5), (0, .ref (bd 0)), (1, .int v1_1), (2, .int v2_2), (3, .int r_4)]) hx hb dX9_findLeft_33 hl (by decide) rfl (fun ls hl => ?_)
          refine lv_aload_n hx hb dX9_findLeft_35 rfl (lv_at hl 1 rfl) ?_
          refine lv_iload hx hb dX9_findLeft_36 (lv_at hl 0 rfl) ?_
          refine lv_iload_n hx hb dX9_findLeft_38 rfl (lv_at hl 2 rfl) ?_
          have hJ50 : ∀ (t_6 : Int32) (H : Heap) (locs : List Loc) (ls : Array Slot), fX9_findLeft_J50 v1_1 v2_2 (lp (fX9_findLeft_L4 mVil mRts mLns mOpn) n) t_5 t_6 = some (ov1_1, ov2_2, owmLef_3) → va_P D vwCl (wM cI cB cZ bd mVil mBad mFul mLen mSig mWay wmLef_3 mSpo mBeg mTok mVal mWor mNum mThe mRts mLns mOpn mTxt mAns mWys mSiz mNbs) H → va_S A s.heap H locs → lv_has ls 5 [(0, .ref (bd 0)), (1, .int v1_1), (2, .int v2_2), (3, .int r_4), (4, .int t_5)] → W p l e (rmN 2 48) s m args below meth c H locs 0 0 (MQ below (QI D (wM cI cB cZ bd mVil mBad mFul mLen mSig mWay zmLef mSpo mBeg mTok mVal mWor mNum mThe mRts mLns mOpn mTxt mAns mWys mSiz mNbs) A rv) args s 0 0 A) (F0 m 50 ls [.int t_6, .ref (bd 0)]) := by
            intro t_6 H locs ls hf hP hS hl
            unfold fX9_findLeft_J50 at hf
            refine va_put (ci := 8) (v := .int t_6) (ty := .int) (C := RX9) (T := TX9) (N := 22) hx hb hts hiX9 tyX9 tyX9_ok nmX9 hown hK hP (wM_D hAD) hS 0 rfl rfl 13 (by decide) (hts _ (List.mem_of_getElem? (i := 2) rfl)) (fun _ h9 => h9) rfl (tyX9_ok 13 (by decide)) rfl rfl (Nat.le_of_ble_eq_true rfl) dX9_findLeft_50 (fun H locs hP _ hS => ?_)
            have hP : va_P D vwCl (wM cI cB cZ bd mVil mBad mFul mLen mSig mWay t_6 mSpo mBeg mTok mVal mWor mNum mThe mRts mLns mOpn mTxt mAns mWys mSiz mNbs) H := hP
            refine lv_iload hx hb dX9_findLeft_53 (lv_at hl 4 rfl) ?_
            refine lv_iload_n hx hb dX9_findLeft_55 rfl (lv_at hl 1 rfl) ?_
            have hJ65 : ∀ (t_7 : Int32) (H : Heap) (locs : List Loc) (ls : Array Slot), fX9_findLeft_J65 v2_2 (lp (fX9_findLeft_L4 mVil mRts mLns mOpn) n) t_6 t_7 = some (ov1_1, ov2_2, owmLef_3) → va_P D vwCl (wM cI cB cZ bd mVil mBad mFul mLen mSig mWay t_6 mSpo mBeg mTok mVal mWor mNum mThe mRts mLns mOpn mTxt mAns mWys mSiz mNbs) H → va_S A s.heap H locs → lv_has ls 5 [(0, .ref (bd 0)), (1, .int v1_1), (2, .int v2_2), (3, .int r_4), (4, .int t_5)] → W p l e (rmN 2 48) s m args below meth c H locs 0 0 (MQ below (QI D (wM cI cB cZ bd mVil mBad mFul mLen mSig mWay zmLef mSpo mBeg mTok mVal mWor mNum mThe mRts mLns mOpn mTxt mAns mWys mSiz mNbs) A rv) args s 0 0 A) (F0 m 65 ls [.int t_7]) := by
              intro t_7 H locs ls hf hP hS hl
              unfold fX9_findLeft_J65 at hf
              refine lv_istore_n (lv' := [(1, .int t_7), (0, .ref (bd 0)), (2, .int v2_2), (3, .int r_4), (4, .int t_5)]) hx hb dX9_findLeft_65 rfl hl (by decide) rfl (fun ls hl => ?_)
              refine lv_iinc (v := (v2_2 + (1 : Int32))) (lv' := [(2, .int (v2_2 + (1 : Int32))), (1, .int t_7), (0, .ref (bd 0)), (3, .int r_4), (4, .int t_5)]) hx hb dX9_findLeft_66 hl (k := 2) rfl rfl (by decide) rfl (fun ls hl => ?_)
              refine lv_goto (tgt := 4) hx hb dX9_findLeft_69 (by decide) ?_
              exact ih _ _ _ _ _ _ _ _ _ hf hP hS (lv_sub hl [2, 1, 0] rfl) hE
            refine lv_icmp_le (tgt := 64) hx hb dX9_findLeft_56 (by decide) (fun hc => ?_) (fun hc => ?_)
            · replace hf := (if_pos hc).symm.trans hf
              refine lv_iload_n hx hb dX9_findLeft_64 rfl (lv_at hl 1 rfl) ?_
              exact hJ65 _ _ _ _ hf hP hS (lv_sub hl [0, 1, 2, 3, 4] rfl)
            · replace hf := (if_neg hc).symm.trans hf
              refine lv_iload hx hb dX9_findLeft_59 (lv_at hl 4 rfl) ?_
              refine lv_goto (tgt := 65) hx hb dX9_findLeft_61 (by decide) ?_
              exact hJ65 _ _ _ _ hf hP hS (lv_sub hl [0, 1, 2, 3, 4] rfl)
          refine lv_icmp_le (tgt := 46) hx hb dX9_findLeft_39 (by decide) (fun hc => ?_) (fun hc => ?_)
          · replace hf := (if_pos hc).symm.trans hf
            refine lv_aload_n hx hb dX9_findLeft_46 rfl (lv_at hl 1 rfl) ?_
            refine va_get (ci := 8) (v := .int wmLef_3) (C := RX9) (T := TX9) (N := 22) hx hb hts hiX9 hown hK hP 0 rfl rfl 13 (by decide) (hts _ (List.mem_of_getElem? (i := 2) rfl)) (fun _ h9 => h9) rfl dX9_findLeft_47 ?_
            exact hJ50 _ _ _ _ hf hP hS (lv_sub hl [1, 2, 3, 4, 0] rfl)
          · replace hf := (if_neg hc).symm.trans hf
            refine lv_iload_n hx hb dX9_findLeft_42 rfl (lv_at hl 3 rfl) ?_
            refine lv_goto (tgt := 50) hx hb dX9_findLeft_43 (by decide) ?_
            exact hJ50 _ _ _ _ hf hP hS (lv_sub hl [1, 2, 3, 4, 0] rfl)
        refine lv_icmp_ne (tgt := 27) hx hb dX9_findLeft_20 (by decide) (fun hc => ?_) (fun hc => ?_)
        · replace hf := (if_neg hc).symm.trans hf
          refine lv_aload_n hx hb dX9_findLeft_27 rfl (lv_at hl 1 rfl) ?_
          refine lv_iload_n hx hb dX9_findLeft_28 rfl (lv_at hl 0 rfl) ?_
          refine lv_iload_n hx hb dX9_findLeft_29 rfl (lv_at hl 3 rfl) ?_
          obtain ⟨r_8, hq, hf⟩ := ob hf
          try dsimp only at hf
          refine rcV 0 8 (As := [.int r_4, .int v2_2]) (rest := []) ⟨hx, hb, hml, hown, hts⟩ (ctX9_farFrom l D cI cB cZ bd mVil mBad mFul mLen mSig mWay wmLef_3 mSpo mBeg mTok mVal mWor mNum mThe mRts mLns mOpn mTxt mAns mWys mSiz mNbs r_4 v2_2 r_8 hq) (cwV 2 hts gX9_findLeft_X9_farFrom rfl rfl rfl (by decide +kernel) ⟨Nat.le_of_ble_eq_true rfl, Nat.le_of_ble_eq_true rfl⟩) hK hP rfl rfl rfl hl.1 rfl (Nat.le_of_ble_eq_true rfl) dX9_findLeft_30 ⟨Nat.zero_le _, Nat.zero_le _⟩ ?_
          exact hJ33 _ _ _ _ hf hP hS (lv_sub hl [1, 2, 3, 0] rfl)
        · replace hf := (if_pos hc).symm.trans hf
          refine lv_iconst (v := (-1 : Int32)) hx hb dX9_findLeft_23 (by decide) ?_
          refine lv_goto (tgt := 33) hx hb dX9_findLeft_24 (by decide) ?_
          exact hJ33 _ _ _ _ hf hP hS (lv_sub hl [1, 2, 3, 0] rfl)
  obtain ⟨⟨ov1_1, ov2_2, owmLef_3⟩, hq, hf⟩ := ob hf
  try dsimp only at hf
  refine hL4 FU _ _ _ ov1_1 ov2_2 owmLef_3 _ _ ls hq hP hS (lv_sub hl [2, 1, 0] rfl) (fun H locs ls hP hS hl => ?_)
  refine lv_iload_n hx hb dX9_findLeft_72 rfl (lv_at hl 1 rfl) ?_
  obtain ⟨e0, hz1⟩ := Prod.mk.inj (Option.some.inj hf)
  subst e0
  subst hz1
  exact rm_i hx hb hr hlk hP hS dX9_findLeft_73

def fX9_left_J29 (mBad : Int32) (r_2 : Int32) (qmLef_3 : Int32) : Option (Int32 × Int32 × Int32) :=
  (some (r_2, mBad, qmLef_3))
def fX9_left (mVil : Int32) (mBad : Int32) (mLef : Int32) (mRts : Nat → Int32) (mLns : Nat → Int32) (mOpn : Nat → Int32) (p0 : Int32) : Option (Int32 × Int32 × Int32) :=
  ((fX9_in (p0).toInt64 (0 : Int64) (1 : Int64)).bind fun r_1 => (if r_1 = 0 then ((fX9_refuse mBad).bind fun (r_4, qmBad_5) => (some (r_4, qmBad_5, mLef))) else ((fX9_findLeft mVil mLef mRts mLns mOpn).bind fun (r_2, qmLef_3) => (if p0 = 0 then (fX9_left_J29 mBad r_2 qmLef_3) else (if r_2 = (-1 : Int32) then (fX9_left_J29 mBad r_2 qmLef_3) else (some (qmLef_3, mBad, qmLef_3)))))))
set_option maxRecDepth 100000 in
set_option maxHeartbeats 4000000 in
theorem ctX9_left (l : Launch) (D : va_G) (cI cB cZ : ClassId) (bd : Nat → Nat) (A : Nat → Prop) (hAD : AD A bd 9) (mVil mBad mFul mLen mSig mWay mLef mSpo mBeg mTok mVal mWor mNum mThe : Int32) (mRts mLns mOpn mTxt mAns mWys mSiz mNbs : Nat → Int32) (p0 : Int32) (rv : Int32) (zmBad : Int32) (zmLef : Int32) (hf : fX9_left mVil mBad mLef mRts mLns mOpn p0 = some (rv, zmBad, zmLef)) : Met l yX9_left wsX9_left (rmN 3 72) (PR D (tyL cI cB cZ) (wM cI cB cZ bd mVil mBad mFul mLen mSig mWay mLef mSpo mBeg mTok mVal mWor mNum mThe mRts mLns mOpn mTxt mAns mWys mSiz mNbs) [.ref (bd 0), .int p0]) (QI D (wM cI cB cZ bd mVil zmBad mFul mLen mSig mWay zmLef mSpo mBeg mTok mVal mWor mNum mThe mRts mLns mOpn mTxt mAns mWys mSiz mNbs) A rv) 0 0 A := by
  refine mk_met cX9_left 3 (some .int) (by decide) rfl (Nat.le_of_ble_eq_true rfl) ?_
  intro p e s m args below meth c ls hx hb hr hlk hml hown hts hPK hl
  obtain ⟨hP, hK⟩ := hPK
  replace hl : lv_has ls 3 [(0, .ref (bd 0)), (1, .int p0)] := hl
  replace hown : s.vm.findClass RX9 = some m.cls := hown
  have hiX9 : ∀ w ∈ wsX90, w ∈ wsX9_left := fun w h => List.mem_cons_of_mem _ (List.mem_append_right _ h)
  have hS : va_S A s.heap s.heap [] := va_S.rf
  unfold fX9_left at hf
  refine lv_iload_n hx hb dX9_left_0 rfl (lv_at hl 1 rfl) ?_
  refine lv_i2l (v := (p0).toInt64) hx hb dX9_left_1 rfl ?_
  refine lv_lconst (v := (0 : Int64)) hx hb dX9_left_2 (by decide) ?_
  refine lv_lconst (v := (1 : Int64)) hx hb dX9_left_3 (by decide) ?_
  obtain ⟨r_1, hq, hf⟩ := ob hf
  try dsimp only at hf
  refine rcS (As := [.long (p0).toInt64, .long (0 : Int64), .long (1 : Int64)]) (rest := []) ⟨hx, hb, hml, hown, hts⟩ (ctX9_in l (p0).toInt64 (0 : Int64) (1 : Int64) r_1 hq) (va_cwS 3 hts gX9_left_X9_in rfl rfl rfl (by decide +kernel) ⟨Nat.le_of_ble_eq_true rfl, Nat.le_of_ble_eq_true rfl⟩) rfl hl.1 rfl (Nat.le_of_ble_eq_true rfl) dX9_left_4 ⟨Nat.zero_le _, Nat.zero_le _⟩ ?_
  refine lv_if_ne (tgt := 15) hx hb dX9_left_7 (by decide) (fun hc => ?_) (fun hc => ?_)
  · replace hf := (if_neg hc).symm.trans hf
    refine lv_aload_n hx hb dX9_left_15 rfl (lv_at hl 0 rfl) ?_
    obtain ⟨⟨r_2, qmLef_3⟩, hq, hf⟩ := ob hf
    try dsimp only at hf
    refine mcVi 0 8 (As := []) (rest := []) ⟨hx, hb, hml, hown, hts⟩ (ctX9_findLeft l D cI cB cZ bd A hAD mVil mBad mFul mLen mSig mWay mLef mSpo mBeg mTok mVal mWor mNum mThe mRts mLns mOpn mTxt mAns mWys mSiz mNbs  r_2 qmLef_3 hq) (cwV 0 hts gX9_left_X9_findLeft rfl rfl rfl (by decide +kernel) ⟨Nat.le_of_ble_eq_true rfl, Nat.le_of_ble_eq_true rfl⟩) hK hP hS rfl rfl rfl hl.1 rfl (Nat.le_of_ble_eq_true rfl) dX9_left_16 ⟨Nat.zero_le _, Nat.zero_le _⟩ (fun H locs hP hS => ?_)
    refine lv_istore_n (lv' := [(2, .int r_2), (0, .ref (bd 0)), (1, .int p0)]) hx hb dX9_left_19 rfl hl (by decide) rfl (fun ls hl => ?_)
    refine lv_iload_n hx hb dX9_left_20 rfl (lv_at hl 2 rfl) ?_
    have hJ29 : ∀  (H : Heap) (locs : List Loc) (ls : Array Slot), fX9_left_J29 mBad r_2 qmLef_3 = some (rv, zmBad, zmLef) → va_P D vwCl (wM cI cB cZ bd mVil mBad mFul mLen mSig mWay qmLef_3 mSpo mBeg mTok mVal mWor mNum mThe mRts mLns mOpn mTxt mAns mWys mSiz mNbs) H → va_S A s.heap H locs → lv_has ls 3 [(0, .ref (bd 0)), (1, .int p0), (2, .int r_2)] → W p l e (rmN 3 72) s m args below meth c H locs 0 0 (MQ below (QI D (wM cI cB cZ bd mVil zmBad mFul mLen mSig mWay zmLef mSpo mBeg mTok mVal mWor mNum mThe mRts mLns mOpn mTxt mAns mWys mSiz mNbs) A rv) args s 0 0 A) (F0 m 29 ls []) := by
      intro  H locs ls hf hP hS hl
      unfold fX9_left_J29 at hf
      refine lv_iload_n hx hb dX9_left_29 rfl (lv_at hl 2 rfl) ?_
      refine lv_goto (tgt := 37) hx hb dX9_left_30 (by decide) ?_
      obtain ⟨e0, hz1⟩ := Prod.mk.inj (Option.some.inj hf)
      obtain ⟨e1, hz2⟩ := Prod.mk.inj hz1
      subst e0
      subst e1
      subst hz2
      exact rm_i hx hb hr hlk hP hS dX9_left_37
    refine lv_if_eq (tgt := 29) hx hb dX9_left_21 (by decide) (fun hc => ?_) (fun hc => ?_)
    · replace hf := (if_pos hc).symm.trans hf
      exact hJ29  _ _ _ hf hP hS (lv_sub hl [1, 2, 0] rfl)
    · replace hf := (if_neg hc).symm.trans hf
      refine lv_iload_n hx hb dX9_left_24 rfl (lv_at hl 0 rfl) ?_
      refine lv_iconst (v := (-1 : Int32)) hx hb dX9_left_25 (by decide) ?_
      refine lv_icmp_ne (tgt := 33) hx hb dX9_left_26 (by decide) (fun hc => ?_) (fun hc => ?_)
      · replace hf := (if_neg hc).symm.trans hf
        refine lv_aload_n hx hb dX9_left_33 rfl (lv_at hl 1 rfl) ?_
        refine va_get (ci := 8) (v := .int qmLef_3) (C := RX9) (T := TX9) (N := 22) hx hb hts hiX9 hown hK hP 0 rfl rfl 13 (by decide) (hts _ (List.mem_of_getElem? (i := 1) rfl)) (fun _ h9 => h9) rfl dX9_left_34 ?_
        obtain ⟨e0, hz1⟩ := Prod.mk.inj (Option.some.inj hf)
        obtain ⟨e1, hz2⟩ := Prod.mk.inj hz1
        subst e0
        subst e1
        subst hz2
        exact rm_i hx hb hr hlk hP hS dX9_left_37
      · replace hf := (if_pos hc).symm.trans hf
        exact hJ29  _ _ _ hf hP hS (lv_sub hl [1, 2, 0] rfl)
  · replace hf := (if_pos hc).symm.trans hf
    refine lv_aload_n hx hb dX9_left_10 rfl (lv_at hl 0 rfl) ?_
    obtain ⟨⟨r_4, qmBad_5⟩, hq, hf⟩ := ob hf
    try dsimp only at hf
    refine mcVi 0 8 (As := []) (rest := []) ⟨hx, hb, hml, hown, hts⟩ (ctX9_refuse l D cI cB cZ bd A hAD mVil mBad mFul mLen mSig mWay mLef mSpo mBeg mTok mVal mWor mNum mThe mRts mLns mOpn mTxt mAns mWys mSiz mNbs  r_4 qmBad_5 hq) (cwV 0 hts gX9_left_X9_refuse rfl rfl rfl (by decide +kernel) ⟨Nat.le_of_ble_eq_true rfl, Nat.le_of_ble_eq_true rfl⟩) hK hP hS rfl rfl rfl hl.1 rfl (Nat.le_of_ble_eq_true rfl) dX9_left_11 ⟨Nat.zero_le _, Nat.zero_le _⟩ (fun H locs hP hS => ?_)
    obtain ⟨e0, hz1⟩ := Prod.mk.inj (Option.some.inj hf)
    obtain ⟨e1, hz2⟩ := Prod.mk.inj hz1
    subst e0
    subst e1
    subst hz2
    exact rm_i hx hb hr hlk hP hS dX9_left_14

def fX9_more_J99 (v4_4 : Int32) (kk : (Int32 × Int32 × Int32 × Int32 × (Nat → Int32)) → Option (Int32 × Int32 × Int32 × Int32 × (Nat → Int32))) (v2_7 : Int32) (v3_8 : Int32) (wmLef_9 : Int32) (wmOpn_10 : Nat → Int32) : Option (Int32 × Int32 × Int32 × Int32 × (Nat → Int32)) :=
  (kk (v2_7, v3_8, (v4_4 + (1 : Int32)), wmLef_9, wmOpn_10))
def fX9_more_J98 (v4_4 : Int32) (wmOpn_6 : Nat → Int32) (kk : (Int32 × Int32 × Int32 × Int32 × (Nat → Int32)) → Option (Int32 × Int32 × Int32 × Int32 × (Nat → Int32))) (qmLef_12 : Int32) (t_13 : Int32) (t_14 : Int32) : Option (Int32 × Int32 × Int32 × Int32 × (Nat → Int32)) :=
  (fX9_more_J99 v4_4 kk t_13 t_14 qmLef_12 (upd (upd wmOpn_6 (v4_4).toNatClampNeg (vp_nar .boolean (1 : Int32))) (v4_4).toNatClampNeg (vp_nar .boolean (0 : Int32))))
def fX9_more_J92 (v4_4 : Int32) (wmOpn_6 : Nat → Int32) (kk : (Int32 × Int32 × Int32 × Int32 × (Nat → Int32)) → Option (Int32 × Int32 × Int32 × Int32 × (Nat → Int32))) (r_11 : Int32) (qmLef_12 : Int32) (t_13 : Int32) : Option (Int32 × Int32 × Int32 × Int32 × (Nat → Int32)) :=
  (fX9_more_J98 v4_4 wmOpn_6 kk qmLef_12 t_13 r_11)
def fX9_more_J80 (v3_3 : Int32) (v4_4 : Int32) (wmOpn_6 : Nat → Int32) (kk : (Int32 × Int32 × Int32 × Int32 × (Nat → Int32)) → Option (Int32 × Int32 × Int32 × Int32 × (Nat → Int32))) (r_11 : Int32) (qmLef_12 : Int32) (t_13 : Int32) : Option (Int32 × Int32 × Int32 × Int32 × (Nat → Int32)) :=
  (if v3_3 = (-1 : Int32) then (fX9_more_J92 v4_4 wmOpn_6 kk r_11 qmLef_12 t_13) else (if v3_3 ≤ r_11 then (fX9_more_J98 v4_4 wmOpn_6 kk qmLef_12 t_13 v3_3) else (fX9_more_J92 v4_4 wmOpn_6 kk r_11 qmLef_12 t_13)))
def fX9_more_J74 (v3_3 : Int32) (v4_4 : Int32) (wmOpn_6 : Nat → Int32) (kk : (Int32 × Int32 × Int32 × Int32 × (Nat → Int32)) → Option (Int32 × Int32 × Int32 × Int32 × (Nat → Int32))) (r_11 : Int32) (qmLef_12 : Int32) : Option (Int32 × Int32 × Int32 × Int32 × (Nat → Int32)) :=
  (fX9_more_J80 v3_3 v4_4 wmOpn_6 kk r_11 qmLef_12 v4_4)
def fX9_more_L22 (mVil : Int32) (mRts : Nat → Int32) (mLns : Nat → Int32) (kk : (Int32 × Int32 × Int32 × Int32 × (Nat → Int32)) → Option (Int32 × Int32 × Int32 × Int32 × (Nat → Int32))) (ww : Int32 × Int32 × Int32 × Int32 × (Nat → Int32)) : Option (Int32 × Int32 × Int32 × Int32 × (Nat → Int32)) :=
  match ww with
  | (v2_2, v3_3, v4_4, wmLef_5, wmOpn_6) => (if mVil ≤ v4_4 then (some (v2_2, v3_3, v4_4, wmLef_5, wmOpn_6)) else (if gI v4_4 60 then (if (wmOpn_6 (v4_4).toNatClampNeg) = 0 then (if gI v4_4 60 then ((fX9_findLeft mVil wmLef_5 mRts mLns (upd wmOpn_6 (v4_4).toNatClampNeg (vp_nar .boolean (1 : Int32)))).bind fun (r_11, qmLef_12) => (if gI v4_4 60 then (if v3_3 = (-1 : Int32) then (fX9_more_J74 v3_3 v4_4 wmOpn_6 kk r_11 qmLef_12) else (if v3_3 ≤ r_11 then (fX9_more_J80 v3_3 v4_4 wmOpn_6 kk r_11 qmLef_12 v2_2) else (fX9_more_J74 v3_3 v4_4 wmOpn_6 kk r_11 qmLef_12))) else none)) else none) else (fX9_more_J99 v4_4 kk v2_2 v3_3 wmLef_5 wmOpn_6)) else none))
def fX9_more (mVil : Int32) (mBad : Int32) (mLef : Int32) (mRts : Nat → Int32) (mLns : Nat → Int32) (mOpn : Nat → Int32) (p0 : Int32) : Option (Int32 × Int32 × Int32 × (Nat → Int32)) :=
  ((fX9_in (p0).toInt64 (0 : Int64) (1 : Int64)).bind fun r_1 => (if r_1 = 0 then ((fX9_refuse mBad).bind fun (r_15, qmBad_16) => (some (r_15, qmBad_16, mLef, mOpn))) else ((lp (fX9_more_L22 mVil mRts mLns) FU ((-1 : Int32), (-1 : Int32), (0 : Int32), mLef, mOpn)).bind fun (ov2_2, ov3_3, ov4_4, owmLef_5, owmOpn_6) => (if p0 = 0 then (some (ov2_2, mBad, owmLef_5, owmOpn_6)) else (some (ov3_3, mBad, owmLef_5, owmOpn_6))))))
set_option maxRecDepth 100000 in
set_option maxHeartbeats 4000000 in
theorem ctX9_more (l : Launch) (D : va_G) (cI cB cZ : ClassId) (bd : Nat → Nat) (A : Nat → Prop) (hAD : AD A bd 9) (mVil mBad mFul mLen mSig mWay mLef mSpo mBeg mTok mVal mWor mNum mThe : Int32) (mRts mLns mOpn mTxt mAns mWys mSiz mNbs : Nat → Int32) (p0 : Int32) (rv : Int32) (zmBad : Int32) (zmLef : Int32) (zmOpn : Nat → Int32) (hf : fX9_more mVil mBad mLef mRts mLns mOpn p0 = some (rv, zmBad, zmLef, zmOpn)) : Met l yX9_more wsX9_more (rmN 3 72) (PR D (tyL cI cB cZ) (wM cI cB cZ bd mVil mBad mFul mLen mSig mWay mLef mSpo mBeg mTok mVal mWor mNum mThe mRts mLns mOpn mTxt mAns mWys mSiz mNbs) [.ref (bd 0), .int p0]) (QI D (wM cI cB cZ bd mVil zmBad mFul mLen mSig mWay zmLef mSpo mBeg mTok mVal mWor mNum mThe mRts mLns zmOpn mTxt mAns mWys mSiz mNbs) A rv) 0 0 A := by
  refine mk_met cX9_more 6 (some .int) (by decide) rfl (Nat.le_of_ble_eq_true rfl) ?_
  intro p e s m args below meth c ls hx hb hr hlk hml hown hts hPK hl
  obtain ⟨hP, hK⟩ := hPK
  replace hl : lv_has ls 6 [(0, .ref (bd 0)), (1, .int p0)] := hl
  replace hown : s.vm.findClass RX9 = some m.cls := hown
  have hiX9 : ∀ w ∈ wsX90, w ∈ wsX9_more := fun w h => List.mem_cons_of_mem _ (List.mem_append_right _ h)
  have hS : va_S A s.heap s.heap [] := va_S.rf
  unfold fX9_more at hf
  refine lv_iload_n hx hb dX9_more_0 rfl (lv_at hl 1 rfl) ?_
  refine lv_i2l (v := (p0).toInt64) hx hb dX9_more_1 rfl ?_
  refine lv_lconst (v := (0 : Int64)) hx hb dX9_more_2 (by decide) ?_
  refine lv_lconst (v := (1 : Int64)) hx hb dX9_more_3 (by decide) ?_
  obtain ⟨r_1, hq, hf⟩ := ob hf
  try dsimp only at hf
  refine rcS (As := [.long (p0).toInt64, .long (0 : Int64), .long (1 : Int64)]) (rest := []) ⟨hx, hb, hml, hown, hts⟩ (ctX9_in l (p0).toInt64 (0 : Int64) (1 : Int64) r_1 hq) (va_cwS 3 hts gX9_more_X9_in rfl rfl rfl (by decide +kernel) ⟨Nat.le_of_ble_eq_true rfl, Nat.le_of_ble_eq_true rfl⟩) rfl hl.1 rfl (Nat.le_of_ble_eq_true rfl) dX9_more_4 ⟨Nat.zero_le _, Nat.zero_le _⟩ ?_
  refine lv_if_ne (tgt := 15) hx hb dX9_more_7 (by decide) (fun hc => ?_) (fun hc => ?_)
  · replace hf := (if_neg hc).symm.trans hf
    refine lv_iconst (v := (-1 : Int32)) hx hb dX9_more_15 (by decide) ?_
    refine lv_istore_n (lv' := [(2, .int (-1 : Int32)), (0, .ref (bd 0)), (1, .int p0)]) hx hb dX9_more_16 rfl hl (by decide) rfl (fun ls hl => ?_)
    refine lv_iconst (v := (-1 : Int32)) hx hb dX9_more_17 (by decide) ?_
    refine lv_istore_n (lv' := [(3, .int (-1 : Int32)), (2, .int (-1 : Int32)), (0, .ref (bd 0)), (1, .int p0)]) hx hb dX9_more_18 rfl hl (by decide) rfl (fun ls hl => ?_)
    refine lv_iconst (v := (0 : Int32)) hx hb dX9_more_19 (by decide) ?_
    refine lv_istore (lv' := [(4, .int (0 : Int32)), (3, .int (-1 : Int32)), (2, .int (-1 : Int32)), (0, .ref (bd 0)), (1, .int p0)]) hx hb dX9_more_20 hl (by decide) rfl (fun ls hl => ?_)
    have hL22 : ∀ (n : Nat) (v2_2 : Int32) (v3_3 : Int32) (v4_4 : Int32) (wmLef_5 : Int32) (wmOpn_6 : Nat → Int32) (ov2_2 : Int32) (ov3_3 : Int32) (ov4_4 : Int32) (owmLef_5 : Int32) (owmOpn_6 : Nat → Int32) (H : Heap) (locs : List Loc) (ls : Array Slot), lp (fX9_more_L22 mVil mRts mLns) n (v2_2, v3_3, v4_4, wmLef_5, wmOpn_6) = some (ov2_2, ov3_3, ov4_4, owmLef_5, owmOpn_6) → va_P D vwCl (wM cI cB cZ bd mVil mBad mFul mLen mSig mWay wmLef_5 mSpo mBeg mTok mVal mWor mNum mThe mRts mLns wmOpn_6 mTxt mAns mWys mSiz mNbs) H → va_S A s.heap H locs → lv_has ls 6 [(0, .ref (bd 0)), (1, .int p0), (2, .int v2_2), (3, .int v3_3), (4, .int v4_4)] → (∀ (H : Heap) (locs : List Loc) (ls : Array Slot), va_P D vwCl (wM cI cB cZ bd mVil mBad mFul mLen mSig mWay owmLef_5 mSpo mBeg mTok mVal mWor mNum mThe mRts mLns owmOpn_6 mTxt mAns mWys mSiz mNbs) H → va_S A s.heap H locs → lv_has ls 6 [(0, .ref (bd 0)), (1, .int p0), (2, .int ov2_2), (3, .int ov3_3), (4, .int ov4_4)] → W p l e (rmN 3 72) s m args below meth c H locs 0 0 (MQ below (QI D (wM cI cB cZ bd mVil zmBad mFul mLen mSig mWay zmLef mSpo mBeg mTok mVal mWor mNum mThe mRts mLns zmOpn mTxt mAns mWys mSiz mNbs) A rv) args s 0 0 A) (F0 m 105 ls [])) → W p l e (rmN 3 72) s m args below meth c H locs 0 0 (MQ below (QI D (wM cI cB cZ bd mVil zmBad mFul mLen mSig mWay zmLef mSpo mBeg mTok mVal mWor mNum mThe mRts mLns zmOpn mTxt mAns mWys mSiz mNbs) A rv) args s 0 0 A) (F0 m 22 ls []) := by
      intro n
      induction n with
      | zero => intro v2_2 v3_3 v4_4 wmLef_5 wmOpn_6 ov2_2 ov3_3 ov4_4 owmLef_5 owmOpn_6 H locs ls hf; exact (lp_0 hf).elim
      | succ n ih =>
        intro v2_2 v3_3 v4_4 wmLef_5 wmOpn_6 ov2_2 ov3_3 ov4_4 owmLef_5 owmOpn_6 H locs ls hf hP hS hl hE
        replace hf := lp_s hf
        dsimp only [fX9_more_L22] at hf
        refine lv_iload hx hb dX9_more_22 (lv_at hl 4 rfl) ?_
        refine lv_aload_n hx hb dX9_more_24 rfl (lv_at hl 0 rfl) ?_
        refine va_get (ci := 8) (v := .int mVil) (C := RX9) (T := TX9) (N := 22) hx hb hts hiX9 hown hK hP 0 rfl rfl 0 (by decide) (hts _ (List.mem_of_getElem? (i := 1) rfl)) (fun _ h9 => h9) rfl dX9_more_25 ?_
        refine lv_icmp_ge (tgt := 105) hx hb dX9_more_28 (by decide) (fun hc => ?_) (fun hc => ?_)
        · replace hf := (if_pos hc).symm.trans hf
          cases hf
          exact hE _ _ _ hP hS (lv_sub hl [0, 1, 2, 3, 4] rfl)
        · replace hf := (if_neg hc).symm.trans hf
          refine lv_aload_n hx hb dX9_more_31 rfl (lv_at hl 0 rfl) ?_
          refine va_get (ci := 8) (v := .ref (bd 3)) (C := RX9) (T := TX9) (N := 22) hx hb hts hiX9 hown hK hP 0 rfl rfl 3 (by decide) (hts _ (List.mem_of_getElem? (i := 2) rfl)) (fun _ h9 => h9) rfl dX9_more_32 ?_
          refine lv_iload hx hb dX9_more_35 (lv_at hl 4 rfl) ?_
          obtain ⟨hg, hf⟩ := og hf
          refine va_zald hx hb hK hP 3 2 rfl rfl (gI_in hg) dX9_more_37 ?_
          have hJ99 : ∀ (v2_7 : Int32) (v3_8 : Int32) (wmLef_9 : Int32) (wmOpn_10 : Nat → Int32) (H : Heap) (locs : List Loc) (ls : Array Slot), fX9_more_J99 v4_4 (lp (fX9_more_L22 mVil mRts mLns) n) v2_7 v3_8 wmLef_9 wmOpn_10 = some (ov2_2, ov3_3, ov4_4, owmLef_5, owmOpn_6) → va_P D vwCl (wM cI cB cZ bd mVil mBad mFul mLen mSig mWay wmLef_9 mSpo mBeg mTok mVal mWor mNum mThe mRts mLns wmOpn_10 mTxt mAns mWys mSiz mNbs) H → va_S A s.heap H locs → lv_has ls 6 [(0, .ref (bd 0)), (1, .int p0), (2, .int v2_7), (3, .int v3_8), (4, .int v4_4)] → W p l e (rmN 3 72) s m args below meth c H locs 0 0 (MQ below (QI D (wM cI cB cZ bd mVil zmBad mFul mLen mSig mWay zmLef mSpo mBeg mTok mVal mWor mNum mThe mRts mLns zmOpn mTxt mAns mWys mSiz mNbs) A rv) args s 0 0 A) (F0 m 99 ls []) := by
            intro v2_7 v3_8 wmLef_9 wmOpn_10 H locs ls hf hP hS hl
            unfold fX9_more_J99 at hf
            refine lv_iinc (v := (v4_4 + (1 : Int32))) (lv' := [(4, .int (v4_4 + (1 : Int32))), (0, .ref (bd 0)), (1, .int p0), (2, .int v2_7), (3, .int v3_8)]) hx hb dX9_more_99 hl (k := 4) rfl rfl (by decide) rfl (fun ls hl => ?_)
            refine lv_goto (tgt := 22) hx hb dX9_more_102 (by decide) ?_
            exact ih _ _ _ _ _ _ _ _ _ _ _ _ _ hf hP hS (lv_sub hl [1, 2, 3, 4, 0] rfl) hE
          refine lv_if_ne (tgt := 99) hx hb dX9_more_38 (by decide) (fun hc => ?_) (fun hc => ?_)
          · replace hf := (if_neg hc).symm.trans hf
            exact hJ99 _ _ _ _ _ _ _ hf hP hS (lv_sub hl [0, 1, 2, 3, 4] rfl)
          · replace hf := (if_pos hc).symm.trans hf
            refine lv_aload_n hx hb dX9_more_41 rfl (lv_at hl 0 rfl) ?_
            refine va_get (ci := 8) (v := .ref (bd 3)) (C := RX9) (T := TX9) (N := 22) hx hb hts hiX9 hown hK hP 0 rfl rfl 3 (by decide) (hts _ (List.mem_of_getElem? (i := 2) rfl)) (fun _ h9 => h9) rfl dX9_more_42 ?_
            refine lv_iload hx hb dX9_more_45 (lv_at hl 4 rfl) ?_
            refine lv_iconst (v := (1 : Int32)) hx hb dX9_more_47 (by decide) ?_
            obtain ⟨hg, hf⟩ := og hf
            refine va_zast hx hb hK hP (wM_D hAD) hS 3 2 rfl rfl (gI_in hg) dX9_more_48 (fun H locs hP _ hS => ?_)
            have hP : va_P D vwCl (wM cI cB cZ bd mVil mBad mFul mLen mSig mWay wmLef_5 mSpo mBeg mTok mVal mWor mNum mThe mRts mLns (upd wmOpn_6 (v4_4).toNatClampNeg (vp_nar .boolean (1 : Int32))) mTxt mAns mWys mSiz mNbs) H := hP
            refine lv_aload_n hx hb dX9_more_49 rfl (lv_at hl 0 rfl) ?_
            obtain ⟨⟨r_11, qmLef_12⟩, hq, hf⟩ := ob hf
            try dsimp only at hf
            refine mcVi 0 8 (As := []) (rest := []) ⟨hx, hb, hml, hown, hts⟩ (ctX9_findLeft l D cI cB cZ bd A hAD mVil mBad mFul mLen mSig mWay wmLef_5 mSpo mBeg mTok mVal mWor mNum mThe mRts mLns (upd wmOpn_6 (v4_4).toNatClampNeg (vp_nar .boolean (1 : Int32))) mTxt mAns mWys mSiz mNbs  r_11 qmLef_12 hq) (cwV 0 hts gX9_more_X9_findLeft rfl rfl rfl (by decide +kernel) ⟨Nat.le_of_ble_eq_true rfl, Nat.le_of_ble_eq_true rfl⟩) hK hP hS rfl rfl rfl hl.1 rfl (Nat.le_of_ble_eq_true rfl) dX9_more_50 ⟨Nat.zero_le _, Nat.zero_le _⟩ (fun H locs hP hS => ?_)
            refine lv_istore (lv' := [(5, .int r_11), (0, .ref (bd 0)), (1, .int p0), (2, .int v2_2), (3, .int v3_3), (4, .int v4_4)]) hx hb dX9_more_53 hl (by decide) rfl (fun ls hl => ?_)
            refine lv_aload_n hx hb dX9_more_55 rfl (lv_at hl 1 rfl) ?_
            refine va_get (ci := 8) (v := .ref (bd 3)) (C := RX9) (T := TX9) (N := 22) hx hb hts hiX9 hown hK hP 0 rfl rfl 3 (by decide) (hts _ (List.mem_of_getElem? (i := 2) rfl)) (fun _ h9 => h9) rfl dX9_more_56 ?_
            refine lv_iload hx hb dX9_more_59 (lv_at hl 5 rfl) ?_
            refine lv_iconst (v := (0 : Int32)) hx hb dX9_more_61 (by decide) ?_
            obtain ⟨hg, hf⟩ := og hf
            refine va_zast hx hb hK hP (wM_D hAD) hS 3 2 rfl rfl (gI_in hg) dX9_more_62 (fun H locs hP _ hS => ?_)
            have hP : va_P D vwCl (wM cI cB cZ bd mVil mBad mFul mLen mSig mWay qmLef_12 mSpo mBeg mTok mVal mWor mNum mThe mRts mLns (upd (upd wmOpn_6 (v4_4).toNatClampNeg (vp_nar .boolean (1 : Int32))) (v4_4).toNatClampNeg (vp_nar .boolean (0 : Int32))) mTxt mAns mWys mSiz mNbs) H := hP
            refine lv_iload_n hx hb dX9_more_63 rfl (lv_at hl 4 rfl) ?_
            refine lv_iconst (v := (-1 : Int32)) hx hb dX9_more_64 (by decide) ?_
            have hJ80 : ∀ (t_13 : Int32) (H : Heap) (locs : List Loc) (ls : Array Slot), fX9_more_J80 v3_3 v4_4 wmOpn_6 (lp (fX9_more_L22 mVil mRts mLns) n) r_11 qmLef_12 t_13 = some (ov2_2, ov3_3, ov4_4, owmLef_5, owmOpn_6) → va_P D vwCl (wM cI cB cZ bd mVil mBad mFul mLen mSig mWay qmLef_12 mSpo mBeg mTok mVal mWor mNum mThe mRts mLns (upd (upd wmOpn_6 (v4_4).toNatClampNeg (vp_nar .boolean (1 : Int32))) (v4_4).toNatClampNeg (vp_nar .boolean (0 : Int32))) mTxt mAns mWys mSiz mNbs) H → va_S A s.heap H locs → lv_has ls 6 [(0, .ref (bd 0)), (1, .int p0), (2, .int v2_2), (3, .int v3_3), (4, .int v4_4), (5, .int r_11)] → W p l e (rmN 3 72) s m args below meth c H locs 0 0 (MQ below (QI D (wM cI cB cZ bd mVil zmBad mFul mLen mSig mWay zmLef mSpo mBeg mTok mVal mWor mNum mThe mRts mLns zmOpn mTxt mAns mWys mSiz mNbs) A rv) args s 0 0 A) (F0 m 80 ls [.int t_13]) := by
              intro t_13 H locs ls hf hP hS hl
              unfold fX9_more_J80 at hf
              refine lv_istore_n (lv' := [(2, .int t_13), (0, .ref (bd 0)), (1, .int p0), (3, .int v3_3), (4, .int v4_4), (5, .int r_11)]) hx hb dX9_more_80 rfl hl (by decide) rfl (fun ls hl => ?_)
              refine lv_iload_n hx hb dX9_more_81 rfl (lv_at hl 3 rfl) ?_
              refine lv_iconst (v := (-1 : Int32)) hx hb dX9_more_82 (by decide) ?_
              have hJ98 : ∀ (t_14 : Int32) (H : Heap) (locs : List Loc) (ls : Array Slot), fX9_more_J98 v4_4 wmOpn_6 (lp (fX9_more_L22 mVil mRts mLns) n) qmLef_12 t_13 t_14 = some (ov2_2, ov3_3, ov4_4, owmLef_5, owmOpn_6) → va_P D vwCl (wM cI cB cZ bd mVil mBad mFul mLen mSig mWay qmLef_12 mSpo mBeg mTok mVal mWor mNum mThe mRts mLns (upd (upd wmOpn_6 (v4_4).toNatClampNeg (vp_nar .boolean (1 : Int32))) (v4_4).toNatClampNeg (vp_nar .boolean (0 : Int32))) mTxt mAns mWys mSiz mNbs) H → va_S A s.heap H locs → lv_has ls 6 [(0, .ref (bd 0)), (1, .int p0), (2, .int t_13), (3, .int v3_3), (4, .int v4_4), (5, .int r_11)] → W p l e (rmN 3 72) s m args below meth c H locs 0 0 (MQ below (QI D (wM cI cB cZ bd mVil zmBad mFul mLen mSig mWay zmLef mSpo mBeg mTok mVal mWor mNum mThe mRts mLns zmOpn mTxt mAns mWys mSiz mNbs) A rv) args s 0 0 A) (F0 m 98 ls [.int t_14]) := by
                intro t_14 H locs ls hf hP hS hl
                unfold fX9_more_J98 at hf
                refine lv_istore_n (lv' := [(3, .int t_14), (0, .ref (bd 0)), (1, .int p0), (2, .int t_13), (4, .int v4_4), (5, .int r_11)]) hx hb dX9_more_98 rfl hl (by decide) rfl (fun ls hl => ?_)
                exact hJ99 _ _ _ _ _ _ _ hf hP hS (lv_sub hl [1, 2, 3, 0, 4] rfl)
              have hJ92 : ∀  (H : Heap) (locs : List Loc) (ls : Array Slot), fX9_more_J92 v4_4 wmOpn_6 (lp (fX9_more_L22 mVil mRts mLns) n) r_11 qmLef_12 t_13 = some (ov2_2, ov3_3, ov4_4, owmLef_5, owmOpn_6) → va_P D vwCl (wM cI cB cZ bd mVil mBad mFul mLen mSig mWay qmLef_12 mSpo mBeg mTok mVal mWor mNum mThe mRts mLns (upd (upd wmOpn_6 (v4_4).toNatClampNeg (vp_nar .boolean (1 : Int32))) (v4_4).toNatClampNeg (vp_nar .boolean (0 : Int32))) mTxt mAns mWys mSiz mNbs) H → va_S A s.heap H locs → lv_has ls 6 [(0, .ref (bd 0)), (1, .int p0), (2, .int t_13), (3, .int v3_3), (4, .int v4_4), (5, .int r_11)] → W p l e (rmN 3 72) s m args below meth c H locs 0 0 (MQ below (QI D (wM cI cB cZ bd mVil zmBad mFul mLen mSig mWay zmLef mSpo mBeg mTok mVal mWor mNum mThe mRts mLns zmOpn mTxt mAns mWys mSiz mNbs) A rv) args s 0 0 A) (F0 m 92 ls []) := by
                intro  H locs ls hf hP hS hl
                unfold fX9_more_J92 at hf
                refine lv_iload hx hb dX9_more_92 (lv_at hl 5 rfl) ?_
                refine lv_goto (tgt := 98) hx hb dX9_more_94 (by decide) ?_
                exact hJ98 _ _ _ _ hf hP hS (lv_sub hl [0, 1, 2, 3, 4, 5] rfl)
              refine lv_icmp_eq (tgt := 92) hx hb dX9_more_83 (by decide) (fun hc => ?_) (fun hc => ?_)
              · replace hf := (if_pos hc).symm.trans hf
                exact hJ92  _ _ _ hf hP hS (lv_sub hl [1, 2, 0, 3, 4, 5] rfl)
              · replace hf := (if_neg hc).symm.trans hf
                refine lv_iload hx hb dX9_more_86 (lv_at hl 5 rfl) ?_
                refine lv_iload_n hx hb dX9_more_88 rfl (lv_at hl 3 rfl) ?_
                refine lv_icmp_ge (tgt := 97) hx hb dX9_more_89 (by decide) (fun hc => ?_) (fun hc => ?_)
                · replace hf := (if_pos hc).symm.trans hf
                  refine lv_iload_n hx hb dX9_more_97 rfl (lv_at hl 3 rfl) ?_
                  exact hJ98 _ _ _ _ hf hP hS (lv_sub hl [1, 2, 0, 3, 4, 5] rfl)
                · replace hf := (if_neg hc).symm.trans hf
                  exact hJ92  _ _ _ hf hP hS (lv_sub hl [1, 2, 0, 3, 4, 5] rfl)
            have hJ74 : ∀  (H : Heap) (locs : List Loc) (ls : Array Slot), fX9_more_J74 v3_3 v4_4 wmOpn_6 (lp (fX9_more_L22 mVil mRts mLns) n) r_11 qmLef_12 = some (ov2_2, ov3_3, ov4_4, owmLef_5, owmOpn_6) → va_P D vwCl (wM cI cB cZ bd mVil mBad mFul mLen mSig mWay qmLef_12 mSpo mBeg mTok mVal mWor mNum mThe mRts mLns (upd (upd wmOpn_6 (v4_4).toNatClampNeg (vp_nar .boolean (1 : Int32))) (v4_4).toNatClampNeg (vp_nar .boolean (0 : Int32))) mTxt mAns mWys mSiz mNbs) H → va_S A s.heap H locs → lv_has ls 6 [(0, .ref (bd 0)), (1, .int p0), (2, .int v2_2), (3, .int v3_3), (4, .int v4_4), (5, .int r_11)] → W p l e (rmN 3 72) s m args below meth c H locs 0 0 (MQ below (QI D (wM cI cB cZ bd mVil zmBad mFul mLen mSig mWay zmLef mSpo mBeg mTok mVal mWor mNum mThe mRts mLns zmOpn mTxt mAns mWys mSiz mNbs) A rv) args s 0 0 A) (F0 m 74 ls []) := by
              intro  H locs ls hf hP hS hl
              unfold fX9_more_J74 at hf
              refine lv_iload hx hb dX9_more_74 (lv_at hl 4 rfl) ?_
              refine lv_goto (tgt := 80) hx hb dX9_more_76 (by decide) ?_
              exact hJ80 _ _ _ _ hf hP hS (lv_sub hl [0, 1, 2, 3, 4, 5] rfl)
            refine lv_icmp_eq (tgt := 74) hx hb dX9_more_65 (by decide) (fun hc => ?_) (fun hc => ?_)
            · replace hf := (if_pos hc).symm.trans hf
              exact hJ74  _ _ _ hf hP hS (lv_sub hl [1, 2, 3, 4, 5, 0] rfl)
            · replace hf := (if_neg hc).symm.trans hf
              refine lv_iload hx hb dX9_more_68 (lv_at hl 0 rfl) ?_
              refine lv_iload_n hx hb dX9_more_70 rfl (lv_at hl 4 rfl) ?_
              refine lv_icmp_ge (tgt := 79) hx hb dX9_more_71 (by decide) (fun hc => ?_) (fun hc => ?_)
              · replace hf := (if_pos hc).symm.trans hf
                refine lv_iload_n hx hb dX9_more_79 rfl (lv_at hl 3 rfl) ?_
                exact hJ80 _ _ _ _ hf hP hS (lv_sub hl [1, 2, 3, 4, 5, 0] rfl)
              · replace hf := (if_neg hc).symm.trans hf
                exact hJ74  _ _ _ hf hP hS (lv_sub hl [1, 2, 3, 4, 5, 0] rfl)
    obtain ⟨⟨ov2_2, ov3_3, ov4_4, owmLef_5, owmOpn_6⟩, hq, hf⟩ := ob hf
    try dsimp only at hf
    refine hL22 FU _ _ _ _ _ ov2_2 ov3_3 ov4_4 owmLef_5 owmOpn_6 _ _ ls hq hP hS (lv_sub hl [3, 4, 2, 1, 0] rfl) (fun H locs ls hP hS hl => ?_)
    refine lv_iload_n hx hb dX9_more_105 rfl (lv_at hl 1 rfl) ?_
    refine lv_if_ne (tgt := 113) hx hb dX9_more_106 (by decide) (fun hc => ?_) (fun hc => ?_)
    · replace hf := (if_neg hc).symm.trans hf
      refine lv_iload_n hx hb dX9_more_113 rfl (lv_at hl 3 rfl) ?_
      obtain ⟨e0, hz1⟩ := Prod.mk.inj (Option.some.inj hf)
      obtain ⟨e1, hz2⟩ := Prod.mk.inj hz1
      obtain ⟨e2, hz3⟩ := Prod.mk.inj hz2
      subst e0
      subst e1
      subst e2
      subst hz3
      exact rm_i hx hb hr hlk hP hS dX9_more_114
    · replace hf := (if_pos hc).symm.trans hf
      refine lv_iload_n hx hb dX9_more_109 rfl (lv_at hl 2 rfl) ?_
      refine lv_goto (tgt := 114) hx hb dX9_more_110 (by decide) ?_
      obtain ⟨e0, hz1⟩ := Prod.mk.inj (Option.some.inj hf)
      obtain ⟨e1, hz2⟩ := Prod.mk.inj hz1
      obtain ⟨e2, hz3⟩ := Prod.mk.inj hz2
      subst e0
      subst e1
      subst e2
      subst hz3
      exact rm_i hx hb hr hlk hP hS dX9_more_114
  · replace hf := (if_pos hc).symm.trans hf
    refine lv_aload_n hx hb dX9_more_10 rfl (lv_at hl 0 rfl) ?_
    obtain ⟨⟨r_15, qmBad_16⟩, hq, hf⟩ := ob hf
    try dsimp only at hf
    refine mcVi 0 8 (As := []) (rest := []) ⟨hx, hb, hml, hown, hts⟩ (ctX9_refuse l D cI cB cZ bd A hAD mVil mBad mFul mLen mSig mWay mLef mSpo mBeg mTok mVal mWor mNum mThe mRts mLns mOpn mTxt mAns mWys mSiz mNbs  r_15 qmBad_16 hq) (cwV 0 hts gX9_more_X9_refuse rfl rfl rfl (by decide +kernel) ⟨Nat.le_of_ble_eq_true rfl, Nat.le_of_ble_eq_true rfl⟩) hK hP hS rfl rfl rfl hl.1 rfl (Nat.le_of_ble_eq_true rfl) dX9_more_11 ⟨Nat.zero_le _, Nat.zero_le _⟩ (fun H locs hP hS => ?_)
    obtain ⟨e0, hz1⟩ := Prod.mk.inj (Option.some.inj hf)
    obtain ⟨e1, hz2⟩ := Prod.mk.inj hz1
    obtain ⟨e2, hz3⟩ := Prod.mk.inj hz2
    subst e0
    subst e1
    subst e2
    subst hz3
    exact rm_i hx hb hr hlk hP hS dX9_more_14

def fX9_serves_J57 (v3_2 : Int32) (v4_3 : Int32) (kk : (Int32 × Int32) → Option (Int32 × Int32)) (t_5 : Int32) : Option (Int32 × Int32) :=
  (kk ((v3_2 + t_5), (v4_3 + (1 : Int32))))
def fX9_serves_L32 (mVil : Int32) (mRts : Nat → Int32) (mLns : Nat → Int32) (mOpn : Nat → Int32) (p0 : Int32) (kk : (Int32 × Int32) → Option (Int32 × Int32)) (ww : Int32 × Int32) : Option (Int32 × Int32) :=
  match ww with
  | (v3_2, v4_3) => (if mVil ≤ v4_3 then (some (v3_2, v4_3)) else ((fX9_nearestOf mVil mRts mLns (upd mOpn (p0).toNatClampNeg (vp_nar .boolean (1 : Int32))) v4_3).bind fun r_4 => (if r_4 = p0 then (fX9_serves_J57 v3_2 v4_3 kk (1 : Int32)) else (fX9_serves_J57 v3_2 v4_3 kk (0 : Int32)))))
def fX9_serves (mVil : Int32) (mBad : Int32) (mRts : Nat → Int32) (mLns : Nat → Int32) (mOpn : Nat → Int32) (p0 : Int32) : Option (Int32 × Int32 × (Nat → Int32)) :=
  ((fX9_isVillage mVil p0).bind fun r_1 => (if r_1 = 0 then ((fX9_refuse mBad).bind fun (r_6, qmBad_7) => (some (r_6, qmBad_7, mOpn))) else (if gI p0 60 then (if gI p0 60 then ((lp (fX9_serves_L32 mVil mRts mLns mOpn p0) FU ((0 : Int32), (0 : Int32))).bind fun (ov3_2, ov4_3) => (if gI p0 60 then (some (ov3_2, mBad, (upd (upd mOpn (p0).toNatClampNeg (vp_nar .boolean (1 : Int32))) (p0).toNatClampNeg (vp_nar .boolean (mOpn (p0).toNatClampNeg))))) else none)) else none) else none)))
set_option maxRecDepth 100000 in
set_option maxHeartbeats 4000000 in
theorem ctX9_serves (l : Launch) (D : va_G) (cI cB cZ : ClassId) (bd : Nat → Nat) (A : Nat → Prop) (hAD : AD A bd 9) (mVil mBad mFul mLen mSig mWay mLef mSpo mBeg mTok mVal mWor mNum mThe : Int32) (mRts mLns mOpn mTxt mAns mWys mSiz mNbs : Nat → Int32) (p0 : Int32) (rv : Int32) (zmBad : Int32) (zmOpn : Nat → Int32) (hf : fX9_serves mVil mBad mRts mLns mOpn p0 = some (rv, zmBad, zmOpn)) : Met l yX9_serves wsX9_serves (rmN 2 48) (PR D (tyL cI cB cZ) (wM cI cB cZ bd mVil mBad mFul mLen mSig mWay mLef mSpo mBeg mTok mVal mWor mNum mThe mRts mLns mOpn mTxt mAns mWys mSiz mNbs) [.ref (bd 0), .int p0]) (QI D (wM cI cB cZ bd mVil zmBad mFul mLen mSig mWay mLef mSpo mBeg mTok mVal mWor mNum mThe mRts mLns zmOpn mTxt mAns mWys mSiz mNbs) A rv) 0 0 A := by
  refine mk_met cX9_serves 5 (some .int) (by decide) rfl (Nat.le_of_ble_eq_true rfl) ?_
  intro p e s m args below meth c ls hx hb hr hlk hml hown hts hPK hl
  obtain ⟨hP, hK⟩ := hPK
  replace hl : lv_has ls 5 [(0, .ref (bd 0)), (1, .int p0)] := hl
  replace hown : s.vm.findClass RX9 = some m.cls := hown
  have hiX9 : ∀ w ∈ wsX90, w ∈ wsX9_serves := fun w h => List.mem_cons_of_mem _ (List.mem_append_right _ h)
  have hS : va_S A s.heap s.heap [] := va_S.rf
  unfold fX9_serves at hf
  refine lv_aload_n hx hb dX9_serves_0 rfl (lv_at hl 0 rfl) ?_
  refine lv_iload_n hx hb dX9_serves_1 rfl (lv_at hl 1 rfl) ?_
  obtain ⟨r_1, hq, hf⟩ := ob hf
  try dsimp only at hf
  refine rcV 0 8 (As := [.int p0]) (rest := []) ⟨hx, hb, hml, hown, hts⟩ (ctX9_isVillage l D cI cB cZ bd mVil mBad mFul mLen mSig mWay mLef mSpo mBeg mTok mVal mWor mNum mThe mRts mLns mOpn mTxt mAns mWys mSiz mNbs p0 r_1 hq) (cwV 1 hts gX9_serves_X9_isVillage rfl rfl rfl (by decide +kernel) ⟨Nat.le_of_ble_eq_true rfl, Nat.le_of_ble_eq_true rfl⟩) hK hP rfl rfl rfl hl.1 rfl (Nat.le_of_ble_eq_true rfl) dX9_serves_2 ⟨Nat.zero_le _, Nat.zero_le _⟩ ?_
  refine lv_if_ne (tgt := 13) hx hb dX9_serves_5 (by decide) (fun hc => ?_) (fun hc => ?_)
  · replace hf := (if_neg hc).symm.trans hf
    refine lv_aload_n hx hb dX9_serves_13 rfl (lv_at hl 0 rfl) ?_
    refine va_get (ci := 8) (v := .ref (bd 3)) (C := RX9) (T := TX9) (N := 22) hx hb hts hiX9 hown hK hP 0 rfl rfl 3 (by decide) (hts _ (List.mem_of_getElem? (i := 1) rfl)) (fun _ h9 => h9) rfl dX9_serves_14 ?_
    refine lv_iload_n hx hb dX9_serves_17 rfl (lv_at hl 1 rfl) ?_
    obtain ⟨hg, hf⟩ := og hf
    refine va_zald hx hb hK hP 3 2 rfl rfl (gI_in hg) dX9_serves_18 ?_
    refine lv_istore_n (lv' := [(2, .int (mOpn (p0).toNatClampNeg)), (0, .ref (bd 0)), (1, .int p0)]) hx hb dX9_serves_19 rfl hl (by decide) rfl (fun ls hl => ?_)
    refine lv_iconst (v := (0 : Int32)) hx hb dX9_serves_20 (by decide) ?_
    refine lv_istore_n (lv' := [(3, .int (0 : Int32)), (2, .int (mOpn (p0).toNatClampNeg)), (0, .ref (bd 0)), (1, .int p0)]) hx hb dX9_serves_21 rfl hl (by decide) rfl (fun ls hl => ?_)
    refine lv_aload_n hx hb dX9_serves_22 rfl (lv_at hl 2 rfl) ?_
    refine va_get (ci := 8) (v := .ref (bd 3)) (C := RX9) (T := TX9) (N := 22) hx hb hts hiX9 hown hK hP 0 rfl rfl 3 (by decide) (hts _ (List.mem_of_getElem? (i := 1) rfl)) (fun _ h9 => h9) rfl dX9_serves_23 ?_
    refine lv_iload_n hx hb dX9_serves_26 rfl (lv_at hl 3 rfl) ?_
    refine lv_iconst (v := (1 : Int32)) hx hb dX9_serves_27 (by decide) ?_
    obtain ⟨hg, hf⟩ := og hf
    refine va_zast hx hb hK hP (wM_D hAD) hS 3 2 rfl rfl (gI_in hg) dX9_serves_28 (fun H locs hP _ hS => ?_)
    have hP : va_P D vwCl (wM cI cB cZ bd mVil mBad mFul mLen mSig mWay mLef mSpo mBeg mTok mVal mWor mNum mThe mRts mLns (upd mOpn (p0).toNatClampNeg (vp_nar .boolean (1 : Int32))) mTxt mAns mWys mSiz mNbs) H := hP
    refine lv_iconst (v := (0 : Int32)) hx hb dX9_serves_29 (by decide) ?_
    refine lv_istore (lv' := [(4, .int (0 : Int32)), (3, .int (0 : Int32)), (2, .int (mOpn (p0).toNatClampNeg)), (0, .ref (bd 0)), (1, .int p0)]) hx hb dX9_serves_30 hl (by decide) rfl (fun ls hl => ?_)
    have hL32 : ∀ (n : Nat) (v3_2 : Int32) (v4_3 : Int32) (ov3_2 : Int32) (ov4_3 : Int32) (H : Heap) (locs : List Loc) (ls : Array Slot), lp (fX9_serves_L32 mVil mRts mLns mOpn p0) n (v3_2, v4_3) = some (ov3_2, ov4_3) → va_P D vwCl (wM cI cB cZ bd mVil mBad mFul mLen mSig mWay mLef mSpo mBeg mTok mVal mWor mNum mThe mRts mLns (upd mOpn (p0).toNatClampNeg (vp_nar .boolean (1 : Int32))) mTxt mAns mWys mSiz mNbs) H → va_S A s.heap H locs → lv_has ls 5 [(0, .ref (bd 0)), (1, .int p0), (2, .int (mOpn (p0).toNatClampNeg)), (3, .int v3_2), (4, .int v4_3)] → (∀ (H : Heap) (locs : List Loc) (ls : Array Slot), va_P D vwCl (wM cI cB cZ bd mVil mBad mFul mLen mSig mWay mLef mSpo mBeg mTok mVal mWor mNum mThe mRts mLns (upd mOpn (p0).toNatClampNeg (vp_nar .boolean (1 : Int32))) mTxt mAns mWys mSiz mNbs) H → va_S A s.heap H locs → lv_has ls 5 [(0, .ref (bd 0)), (1, .int p0), (2, .int (mOpn (p0).toNatClampNeg)), (3, .int ov3_2), (4, .int ov4_3)] → W p l e (rmN 2 48) s m args below meth c H locs 0 0 (MQ below (QI D (wM cI cB cZ bd mVil zmBad mFul mLen mSig mWay mLef mSpo mBeg mTok mVal mWor mNum mThe mRts mLns zmOpn mTxt mAns mWys mSiz mNbs) A rv) args s 0 0 A) (F0 m 65 ls [])) → W p l e (rmN 2 48) s m args below meth c H locs 0 0 (MQ below (QI D (wM cI cB cZ bd mVil zmBad mFul mLen mSig mWay mLef mSpo mBeg mTok mVal mWor mNum mThe mRts mLns zmOpn mTxt mAns mWys mSiz mNbs) A rv) args s 0 0 A) (F0 m 32 ls []) := by
      intro n
      induction n with
      | zero => intro v3_2 v4_3 ov3_2 ov4_3 H locs ls hf; exact (lp_0 hf).elim
      | succ n ih =>
        intro v3_2 v4_3 ov3_2 ov4_3 H locs ls hf hP hS hl hE
        replace hf := lp_s hf
        dsimp only [fX9_serves_L32] at hf
        refine lv_iload hx hb dX9_serves_32 (lv_at hl 4 rfl) ?_
        refine lv_aload_n hx hb dX9_serves_34 rfl (lv_at hl 0 rfl) ?_
        refine va_get (ci := 8) (v := .int mVil) (C := RX9) (T := TX9) (N := 22) hx hb hts hiX9 hown hK hP 0 rfl rfl 0 (by decide) (hts _ (List.mem_of_getElem? (i := 2) rfl)) (fun _ h9 => h9) rfl dX9_serves_35 ?_
        refine lv_icmp_ge (tgt := 65) hx hb dX9_serves_38 (by decide) (fun hc => ?_) (fun hc => ?_)
        · replace hf := (if_pos hc).symm.trans hf
          cases hf
          exact hE _ _ _ hP hS (lv_sub hl [0, 1, 2, 3, 4] rfl)
        · replace hf := (if_neg hc).symm.trans hf
          refine lv_iload_n hx hb dX9_serves_41 rfl (lv_at hl 3 rfl) ?_
          refine lv_aload_n hx hb dX9_serves_42 rfl (lv_at hl 0 rfl) ?_
          refine lv_iload hx hb dX9_serves_43 (lv_at hl 4 rfl) ?_
          obtain ⟨r_4, hq, hf⟩ := ob hf
          try dsimp only at hf
          refine rcV 0 8 (As := [.int v4_3]) (rest := [.int v3_2]) ⟨hx, hb, hml, hown, hts⟩ (ctX9_nearestOf l D cI cB cZ bd mVil mBad mFul mLen mSig mWay mLef mSpo mBeg mTok mVal mWor mNum mThe mRts mLns (upd mOpn (p0).toNatClampNeg (vp_nar .boolean (1 : Int32))) mTxt mAns mWys mSiz mNbs v4_3 r_4 hq) (cwV 1 hts gX9_serves_X9_nearestOf rfl rfl rfl (by decide +kernel) ⟨Nat.le_of_ble_eq_true rfl, Nat.le_of_ble_eq_true rfl⟩) hK hP rfl rfl rfl hl.1 rfl (Nat.le_of_ble_eq_true rfl) dX9_serves_45 ⟨Nat.zero_le _, Nat.zero_le _⟩ ?_
          refine lv_iload_n hx hb dX9_serves_48 rfl (lv_at hl 1 rfl) ?_
          have hJ57 : ∀ (t_5 : Int32) (H : Heap) (locs : List Loc) (ls : Array Slot), fX9_serves_J57 v3_2 v4_3 (lp (fX9_serves_L32 mVil mRts mLns mOpn p0) n) t_5 = some (ov3_2, ov4_3) → va_P D vwCl (wM cI cB cZ bd mVil mBad mFul mLen mSig mWay mLef mSpo mBeg mTok mVal mWor mNum mThe mRts mLns (upd mOpn (p0).toNatClampNeg (vp_nar .boolean (1 : Int32))) mTxt mAns mWys mSiz mNbs) H → va_S A s.heap H locs → lv_has ls 5 [(0, .ref (bd 0)), (1, .int p0), (2, .int (mOpn (p0).toNatClampNeg)), (3, .int v3_2), (4, .int v4_3)] → W p l e (rmN 2 48) s m args below meth c H locs 0 0 (MQ below (QI D (wM cI cB cZ bd mVil zmBad mFul mLen mSig mWay mLef mSpo mBeg mTok mVal mWor mNum mThe mRts mLns zmOpn mTxt mAns mWys mSiz mNbs) A rv) args s 0 0 A) (F0 m 57 ls [.int t_5, .int v3_2]) := by
            intro t_5 H locs ls hf hP hS hl
            unfold fX9_serves_J57 at hf
            refine lv_iadd hx hb dX9_serves_57 ?_
            refine lv_istore_n (lv' := [(3, .int (v3_2 + t_5)), (0, .ref (bd 0)), (1, .int p0), (2, .int (mOpn (p0).toNatClampNeg)), (4, .int v4_3)]) hx hb dX9_serves_58 rfl hl (by decide) rfl (fun ls hl => ?_)
            refine lv_iinc (v := (v4_3 + (1 : Int32))) (lv' := [(4, .int (v4_3 + (1 : Int32))), (3, .int (v3_2 + t_5)), (0, .ref (bd 0)), (1, .int p0), (2, .int (mOpn (p0).toNatClampNeg))]) hx hb dX9_serves_59 hl (k := 4) rfl rfl (by decide) rfl (fun ls hl => ?_)
            refine lv_goto (tgt := 32) hx hb dX9_serves_62 (by decide) ?_
            exact ih _ _ _ _ _ _ _ hf hP hS (lv_sub hl [2, 3, 4, 1, 0] rfl) hE
          refine lv_icmp_ne (tgt := 56) hx hb dX9_serves_49 (by decide) (fun hc => ?_) (fun hc => ?_)
          · replace hf := (if_neg hc).symm.trans hf
            refine lv_iconst (v := (0 : Int32)) hx hb dX9_serves_56 (by decide) ?_
            exact hJ57 _ _ _ _ hf hP hS (lv_sub hl [0, 1, 2, 3, 4] rfl)
          · replace hf := (if_pos hc).symm.trans hf
            refine lv_iconst (v := (1 : Int32)) hx hb dX9_serves_52 (by decide) ?_
            refine lv_goto (tgt := 57) hx hb dX9_serves_53 (by decide) ?_
            exact hJ57 _ _ _ _ hf hP hS (lv_sub hl [0, 1, 2, 3, 4] rfl)
    obtain ⟨⟨ov3_2, ov4_3⟩, hq, hf⟩ := ob hf
    try dsimp only at hf
    refine hL32 FU _ _ ov3_2 ov4_3 _ _ ls hq hP hS (lv_sub hl [3, 4, 2, 1, 0] rfl) (fun H locs ls hP hS hl => ?_)
    refine lv_aload_n hx hb dX9_serves_65 rfl (lv_at hl 0 rfl) ?_
    refine va_get (ci := 8) (v := .ref (bd 3)) (C := RX9) (T := TX9) (N := 22) hx hb hts hiX9 hown hK hP 0 rfl rfl 3 (by decide) (hts _ (List.mem_of_getElem? (i := 1) rfl)) (fun _ h9 => h9) rfl dX9_serves_66 ?_
    refine lv_iload_n hx hb dX9_serves_69 rfl (lv_at hl 1 rfl) ?_
    refine lv_iload_n hx hb dX9_serves_70 rfl (lv_at hl 2 rfl) ?_
    obtain ⟨hg, hf⟩ := og hf
    refine va_zast hx hb hK hP (wM_D hAD) hS 3 2 rfl rfl (gI_in hg) dX9_serves_71 (fun H locs hP _ hS => ?_)
    have hP : va_P D vwCl (wM cI cB cZ bd mVil mBad mFul mLen mSig mWay mLef mSpo mBeg mTok mVal mWor mNum mThe mRts mLns (upd (upd mOpn (p0).toNatClampNeg (vp_nar .boolean (1 : Int32))) (p0).toNatClampNeg (vp_nar .boolean (mOpn (p0).toNatClampNeg))) mTxt mAns mWys mSiz mNbs) H := hP
    refine lv_iload_n hx hb dX9_serves_72 rfl (lv_at hl 3 rfl) ?_
    obtain ⟨e0, hz1⟩ := Prod.mk.inj (Option.some.inj hf)
    obtain ⟨e1, hz2⟩ := Prod.mk.inj hz1
    subst e0
    subst e1
    subst hz2
    exact rm_i hx hb hr hlk hP hS dX9_serves_73
  · replace hf := (if_pos hc).symm.trans hf
    refine lv_aload_n hx hb dX9_serves_8 rfl (lv_at hl 0 rfl) ?_
    obtain ⟨⟨r_6, qmBad_7⟩, hq, hf⟩ := ob hf
    try dsimp only at hf
    refine mcVi 0 8 (As := []) (rest := []) ⟨hx, hb, hml, hown, hts⟩ (ctX9_refuse l D cI cB cZ bd A hAD mVil mBad mFul mLen mSig mWay mLef mSpo mBeg mTok mVal mWor mNum mThe mRts mLns mOpn mTxt mAns mWys mSiz mNbs  r_6 qmBad_7 hq) (cwV 0 hts gX9_serves_X9_refuse rfl rfl rfl (by decide +kernel) ⟨Nat.le_of_ble_eq_true rfl, Nat.le_of_ble_eq_true rfl⟩) hK hP hS rfl rfl rfl hl.1 rfl (Nat.le_of_ble_eq_true rfl) dX9_serves_9 ⟨Nat.zero_le _, Nat.zero_le _⟩ (fun H locs hP hS => ?_)
    obtain ⟨e0, hz1⟩ := Prod.mk.inj (Option.some.inj hf)
    obtain ⟨e1, hz2⟩ := Prod.mk.inj hz1
    subst e0
    subst e1
    subst hz2
    exact rm_i hx hb hr hlk hP hS dX9_serves_12

def fX9_pair_J106 (v6_9 : Int32) (kk : (Int32 × Int32 × Int32 × Int32) → Option (Int32 × Int32 × Int32 × Int32)) (v2_10 : Int32) (v3_11 : Int32) (v4_12 : Int32) : Option (Int32 × Int32 × Int32 × Int32) :=
  (kk (v2_10, v3_11, v4_12, (v6_9 + (1 : Int32))))
def fX9_pair_J90 (mRts : Nat → Int32) (mLns : Nat → Int32) (v5_5 : Int32) (v6_9 : Int32) (kk : (Int32 × Int32 × Int32 × Int32) → Option (Int32 × Int32 × Int32 × Int32)) : Option (Int32 × Int32 × Int32 × Int32) :=
  ((fX9_farFrom mRts mLns v5_5 v6_9).bind fun r_13 => (fX9_pair_J106 v6_9 kk v5_5 v6_9 r_13))
def fX9_pair_L42 (mVil : Int32) (mRts : Nat → Int32) (mLns : Nat → Int32) (mOpn : Nat → Int32) (v5_5 : Int32) (kk : (Int32 × Int32 × Int32 × Int32) → Option (Int32 × Int32 × Int32 × Int32)) (ww : Int32 × Int32 × Int32 × Int32) : Option (Int32 × Int32 × Int32 × Int32) :=
  match ww with
  | (v2_6, v3_7, v4_8, v6_9) => (if mVil ≤ v6_9 then (some (v2_6, v3_7, v4_8, v6_9)) else (if gI v5_5 60 then (if (mOpn (v5_5).toNatClampNeg) = 0 then (fX9_pair_J106 v6_9 kk v2_6 v3_7 v4_8) else (if gI v6_9 60 then (if (mOpn (v6_9).toNatClampNeg) = 0 then (fX9_pair_J106 v6_9 kk v2_6 v3_7 v4_8) else (if v4_8 = (-1 : Int32) then (fX9_pair_J90 mRts mLns v5_5 v6_9 kk) else ((fX9_farFrom mRts mLns v5_5 v6_9).bind fun r_14 => (if v4_8 ≤ r_14 then (fX9_pair_J106 v6_9 kk v2_6 v3_7 v4_8) else (fX9_pair_J90 mRts mLns v5_5 v6_9 kk))))) else none)) else none))
def fX9_pair_L27 (mVil : Int32) (mRts : Nat → Int32) (mLns : Nat → Int32) (mOpn : Nat → Int32) (kk : (Int32 × Int32 × Int32 × Int32) → Option (Int32 × Int32 × Int32 × Int32)) (ww : Int32 × Int32 × Int32 × Int32) : Option (Int32 × Int32 × Int32 × Int32) :=
  match ww with
  | (v2_2, v3_3, v4_4, v5_5) => (if mVil ≤ v5_5 then (some (v2_2, v3_3, v4_4, v5_5)) else ((lp (fX9_pair_L42 mVil mRts mLns mOpn v5_5) FU (v2_2, v3_3, v4_4, (v5_5 + (1 : Int32)))).bind fun (ov2_6, ov3_7, ov4_8, ov6_9) => (kk (ov2_6, ov3_7, ov4_8, (v5_5 + (1 : Int32))))))
def fX9_pair (mVil : Int32) (mBad : Int32) (mRts : Nat → Int32) (mLns : Nat → Int32) (mOpn : Nat → Int32) (p0 : Int32) : Option (Int32 × Int32) :=
  ((fX9_in (p0).toInt64 (0 : Int64) (2 : Int64)).bind fun r_1 => (if r_1 = 0 then ((fX9_refuse mBad).bind fun (r_15, qmBad_16) => (some (r_15, qmBad_16))) else ((lp (fX9_pair_L27 mVil mRts mLns mOpn) FU ((-1 : Int32), (-1 : Int32), (-1 : Int32), (0 : Int32))).bind fun (ov2_2, ov3_3, ov4_4, ov5_5) => (if p0 = 0 then (some (ov4_4, mBad)) else (if p0 = (1 : Int32) then (some (ov2_2, mBad)) else (some (ov3_3, mBad)))))))
set_option maxRecDepth 100000 in
set_option maxHeartbeats 4000000 in
theorem ctX9_pair (l : Launch) (D : va_G) (cI cB cZ : ClassId) (bd : Nat → Nat) (A : Nat → Prop) (hAD : AD A bd 9) (mVil mBad mFul mLen mSig mWay mLef mSpo mBeg mTok mVal mWor mNum mThe : Int32) (mRts mLns mOpn mTxt mAns mWys mSiz mNbs : Nat → Int32) (p0 : Int32) (rv : Int32) (zmBad : Int32) (hf : fX9_pair mVil mBad mRts mLns mOpn p0 = some (rv, zmBad)) : Met l yX9_pair wsX9_pair (rmN 1 25) (PR D (tyL cI cB cZ) (wM cI cB cZ bd mVil mBad mFul mLen mSig mWay mLef mSpo mBeg mTok mVal mWor mNum mThe mRts mLns mOpn mTxt mAns mWys mSiz mNbs) [.ref (bd 0), .int p0]) (QI D (wM cI cB cZ bd mVil zmBad mFul mLen mSig mWay mLef mSpo mBeg mTok mVal mWor mNum mThe mRts mLns mOpn mTxt mAns mWys mSiz mNbs) A rv) 0 0 A := by
  refine mk_met cX9_pair 7 (some .int) (by decide) rfl (Nat.le_of_ble_eq_true rfl) ?_
  intro p e s m args below meth c ls hx hb hr hlk hml hown hts hPK hl
  obtain ⟨hP, hK⟩ := hPK
  replace hl : lv_has ls 7 [(0, .ref (bd 0)), (1, .int p0)] := hl
  replace hown : s.vm.findClass RX9 = some m.cls := hown
  have hiX9 : ∀ w ∈ wsX90, w ∈ wsX9_pair := fun w h => List.mem_cons_of_mem _ (List.mem_append_right _ h)
  have hS : va_S A s.heap s.heap [] := va_S.rf
  unfold fX9_pair at hf
  refine lv_iload_n hx hb dX9_pair_0 rfl (lv_at hl 1 rfl) ?_
  refine lv_i2l (v := (p0).toInt64) hx hb dX9_pair_1 rfl ?_
  refine lv_lconst (v := (0 : Int64)) hx hb dX9_pair_2 (by decide) ?_
  refine lv_ldc2 (v := (2 : Int64)) hx hb hown (hts _ (List.mem_of_getElem? (i := 1) rfl)) dX9_pair_3 ?_
  obtain ⟨r_1, hq, hf⟩ := ob hf
  try dsimp only at hf
  refine rcS (As := [.long (p0).toInt64, .long (0 : Int64), .long (2 : Int64)]) (rest := []) ⟨hx, hb, hml, hown, hts⟩ (ctX9_in l (p0).toInt64 (0 : Int64) (2 : Int64) r_1 hq) (va_cwS 3 hts gX9_pair_X9_in rfl rfl rfl (by decide +kernel) ⟨Nat.le_of_ble_eq_true rfl, Nat.le_of_ble_eq_true rfl⟩) rfl hl.1 rfl (Nat.le_of_ble_eq_true rfl) dX9_pair_6 ⟨Nat.zero_le _, Nat.zero_le _⟩ ?_
  refine lv_if_ne (tgt := 17) hx hb dX9_pair_9 (by decide) (fun hc => ?_) (fun hc => ?_)
  · replace hf := (if_neg hc).symm.trans hf
    refine lv_iconst (v := (-1 : Int32)) hx hb dX9_pair_17 (by decide) ?_
    refine lv_istore_n (lv' := [(2, .int (-1 : Int32)), (0, .ref (bd 0)), (1, .int p0)]) hx hb dX9_pair_18 rfl hl (by decide) rfl (fun ls hl => ?_)
    refine lv_iconst (v := (-1 : Int32)) hx hb dX9_pair_19 (by decide) ?_
    refine lv_istore_n (lv' := [(3, .int (-1 : Int32)), (2, .int (-1 : Int32)), (0, .ref (bd 0)), (1, .int p0)]) hx hb dX9_pair_20 rfl hl (by decide) rfl (fun ls hl => ?_)
    refine lv_iconst (v := (-1 : Int32)) hx hb dX9_pair_21 (by decide) ?_
    refine lv_istore (lv' := [(4, .int (-1 : Int32)), (3, .int (-1 : Int32)), (2, .int (-1 : Int32)), (0, .ref (bd 0)), (1, .int p0)]) hx hb dX9_pair_22 hl (by decide) rfl (fun ls hl => ?_)
    refine lv_iconst (v := (0 : Int32)) hx hb dX9_pair_24 (by decide) ?_
    refine lv_istore (lv' := [(5, .int (0 : Int32)), (4, .int (-1 : Int32)), (3, .int (-1 : Int32)), (2, .int (-1 : Int32)), (0, .ref (bd 0)), (1, .int p0)]) hx hb dX9_pair_25 hl (by decide) rfl (fun ls hl => ?_)
    have hL27 : ∀ (n : Nat) (v2_2 : Int32) (v3_3 : Int32) (v4_4 : Int32) (v5_5 : Int32) (ov2_2 : Int32) (ov3_3 : Int32) (ov4_4 : Int32) (ov5_5 : Int32) (H : Heap) (locs : List Loc) (ls : Array Slot), lp (fX9_pair_L27 mVil mRts mLns mOpn) n (v2_2, v3_3, v4_4, v5_5) = some (ov2_2, ov3_3, ov4_4, ov5_5) → va_P D vwCl (wM cI cB cZ bd mVil mBad mFul mLen mSig mWay mLef mSpo mBeg mTok mVal mWor mNum mThe mRts mLns mOpn mTxt mAns mWys mSiz mNbs) H → va_S A s.heap H locs → lv_has ls 7 [(0, .ref (bd 0)), (1, .int p0), (2, .int v2_2), (3, .int v3_3), (4, .int v4_4), (5, .int v5_5)] → (∀ (H : Heap) (locs : List Loc) (ls : Array Slot), va_P D vwCl (wM cI cB cZ bd mVil mBad mFul mLen mSig mWay mLef mSpo mBeg mTok mVal mWor mNum mThe mRts mLns mOpn mTxt mAns mWys mSiz mNbs) H → va_S A s.heap H locs → lv_has ls 7 [(0, .ref (bd 0)), (1, .int p0), (2, .int ov2_2), (3, .int ov3_3), (4, .int ov4_4), (5, .int ov5_5)] → W p l e (rmN 1 25) s m args below meth c H locs 0 0 (MQ below (QI D (wM cI cB cZ bd mVil zmBad mFul mLen mSig mWay mLef mSpo mBeg mTok mVal mWor mNum mThe mRts mLns mOpn mTxt mAns mWys mSiz mNbs) A rv) args s 0 0 A) (F0 m 118 ls [])) → W p l e (rmN 1 25) s m args below meth c H locs 0 0 (MQ below (QI D (wM cI cB cZ bd mVil zmBad mFul mLen mSig mWay mLef mSpo mBeg mTok mVal mWor mNum mThe mRts mLns mOpn mTxt mAns mWys mSiz mNbs) A rv) args s 0 0 A) (F0 m 27 ls []) := by
      intro n
      induction n with
      | zero => intro v2_2 v3_3 v4_4 v5_5 ov2_2 ov3_3 ov4_4 ov5_5 H locs ls hf; exact (lp_0 hf).elim
      | succ n ih =>
        intro v2_2 v3_3 v4_4 v5_5 ov2_2 ov3_3 ov4_4 ov5_5 H locs ls hf hP hS hl hE
        replace hf := lp_s hf
        dsimp only [fX9_pair_L27] at hf
        refine lv_iload hx hb dX9_pair_27 (lv_at hl 5 rfl) ?_
        refine lv_aload_n hx hb dX9_pair_29 rfl (lv_at hl 0 rfl) ?_
        refine va_get (ci := 8) (v := .int mVil) (C := RX9) (T := TX9) (N := 22) hx hb hts hiX9 hown hK hP 0 rfl rfl 0 (by decide) (hts _ (List.mem_of_getElem? (i := 2) rfl)) (fun _ h9 => h9) rfl dX9_pair_30 ?_
        refine lv_icmp_ge (tgt := 118) hx hb dX9_pair_33 (by decide) (fun hc => ?_) (fun hc => ?_)
        · replace hf := (if_pos hc).symm.trans hf
          cases hf
          exact hE _ _ _ hP hS (lv_sub hl [0, 1, 2, 3, 4, 5] rfl)
        · replace hf := (if_neg hc).symm.trans hf
          refine lv_iload hx hb dX9_pair_36 (lv_at hl 5 rfl) ?_
          refine lv_iconst (v := (1 : Int32)) hx hb dX9_pair_38 (by decide) ?_
          refine lv_iadd hx hb dX9_pair_39 ?_
          refine lv_istore (lv' := [(6, .int (v5_5 + (1 : Int32))), (0, .ref (bd 0)), (1, .int p0), (2, .int v2_2), (3, .int v3_3), (4, .int v4_4), (5, .int v5_5)]) hx hb dX9_pair_40 hl (by decide) rfl (fun ls hl => ?_)
          have hL42 : ∀ (n : Nat) (v2_6 : Int32) (v3_7 : Int32) (v4_8 : Int32) (v6_9 : Int32) (ov2_6 : Int32) (ov3_7 : Int32) (ov4_8 : Int32) (ov6_9 : Int32) (H : Heap) (locs : List Loc) (ls : Array Slot), lp (fX9_pair_L42 mVil mRts mLns mOpn v5_5) n (v2_6, v3_7, v4_8, v6_9) = some (ov2_6, ov3_7, ov4_8, ov6_9) → va_P D vwCl (wM cI cB cZ bd mVil mBad mFul mLen mSig mWay mLef mSpo mBeg mTok mVal mWor mNum mThe mRts mLns mOpn mTxt mAns mWys mSiz mNbs) H → va_S A s.heap H locs → lv_has ls 7 [(0, .ref (bd 0)), (1, .int p0), (2, .int v2_6), (3, .int v3_7), (4, .int v4_8), (5, .int v5_5), (6, .int v6_9)] → (∀ (H : Heap) (locs : List Loc) (ls : Array Slot), va_P D vwCl (wM cI cB cZ bd mVil mBad mFul mLen mSig mWay mLef mSpo mBeg mTok mVal mWor mNum mThe mRts mLns mOpn mTxt mAns mWys mSiz mNbs) H → va_S A s.heap H locs → lv_has ls 7 [(0, .ref (bd 0)), (1, .int p0), (2, .int ov2_6), (3, .int ov3_7), (4, .int ov4_8), (5, .int v5_5), (6, .int ov6_9)] → W p l e (rmN 1 25) s m args below meth c H locs 0 0 (MQ below (QI D (wM cI cB cZ bd mVil zmBad mFul mLen mSig mWay mLef mSpo mBeg mTok mVal mWor mNum mThe mRts mLns mOpn mTxt mAns mWys mSiz mNbs) A rv) args s 0 0 A) (F0 m 112 ls [])) → W p l e (rmN 1 25) s m args below meth c H locs 0 0 (MQ below (QI D (wM cI cB cZ bd mVil zmBad mFul mLen mSig mWay mLef mSpo mBeg mTok mVal mWor mNum mThe mRts mLns mOpn mTxt mAns mWys mSiz mNbs) A rv) args s 0 0 A) (F0 m 42 ls []) := by
            intro n
            induction n with
            | zero => intro v2_6 v3_7 v4_8 v6_9 ov2_6 ov3_7 ov4_8 ov6_9 H locs ls hf; exact (lp_0 hf).elim
            | succ n ih =>
              intro v2_6 v3_7 v4_8 v6_9 ov2_6 ov3_7 ov4_8 ov6_9 H locs ls hf hP hS hl hE
              replace hf := lp_s hf
              dsimp only [fX9_pair_L42] at hf
              refine lv_iload hx hb dX9_pair_42 (lv_at hl 6 rfl) ?_
              refine lv_aload_n hx hb dX9_pair_44 rfl (lv_at hl 0 rfl) ?_
              refine va_get (ci := 8) (v := .int mVil) (C := RX9) (T := TX9) (N := 22) hx hb hts hiX9 hown hK hP 0 rfl rfl 0 (by decide) (hts _ (List.mem_of_getElem? (i := 2) rfl)) (fun _ h9 => h9) rfl dX9_pair_45 ?_
              refine lv_icmp_ge (tgt := 112) hx hb dX9_pair_48 (by decide) (fun hc => ?_) (fun hc => ?_)
              · replace hf := (if_pos hc).symm.trans hf
                cases hf
                exact hE _ _ _ hP hS (lv_sub hl [0, 1, 2, 3, 4, 5, 6] rfl)
              · replace hf := (if_neg hc).symm.trans hf
                refine lv_aload_n hx hb dX9_pair_51 rfl (lv_at hl 0 rfl) ?_
                refine va_get (ci := 8) (v := .ref (bd 3)) (C := RX9) (T := TX9) (N := 22) hx hb hts hiX9 hown hK hP 0 rfl rfl 3 (by decide) (hts _ (List.mem_of_getElem? (i := 3) rfl)) (fun _ h9 => h9) rfl dX9_pair_52 ?_
                refine lv_iload hx hb dX9_pair_55 (lv_at hl 5 rfl) ?_
                obtain ⟨hg, hf⟩ := og hf
                refine va_zald hx hb hK hP 3 2 rfl rfl (gI_in hg) dX9_pair_57 ?_
                have hJ106 : ∀ (v2_10 : Int32) (v3_11 : Int32) (v4_12 : Int32) (H : Heap) (locs : List Loc) (ls : Array Slot), fX9_pair_J106 v6_9 (lp (fX9_pair_L42 mVil mRts mLns mOpn v5_5) n) v2_10 v3_11 v4_12 = some (ov2_6, ov3_7, ov4_8, ov6_9) → va_P D vwCl (wM cI cB cZ bd mVil mBad mFul mLen mSig mWay mLef mSpo mBeg mTok mVal mWor mNum mThe mRts mLns mOpn mTxt mAns mWys mSiz mNbs) H → va_S A s.heap H locs → lv_has ls 7 [(0, .ref (bd 0)), (1, .int p0), (2, .int v2_10), (3, .int v3_11), (4, .int v4_12), (5, .int v5_5), (6, .int v6_9)] → W p l e (rmN 1 25) s m args below meth c H locs 0 0 (MQ below (QI D (wM cI cB cZ bd mVil zmBad mFul mLen mSig mWay mLef mSpo mBeg mTok mVal mWor mNum mThe mRts mLns mOpn mTxt mAns mWys mSiz mNbs) A rv) args s 0 0 A) (F0 m 106 ls []) := by
                  intro v2_10 v3_11 v4_12 H locs ls hf hP hS hl
                  unfold fX9_pair_J106 at hf
                  refine lv_iinc (v := (v6_9 + (1 : Int32))) (lv' := [(6, .int (v6_9 + (1 : Int32))), (0, .ref (bd 0)), (1, .int p0), (2, .int v2_10), (3, .int v3_11), (4, .int v4_12), (5, .int v5_5)]) hx hb dX9_pair_106 hl (k := 6) rfl rfl (by decide) rfl (fun ls hl => ?_)
                  refine lv_goto (tgt := 42) hx hb dX9_pair_109 (by decide) ?_
                  exact ih _ _ _ _ _ _ _ _ _ _ _ hf hP hS (lv_sub hl [1, 2, 3, 4, 5, 6, 0] rfl) hE
                refine lv_if_eq (tgt := 106) hx hb dX9_pair_58 (by decide) (fun hc => ?_) (fun hc => ?_)
                · replace hf := (if_pos hc).symm.trans hf
                  exact hJ106 _ _ _ _ _ _ hf hP hS (lv_sub hl [0, 1, 2, 3, 4, 5, 6] rfl)
                · replace hf := (if_neg hc).symm.trans hf
                  refine lv_aload_n hx hb dX9_pair_61 rfl (lv_at hl 0 rfl) ?_
                  refine va_get (ci := 8) (v := .ref (bd 3)) (C := RX9) (T := TX9) (N := 22) hx hb hts hiX9 hown hK hP 0 rfl rfl 3 (by decide) (hts _ (List.mem_of_getElem? (i := 3) rfl)) (fun _ h9 => h9) rfl dX9_pair_62 ?_
                  refine lv_iload hx hb dX9_pair_65 (lv_at hl 6 rfl) ?_
                  obtain ⟨hg, hf⟩ := og hf
                  refine va_zald hx hb hK hP 3 2 rfl rfl (gI_in hg) dX9_pair_67 ?_
                  refine lv_if_eq (tgt := 106) hx hb dX9_pair_68 (by decide) (fun hc => ?_) (fun hc => ?_)
                  · replace hf := (if_pos hc).symm.trans hf
                    exact hJ106 _ _ _ _ _ _ hf hP hS (lv_sub hl [0, 1, 2, 3, 4, 5, 6] rfl)
                  · replace hf := (if_neg hc).symm.trans hf
                    refine lv_iload hx hb dX9_pair_71 (lv_at hl 4 rfl) ?_
                    refine lv_iconst (v := (-1 : Int32)) hx hb dX9_pair_73 (by decide) ?_
                    have hJ90 : ∀  (H : Heap) (locs : List Loc) (ls : Array Slot), fX9_pair_J90 mRts mLns v5_5 v6_9 (lp (fX9_pair_L42 mVil mRts mLns mOpn v5_5) n) = some (ov2_6, ov3_7, ov4_8, ov6_9) → va_P D vwCl (wM cI cB cZ bd mVil mBad mFul mLen mSig mWay mLef mSpo mBeg mTok mVal mWor mNum mThe mRts mLns mOpn mTxt mAns mWys mSiz mNbs) H → va_S A s.heap H locs → lv_has ls 7 [(0, .ref (bd 0)), (1, .int p0), (2, .int v2_6), (3, .int v3_7), (4, .int v4_8), (5, .int v5_5), (6, .int v6_9)] → W p l e (rmN 1 25) s m args below meth c H locs 0 0 (MQ below (QI D (wM cI cB cZ bd mVil zmBad mFul mLen mSig mWay mLef mSpo mBeg mTok mVal mWor mNum mThe mRts mLns mOpn mTxt mAns mWys mSiz mNbs) A rv) args s 0 0 A) (F0 m 90 ls []) := by
                      intro  H locs ls hf hP hS hl
                      unfold fX9_pair_J90 at hf
                      refine lv_aload_n hx hb dX9_pair_90 rfl (lv_at hl 0 rfl) ?_
                      refine lv_iload hx hb dX9_pair_91 (lv_at hl 5 rfl) ?_
                      refine lv_iload hx hb dX9_pair_93 (lv_at hl 6 rfl) ?_
                      obtain ⟨r_13, hq, hf⟩ := ob hf
                      try dsimp only at hf
                      refine rcV 0 8 (As := [.int v5_5, .int v6_9]) (rest := []) ⟨hx, hb, hml, hown, hts⟩ (ctX9_farFrom l D cI cB cZ bd mVil mBad mFul mLen mSig mWay mLef mSpo mBeg mTok mVal mWor mNum mThe mRts mLns mOpn mTxt mAns mWys mSiz mNbs v5_5 v6_9 r_13 hq) (cwV 2 hts gX9_pair_X9_farFrom rfl rfl rfl (by decide +kernel) ⟨Nat.le_of_ble_eq_true rfl, Nat.le_of_ble_eq_true rfl⟩) hK hP rfl rfl rfl hl.1 rfl (Nat.le_of_ble_eq_true rfl) dX9_pair_95 ⟨Nat.zero_le _, Nat.zero_le _⟩ ?_
                      refine lv_istore (lv' := [(4, .int r_13), (0, .ref (bd 0)), (1, .int p0), (2, .int v2_6), (3, .int v3_7), (5, .int v5_5), (6, .int v6_9)]) hx hb dX9_pair_98 hl (by decide) rfl (fun ls hl => ?_)
                      refine lv_iload hx hb dX9_pair_100 (lv_at hl 5 rfl) ?_
                      refine lv_istore_n (lv' := [(2, .int v5_5), (4, .int r_13), (0, .ref (bd 0)), (1, .int p0), (3, .int v3_7), (5, .int v5_5), (6, .int v6_9)]) hx hb dX9_pair_102 rfl hl (by decide) rfl (fun ls hl => ?_)
                      refine lv_iload hx hb dX9_pair_103 (lv_at hl 6 rfl) ?_
                      refine lv_istore_n (lv' := [(3, .int v6_9), (2, .int v5_5), (4, .int r_13), (0, .ref (bd 0)), (1, .int p0), (5, .int v5_5), (6, .int v6_9)]) hx hb dX9_pair_105 rfl hl (by decide) rfl (fun ls hl => ?_)
                      exact hJ106 _ _ _ _ _ _ hf hP hS (lv_sub hl [3, 4, 1, 0, 2, 5, 6] rfl)
                    refine lv_icmp_eq (tgt := 90) hx hb dX9_pair_74 (by decide) (fun hc => ?_) (fun hc => ?_)
                    · replace hf := (if_pos hc).symm.trans hf
                      exact hJ90  _ _ _ hf hP hS (lv_sub hl [0, 1, 2, 3, 4, 5, 6] rfl)
                    · replace hf := (if_neg hc).symm.trans hf
                      refine lv_aload_n hx hb dX9_pair_77 rfl (lv_at hl 0 rfl) ?_
                      refine lv_iload hx hb dX9_pair_78 (lv_at hl 5 rfl) ?_
                      refine lv_iload hx hb dX9_pair_80 (lv_at hl 6 rfl) ?_
                      obtain ⟨r_14, hq, hf⟩ := ob hf
                      try dsimp only at hf
                      refine rcV 0 8 (As := [.int v5_5, .int v6_9]) (rest := []) ⟨hx, hb, hml, hown, hts⟩ (ctX9_farFrom l D cI cB cZ bd mVil mBad mFul mLen mSig mWay mLef mSpo mBeg mTok mVal mWor mNum mThe mRts mLns mOpn mTxt mAns mWys mSiz mNbs v5_5 v6_9 r_14 hq) (cwV 2 hts gX9_pair_X9_farFrom rfl rfl rfl (by decide +kernel) ⟨Nat.le_of_ble_eq_true rfl, Nat.le_of_ble_eq_true rfl⟩) hK hP rfl rfl rfl hl.1 rfl (Nat.le_of_ble_eq_true rfl) dX9_pair_82 ⟨Nat.zero_le _, Nat.zero_le _⟩ ?_
                      refine lv_iload hx hb dX9_pair_85 (lv_at hl 4 rfl) ?_
                      refine lv_icmp_ge (tgt := 106) hx hb dX9_pair_87 (by decide) (fun hc => ?_) (fun hc => ?_)
                      · replace hf := (if_pos hc).symm.trans hf
                        exact hJ106 _ _ _ _ _ _ hf hP hS (lv_sub hl [0, 1, 2, 3, 4, 5, 6] rfl)
                      · replace hf := (if_neg hc).symm.trans hf
                        exact hJ90  _ _ _ hf hP hS (lv_sub hl [0, 1, 2, 3, 4, 5, 6] rfl)
          obtain ⟨⟨ov2_6, ov3_7, ov4_8, ov6_9⟩, hq, hf⟩ := ob hf
          try dsimp only at hf
          refine hL42 FU _ _ _ _ ov2_6 ov3_7 ov4_8 ov6_9 _ _ ls hq hP hS (lv_sub hl [1, 2, 3, 4, 5, 6, 0] rfl) (fun H locs ls hP hS hl => ?_)
          refine lv_iinc (v := (v5_5 + (1 : Int32))) (lv' := [(5, .int (v5_5 + (1 : Int32))), (0, .ref (bd 0)), (1, .int p0), (2, .int ov2_6), (3, .int ov3_7), (4, .int ov4_8), (6, .int ov6_9)]) hx hb dX9_pair_112 hl (k := 5) rfl rfl (by decide) rfl (fun ls hl => ?_)
          refine lv_goto (tgt := 27) hx hb dX9_pair_115 (by decide) ?_
          exact ih _ _ _ _ _ _ _ _ _ _ _ hf hP hS (lv_sub hl [1, 2, 3, 4, 5, 0] rfl) hE
    obtain ⟨⟨ov2_2, ov3_3, ov4_4, ov5_5⟩, hq, hf⟩ := ob hf
    try dsimp only at hf
    refine hL27 FU _ _ _ _ ov2_2 ov3_3 ov4_4 ov5_5 _ _ ls hq hP hS (lv_sub hl [4, 5, 3, 2, 1, 0] rfl) (fun H locs ls hP hS hl => ?_)
    refine lv_iload_n hx hb dX9_pair_118 rfl (lv_at hl 1 rfl) ?_
    refine lv_if_ne (tgt := 127) hx hb dX9_pair_119 (by decide) (fun hc => ?_) (fun hc => ?_)
    · replace hf := (if_neg hc).symm.trans hf
      refine lv_iload_n hx hb dX9_pair_127 rfl (lv_at hl 1 rfl) ?_
      refine lv_iconst (v := (1 : Int32)) hx hb dX9_pair_128 (by decide) ?_
      refine lv_icmp_ne (tgt := 136) hx hb dX9_pair_129 (by decide) (fun hc => ?_) (fun hc => ?_)
      · replace hf := (if_neg hc).symm.trans hf
        refine lv_iload_n hx hb dX9_pair_136 rfl (lv_at hl 3 rfl) ?_
        obtain ⟨e0, hz1⟩ := Prod.mk.inj (Option.some.inj hf)
        subst e0
        subst hz1
        exact rm_i hx hb hr hlk hP hS dX9_pair_137
      · replace hf := (if_pos hc).symm.trans hf
        refine lv_iload_n hx hb dX9_pair_132 rfl (lv_at hl 2 rfl) ?_
        refine lv_goto (tgt := 137) hx hb dX9_pair_133 (by decide) ?_
        obtain ⟨e0, hz1⟩ := Prod.mk.inj (Option.some.inj hf)
        subst e0
        subst hz1
        exact rm_i hx hb hr hlk hP hS dX9_pair_137
    · replace hf := (if_pos hc).symm.trans hf
      refine lv_iload hx hb dX9_pair_122 (lv_at hl 4 rfl) ?_
      refine lv_goto (tgt := 137) hx hb dX9_pair_124 (by decide) ?_
      obtain ⟨e0, hz1⟩ := Prod.mk.inj (Option.some.inj hf)
      subst e0
      subst hz1
      exact rm_i hx hb hr hlk hP hS dX9_pair_137
  · replace hf := (if_pos hc).symm.trans hf
    refine lv_aload_n hx hb dX9_pair_12 rfl (lv_at hl 0 rfl) ?_
    obtain ⟨⟨r_15, qmBad_16⟩, hq, hf⟩ := ob hf
    try dsimp only at hf
    refine mcVi 0 8 (As := []) (rest := []) ⟨hx, hb, hml, hown, hts⟩ (ctX9_refuse l D cI cB cZ bd A hAD mVil mBad mFul mLen mSig mWay mLef mSpo mBeg mTok mVal mWor mNum mThe mRts mLns mOpn mTxt mAns mWys mSiz mNbs  r_15 qmBad_16 hq) (cwV 0 hts gX9_pair_X9_refuse rfl rfl rfl (by decide +kernel) ⟨Nat.le_of_ble_eq_true rfl, Nat.le_of_ble_eq_true rfl⟩) hK hP hS rfl rfl rfl hl.1 rfl (Nat.le_of_ble_eq_true rfl) dX9_pair_13 ⟨Nat.zero_le _, Nat.zero_le _⟩ (fun H locs hP hS => ?_)
    obtain ⟨e0, hz1⟩ := Prod.mk.inj (Option.some.inj hf)
    subst e0
    subst hz1
    exact rm_i hx hb hr hlk hP hS dX9_pair_16

def fX9_type (mBad : Int32) (mFul : Int32) (mLen : Int32) (mTxt : Nat → Int32) (p0 : Int32) : Option (Int32 × Int32 × Int32 × Int32 × (Nat → Int32)) :=
  ((fX9_in (p0).toInt64 (0 : Int64) (127 : Int64)).bind fun r_1 => (if r_1 = 0 then ((fX9_refuse mBad).bind fun (r_4, qmBad_5) => (some (r_4, qmBad_5, mFul, mLen, mTxt))) else (if mLen = (120 : Int32) then ((fX9_refuseFull mFul).bind fun (r_2, qmFul_3) => (some (r_2, mBad, qmFul_3, mLen, mTxt))) else (if gI mLen 120 then (some ((mLen + (1 : Int32)), mBad, mFul, (mLen + (1 : Int32)), (upd mTxt (mLen).toNatClampNeg p0))) else none))))
set_option maxRecDepth 100000 in
set_option maxHeartbeats 4000000 in
theorem ctX9_type (l : Launch) (D : va_G) (cI cB cZ : ClassId) (bd : Nat → Nat) (A : Nat → Prop) (hAD : AD A bd 9) (mVil mBad mFul mLen mSig mWay mLef mSpo mBeg mTok mVal mWor mNum mThe : Int32) (mRts mLns mOpn mTxt mAns mWys mSiz mNbs : Nat → Int32) (p0 : Int32) (rv : Int32) (zmBad : Int32) (zmFul : Int32) (zmLen : Int32) (zmTxt : Nat → Int32) (hf : fX9_type mBad mFul mLen mTxt p0 = some (rv, zmBad, zmFul, zmLen, zmTxt)) : Met l yX9_type wsX9_type (rmN 1 25) (PR D (tyL cI cB cZ) (wM cI cB cZ bd mVil mBad mFul mLen mSig mWay mLef mSpo mBeg mTok mVal mWor mNum mThe mRts mLns mOpn mTxt mAns mWys mSiz mNbs) [.ref (bd 0), .int p0]) (QI D (wM cI cB cZ bd mVil zmBad zmFul zmLen mSig mWay mLef mSpo mBeg mTok mVal mWor mNum mThe mRts mLns mOpn zmTxt mAns mWys mSiz mNbs) A rv) 0 0 A := by
  refine mk_met cX9_type 2 (some .int) (by decide) rfl (Nat.le_of_ble_eq_true rfl) ?_
  intro p e s m args below meth c ls hx hb hr hlk hml hown hts hPK hl
  obtain ⟨hP, hK⟩ := hPK
  replace hl : lv_has ls 2 [(0, .ref (bd 0)), (1, .int p0)] := hl
  replace hown : s.vm.findClass RX9 = some m.cls := hown
  have hiX9 : ∀ w ∈ wsX90, w ∈ wsX9_type := fun w h => List.mem_cons_of_mem _ (List.mem_append_right _ h)
  have hS : va_S A s.heap s.heap [] := va_S.rf
  unfold fX9_type at hf
  refine lv_iload_n hx hb dX9_type_0 rfl (lv_at hl 1 rfl) ?_
  refine lv_i2l (v := (p0).toInt64) hx hb dX9_type_1 rfl ?_
  refine lv_lconst (v := (0 : Int64)) hx hb dX9_type_2 (by decide) ?_
  refine lv_ldc2 (v := (127 : Int64)) hx hb hown (hts _ (List.mem_of_getElem? (i := 1) rfl)) dX9_type_3 ?_
  obtain ⟨r_1, hq, hf⟩ := ob hf
  try dsimp only at hf
  refine rcS (As := [.long (p0).toInt64, .long (0 : Int64), .long (127 : Int64)]) (rest := []) ⟨hx, hb, hml, hown, hts⟩ (ctX9_in l (p0).toInt64 (0 : Int64) (127 : Int64) r_1 hq) (va_cwS 3 hts gX9_type_X9_in rfl rfl rfl (by decide +kernel) ⟨Nat.le_of_ble_eq_true rfl, Nat.le_of_ble_eq_true rfl⟩) rfl hl.1 rfl (Nat.le_of_ble_eq_true rfl) dX9_type_6 ⟨Nat.zero_le _, Nat.zero_le _⟩ ?_
  refine lv_if_ne (tgt := 17) hx hb dX9_type_9 (by decide) (fun hc => ?_) (fun hc => ?_)
  · replace hf := (if_neg hc).symm.trans hf
    refine lv_aload_n hx hb dX9_type_17 rfl (lv_at hl 0 rfl) ?_
    refine va_get (ci := 8) (v := .int mLen) (C := RX9) (T := TX9) (N := 22) hx hb hts hiX9 hown hK hP 0 rfl rfl 6 (by decide) (hts _ (List.mem_of_getElem? (i := 2) rfl)) (fun _ h9 => h9) rfl dX9_type_18 ?_
    refine lv_bipush (v := (120 : Int32)) hx hb dX9_type_21 (by decide) ?_
    refine lv_icmp_ne (tgt := 31) hx hb dX9_type_23 (by decide) (fun hc => ?_) (fun hc => ?_)
    · replace hf := (if_neg hc).symm.trans hf
      refine lv_aload_n hx hb dX9_type_31 rfl (lv_at hl 0 rfl) ?_
      refine va_get (ci := 8) (v := .ref (bd 4)) (C := RX9) (T := TX9) (N := 22) hx hb hts hiX9 hown hK hP 0 rfl rfl 7 (by decide) (hts _ (List.mem_of_getElem? (i := 3) rfl)) (fun _ h9 => h9) rfl dX9_type_32 ?_
      refine lv_aload_n hx hb dX9_type_35 rfl (lv_at hl 0 rfl) ?_
      refine va_get (ci := 8) (v := .int mLen) (C := RX9) (T := TX9) (N := 22) hx hb hts hiX9 hown hK hP 0 rfl rfl 6 (by decide) (hts _ (List.mem_of_getElem? (i := 2) rfl)) (fun _ h9 => h9) rfl dX9_type_36 ?_
      refine lv_iload_n hx hb dX9_type_39 rfl (lv_at hl 1 rfl) ?_
      obtain ⟨hg, hf⟩ := og hf
      refine va_iast hx hb hK hP (wM_D hAD) hS 4 0 rfl rfl (gI_in hg) dX9_type_40 (fun H locs hP _ hS => ?_)
      have hP : va_P D vwCl (wM cI cB cZ bd mVil mBad mFul mLen mSig mWay mLef mSpo mBeg mTok mVal mWor mNum mThe mRts mLns mOpn (upd mTxt (mLen).toNatClampNeg p0) mAns mWys mSiz mNbs) H := hP
      refine lv_aload_n hx hb dX9_type_41 rfl (lv_at hl 0 rfl) ?_
      refine lv_dup hx hb dX9_type_42 rfl ?_
      refine va_get (ci := 8) (v := .int mLen) (C := RX9) (T := TX9) (N := 22) hx hb hts hiX9 hown hK hP 0 rfl rfl 6 (by decide) (hts _ (List.mem_of_getElem? (i := 2) rfl)) (fun _ h9 => h9) rfl dX9_type_43 ?_
      refine lv_iconst (v := (1 : Int32)) hx hb dX9_type_46 (by decide) ?_
      refine lv_iadd hx hb dX9_type_47 ?_
      refine va_put (ci := 8) (v := .int (mLen + (1 : Int32))) (ty := .int) (C := RX9) (T := TX9) (N := 22) hx hb hts hiX9 tyX9 tyX9_ok nmX9 hown hK hP (wM_D hAD) hS 0 rfl rfl 6 (by decide) (hts _ (List.mem_of_getElem? (i := 2) rfl)) (fun _ h9 => h9) rfl (tyX9_ok 6 (by decide)) rfl rfl (Nat.le_of_ble_eq_true rfl) dX9_type_48 (fun H locs hP _ hS => ?_)
      have hP : va_P D vwCl (wM cI cB cZ bd mVil mBad mFul (mLen + (1 : Int32)) mSig mWay mLef mSpo mBeg mTok mVal mWor mNum mThe mRts mLns mOpn (upd mTxt (mLen).toNatClampNeg p0) mAns mWys mSiz mNbs) H := hP
      refine lv_aload_n hx hb dX9_type_51 rfl (lv_at hl 0 rfl) ?_
      refine va_get (ci := 8) (v := .int (mLen + (1 : Int32))) (C := RX9) (T := TX9) (N := 22) hx hb hts hiX9 hown hK hP 0 rfl rfl 6 (by decide) (hts _ (List.mem_of_getElem? (i := 2) rfl)) (fun _ h9 => h9) rfl dX9_type_52 ?_
      obtain ⟨e0, hz1⟩ := Prod.mk.inj (Option.some.inj hf)
      obtain ⟨e1, hz2⟩ := Prod.mk.inj hz1
      obtain ⟨e2, hz3⟩ := Prod.mk.inj hz2
      obtain ⟨e3, hz4⟩ := Prod.mk.inj hz3
      subst e0
      subst e1
      subst e2
      subst e3
      subst hz4
      exact rm_i hx hb hr hlk hP hS dX9_type_55
    · replace hf := (if_pos hc).symm.trans hf
      refine lv_aload_n hx hb dX9_type_26 rfl (lv_at hl 0 rfl) ?_
      obtain ⟨⟨r_2, qmFul_3⟩, hq, hf⟩ := ob hf
      try dsimp only at hf
      refine mcVi 0 8 (As := []) (rest := []) ⟨hx, hb, hml, hown, hts⟩ (ctX9_refuseFull l D cI cB cZ bd A hAD mVil mBad mFul mLen mSig mWay mLef mSpo mBeg mTok mVal mWor mNum mThe mRts mLns mOpn mTxt mAns mWys mSiz mNbs  r_2 qmFul_3 hq) (cwV 0 hts gX9_type_X9_refuseFull rfl rfl rfl (by decide +kernel) ⟨Nat.le_of_ble_eq_true rfl, Nat.le_of_ble_eq_true rfl⟩) hK hP hS rfl rfl rfl hl.1 rfl (Nat.le_of_ble_eq_true rfl) dX9_type_27 ⟨Nat.zero_le _, Nat.zero_le _⟩ (fun H locs hP hS => ?_)
      obtain ⟨e0, hz1⟩ := Prod.mk.inj (Option.some.inj hf)
      obtain ⟨e1, hz2⟩ := Prod.mk.inj hz1
      obtain ⟨e2, hz3⟩ := Prod.mk.inj hz2
      obtain ⟨e3, hz4⟩ := Prod.mk.inj hz3
      subst e0
      subst e1
      subst e2
      subst e3
      subst hz4
      exact rm_i hx hb hr hlk hP hS dX9_type_30
  · replace hf := (if_pos hc).symm.trans hf
    refine lv_aload_n hx hb dX9_type_12 rfl (lv_at hl 0 rfl) ?_
    obtain ⟨⟨r_4, qmBad_5⟩, hq, hf⟩ := ob hf
    try dsimp only at hf
    refine mcVi 0 8 (As := []) (rest := []) ⟨hx, hb, hml, hown, hts⟩ (ctX9_refuse l D cI cB cZ bd A hAD mVil mBad mFul mLen mSig mWay mLef mSpo mBeg mTok mVal mWor mNum mThe mRts mLns mOpn mTxt mAns mWys mSiz mNbs  r_4 qmBad_5 hq) (cwV 0 hts gX9_type_X9_refuse rfl rfl rfl (by decide +kernel) ⟨Nat.le_of_ble_eq_true rfl, Nat.le_of_ble_eq_true rfl⟩) hK hP hS rfl rfl rfl hl.1 rfl (Nat.le_of_ble_eq_true rfl) dX9_type_13 ⟨Nat.zero_le _, Nat.zero_le _⟩ (fun H locs hP hS => ?_)
    obtain ⟨e0, hz1⟩ := Prod.mk.inj (Option.some.inj hf)
    obtain ⟨e1, hz2⟩ := Prod.mk.inj hz1
    obtain ⟨e2, hz3⟩ := Prod.mk.inj hz2
    obtain ⟨e3, hz4⟩ := Prod.mk.inj hz3
    subst e0
    subst e1
    subst e2
    subst e3
    subst hz4
    exact rm_i hx hb hr hlk hP hS dX9_type_16

def fX9_clear (mLen : Int32)  : Option (Int32 × Int32) :=
  (some (mLen, (0 : Int32)))
set_option maxRecDepth 100000 in
set_option maxHeartbeats 4000000 in
theorem ctX9_clear (l : Launch) (D : va_G) (cI cB cZ : ClassId) (bd : Nat → Nat) (A : Nat → Prop) (hAD : AD A bd 9) (mVil mBad mFul mLen mSig mWay mLef mSpo mBeg mTok mVal mWor mNum mThe : Int32) (mRts mLns mOpn mTxt mAns mWys mSiz mNbs : Nat → Int32)  (rv : Int32) (zmLen : Int32) (hf : fX9_clear mLen = some (rv, zmLen)) : Met l yX9_clear wsX9_clear (rmN 0 0) (PR D (tyL cI cB cZ) (wM cI cB cZ bd mVil mBad mFul mLen mSig mWay mLef mSpo mBeg mTok mVal mWor mNum mThe mRts mLns mOpn mTxt mAns mWys mSiz mNbs) [.ref (bd 0)]) (QI D (wM cI cB cZ bd mVil mBad mFul zmLen mSig mWay mLef mSpo mBeg mTok mVal mWor mNum mThe mRts mLns mOpn mTxt mAns mWys mSiz mNbs) A rv) 0 0 A := by
  refine mk_met cX9_clear 2 (some .int) (by decide) rfl (Nat.le_of_ble_eq_true rfl) ?_
  intro p e s m args below meth c ls hx hb hr hlk hml hown hts hPK hl
  obtain ⟨hP, hK⟩ := hPK
  replace hl : lv_has ls 2 [(0, .ref (bd 0))] := hl
  replace hown : s.vm.findClass RX9 = some m.cls := hown
  have hiX9 : ∀ w ∈ wsX90, w ∈ wsX9_clear := fun w h => List.mem_cons_of_mem _ (List.mem_append_right _ h)
  have hS : va_S A s.heap s.heap [] := va_S.rf
  unfold fX9_clear at hf
  refine lv_aload_n hx hb dX9_clear_0 rfl (lv_at hl 0 rfl) ?_
  refine va_get (ci := 8) (v := .int mLen) (C := RX9) (T := TX9) (N := 22) hx hb hts hiX9 hown hK hP 0 rfl rfl 6 (by decide) (hts _ (List.mem_of_getElem? (i := 1) rfl)) (fun _ h9 => h9) rfl dX9_clear_1 ?_
  refine lv_istore_n (lv' := [(1, .int mLen), (0, .ref (bd 0))]) hx hb dX9_clear_4 rfl hl (by decide) rfl (fun ls hl => ?_)
  refine lv_aload_n hx hb dX9_clear_5 rfl (lv_at hl 1 rfl) ?_
  refine lv_iconst (v := (0 : Int32)) hx hb dX9_clear_6 (by decide) ?_
  refine va_put (ci := 8) (v := .int (0 : Int32)) (ty := .int) (C := RX9) (T := TX9) (N := 22) hx hb hts hiX9 tyX9 tyX9_ok nmX9 hown hK hP (wM_D hAD) hS 0 rfl rfl 6 (by decide) (hts _ (List.mem_of_getElem? (i := 1) rfl)) (fun _ h9 => h9) rfl (tyX9_ok 6 (by decide)) rfl rfl (Nat.le_of_ble_eq_true rfl) dX9_clear_7 (fun H locs hP _ hS => ?_)
  have hP : va_P D vwCl (wM cI cB cZ bd mVil mBad mFul (0 : Int32) mSig mWay mLef mSpo mBeg mTok mVal mWor mNum mThe mRts mLns mOpn mTxt mAns mWys mSiz mNbs) H := hP
  refine lv_iload_n hx hb dX9_clear_10 rfl (lv_at hl 0 rfl) ?_
  obtain ⟨e0, hz1⟩ := Prod.mk.inj (Option.some.inj hf)
  subst e0
  subst hz1
  exact rm_i hx hb hr hlk hP hS dX9_clear_11

def fX9_isFigure  (p0 : Int32) : Option (Int32) :=
  ((fX9_in (p0).toInt64 (48 : Int64) (57 : Int64)).bind fun r_1 => (some r_1))
set_option maxRecDepth 100000 in
set_option maxHeartbeats 4000000 in
theorem ctX9_isFigure (l : Launch) (p0 : Int32) (rv : Int32) (hf : fX9_isFigure p0 = some rv) : Met l yX9_isFigure wsX9_isFigure (rmN 1 25) (PS [.int p0]) (SI rv) 0 0 (fun _ => False) := by
  refine mk_met cX9_isFigure 1 (some .boolean) (by decide) rfl (Nat.le_of_ble_eq_true rfl) ?_
  intro p e s m args below meth c ls hx hb hr hlk hml hown hts _ hl
  replace hl : lv_has ls 1 [(0, .int p0)] := hl
  replace hown : s.vm.findClass RX9 = some m.cls := hown
  unfold fX9_isFigure at hf
  refine lv_iload_n hx hb dX9_isFigure_0 rfl (lv_at hl 0 rfl) ?_
  refine lv_i2l (v := (p0).toInt64) hx hb dX9_isFigure_1 rfl ?_
  refine lv_ldc2 (v := (48 : Int64)) hx hb hown (hts _ (List.mem_of_getElem? (i := 1) rfl)) dX9_isFigure_2 ?_
  refine lv_ldc2 (v := (57 : Int64)) hx hb hown (hts _ (List.mem_of_getElem? (i := 2) rfl)) dX9_isFigure_5 ?_
  obtain ⟨r_1, hq, hf⟩ := ob hf
  try dsimp only at hf
  refine rcS (As := [.long (p0).toInt64, .long (48 : Int64), .long (57 : Int64)]) (rest := []) ⟨hx, hb, hml, hown, hts⟩ (ctX9_in l (p0).toInt64 (48 : Int64) (57 : Int64) r_1 hq) (va_cwS 3 hts gX9_isFigure_X9_in rfl rfl rfl (by decide +kernel) ⟨Nat.le_of_ble_eq_true rfl, Nat.le_of_ble_eq_true rfl⟩) rfl hl.1 rfl (Nat.le_of_ble_eq_true rfl) dX9_isFigure_8 ⟨Nat.zero_le _, Nat.zero_le _⟩ ?_
  exact re_z hx hb hr hlk (nzX9_in hq) dX9_isFigure_11 hf

def fX9_isLetter  (p0 : Int32) : Option (Int32) :=
  ((fX9_in (p0).toInt64 (97 : Int64) (122 : Int64)).bind fun r_1 => (some r_1))
set_option maxRecDepth 100000 in
set_option maxHeartbeats 4000000 in
theorem ctX9_isLetter (l : Launch) (p0 : Int32) (rv : Int32) (hf : fX9_isLetter p0 = some rv) : Met l yX9_isLetter wsX9_isLetter (rmN 1 25) (PS [.int p0]) (SI rv) 0 0 (fun _ => False) := by
  refine mk_met cX9_isLetter 1 (some .boolean) (by decide) rfl (Nat.le_of_ble_eq_true rfl) ?_
  intro p e s m args below meth c ls hx hb hr hlk hml hown hts _ hl
  replace hl : lv_has ls 1 [(0, .int p0)] := hl
  replace hown : s.vm.findClass RX9 = some m.cls := hown
  unfold fX9_isLetter at hf
  refine lv_iload_n hx hb dX9_isLetter_0 rfl (lv_at hl 0 rfl) ?_
  refine lv_i2l (v := (p0).toInt64) hx hb dX9_isLetter_1 rfl ?_
  refine lv_ldc2 (v := (97 : Int64)) hx hb hown (hts _ (List.mem_of_getElem? (i := 1) rfl)) dX9_isLetter_2 ?_
  refine lv_ldc2 (v := (122 : Int64)) hx hb hown (hts _ (List.mem_of_getElem? (i := 2) rfl)) dX9_isLetter_5 ?_
  obtain ⟨r_1, hq, hf⟩ := ob hf
  try dsimp only at hf
  refine rcS (As := [.long (p0).toInt64, .long (97 : Int64), .long (122 : Int64)]) (rest := []) ⟨hx, hb, hml, hown, hts⟩ (ctX9_in l (p0).toInt64 (97 : Int64) (122 : Int64) r_1 hq) (va_cwS 3 hts gX9_isLetter_X9_in rfl rfl rfl (by decide +kernel) ⟨Nat.le_of_ble_eq_true rfl, Nat.le_of_ble_eq_true rfl⟩) rfl hl.1 rfl (Nat.le_of_ble_eq_true rfl) dX9_isLetter_8 ⟨Nat.zero_le _, Nat.zero_le _⟩ ?_
  exact re_z hx hb hr hlk (nzX9_in hq) dX9_isLetter_11 hf

def fX9_next_L0 (mLen : Int32) (mTxt : Nat → Int32) (kk : (Int32) → Option (Int32)) (wmSpo_1 : Int32) : Option (Int32) :=
  (if mLen ≤ wmSpo_1 then (some wmSpo_1) else (if gI wmSpo_1 120 then (if (mTxt (wmSpo_1).toNatClampNeg) = (32 : Int32) then (kk (wmSpo_1 + (1 : Int32))) else (some wmSpo_1)) else none))
def fX9_next_J281 (owmSpo_1 : Int32) (t_4 : Int32) : Option (Int32 × Int32 × Int32 × Int32) :=
  (some ((owmSpo_1 + (1 : Int32)), owmSpo_1, t_4, (0 : Int32)))
def fX9_next_J244 (v2_5 : Int32) (wmSpo_6 : Int32) (kk : (Int32 × Int32 × Int32) → Option (Int32 × Int32 × Int32)) (t_9 : Int32) : Option (Int32 × Int32 × Int32) :=
  (kk ((v2_5 + (1 : Int32)), (wmSpo_6 + (1 : Int32)), t_9))
def fX9_next_L186 (mLen : Int32) (mTxt : Nat → Int32) (kk : (Int32 × Int32 × Int32) → Option (Int32 × Int32 × Int32)) (ww : Int32 × Int32 × Int32) : Option (Int32 × Int32 × Int32) :=
  match ww with
  | (v2_5, wmSpo_6, wmVal_7) => (if mLen ≤ wmSpo_6 then (some (v2_5, wmSpo_6, wmVal_7)) else (if gI wmSpo_6 120 then ((fX9_isFigure (mTxt (wmSpo_6).toNatClampNeg)).bind fun r_8 => (if r_8 = 0 then (some (v2_5, wmSpo_6, wmVal_7)) else (if (2 : Int32) ≤ v2_5 then (fX9_next_J244 v2_5 wmSpo_6 kk (1000 : Int32)) else (if gI wmSpo_6 120 then (fX9_next_J244 v2_5 wmSpo_6 kk ((((10 : Int32) * wmVal_7) + (mTxt (wmSpo_6).toNatClampNeg)) - (48 : Int32))) else none)))) else none))
def fX9_next_J144 (v2_10 : Int32) (wmSpo_11 : Int32) (kk : (Int32 × Int32 × Int32) → Option (Int32 × Int32 × Int32)) (t_14 : Int32) : Option (Int32 × Int32 × Int32) :=
  (kk ((v2_10 + (1 : Int32)), (wmSpo_11 + (1 : Int32)), t_14))
def fX9_next_L87 (mLen : Int32) (mTxt : Nat → Int32) (kk : (Int32 × Int32 × Int32) → Option (Int32 × Int32 × Int32)) (ww : Int32 × Int32 × Int32) : Option (Int32 × Int32 × Int32) :=
  match ww with
  | (v2_10, wmSpo_11, wmVal_12) => (if mLen ≤ wmSpo_11 then (some (v2_10, wmSpo_11, wmVal_12)) else (if gI wmSpo_11 120 then ((fX9_isLetter (mTxt (wmSpo_11).toNatClampNeg)).bind fun r_13 => (if r_13 = 0 then (some (v2_10, wmSpo_11, wmVal_12)) else (if (6 : Int32) ≤ v2_10 then (fX9_next_J144 v2_10 wmSpo_11 kk (0 : Int32)) else (if gI wmSpo_11 120 then (fX9_next_J144 v2_10 wmSpo_11 kk ((((32 : Int32) * wmVal_12) + (mTxt (wmSpo_11).toNatClampNeg)) - (96 : Int32))) else none)))) else none))
def fX9_next_J175 (owmSpo_1 : Int32) (owmSpo_11 : Int32) (owmVal_12 : Int32) (t_15 : Int32) : Option (Int32 × Int32 × Int32 × Int32) :=
  (some (owmSpo_11, owmSpo_1, t_15, owmVal_12))
def fX9_next (mLen : Int32) (mSpo : Int32) (mBeg : Int32) (mTok : Int32) (mVal : Int32) (mTxt : Nat → Int32)  : Option (Int32 × Int32 × Int32 × Int32) :=
  ((lp (fX9_next_L0 mLen mTxt) FU mSpo).bind fun owmSpo_1 => (if owmSpo_1 = mLen then (some (owmSpo_1, owmSpo_1, (0 : Int32), (0 : Int32))) else (if gI owmSpo_1 120 then ((fX9_isLetter (mTxt (owmSpo_1).toNatClampNeg)).bind fun r_2 => (if r_2 = 0 then ((fX9_isFigure (mTxt (owmSpo_1).toNatClampNeg)).bind fun r_3 => (if r_3 = 0 then (if (mTxt (owmSpo_1).toNatClampNeg) = (59 : Int32) then (fX9_next_J281 owmSpo_1 (3 : Int32)) else (fX9_next_J281 owmSpo_1 (4 : Int32))) else ((lp (fX9_next_L186 mLen mTxt) FU ((0 : Int32), owmSpo_1, (0 : Int32))).bind fun (ov2_5, owmSpo_6, owmVal_7) => (some (owmSpo_6, owmSpo_1, (2 : Int32), owmVal_7))))) else ((lp (fX9_next_L87 mLen mTxt) FU ((0 : Int32), owmSpo_1, (0 : Int32))).bind fun (ov2_10, owmSpo_11, owmVal_12) => (if (7 : Int32) ≤ ov2_10 then (fX9_next_J175 owmSpo_1 owmSpo_11 owmVal_12 (4 : Int32)) else (fX9_next_J175 owmSpo_1 owmSpo_11 owmVal_12 (1 : Int32)))))) else none)))
set_option maxRecDepth 100000 in
set_option maxHeartbeats 4000000 in
theorem ctX9_next (l : Launch) (D : va_G) (cI cB cZ : ClassId) (bd : Nat → Nat) (A : Nat → Prop) (hAD : AD A bd 9) (mVil mBad mFul mLen mSig mWay mLef mSpo mBeg mTok mVal mWor mNum mThe : Int32) (mRts mLns mOpn mTxt mAns mWys mSiz mNbs : Nat → Int32)  (zmSpo : Int32) (zmBeg : Int32) (zmTok : Int32) (zmVal : Int32) (hf : fX9_next mLen mSpo mBeg mTok mVal mTxt = some (zmSpo, zmBeg, zmTok, zmVal)) : Met l yX9_next wsX9_next (rmN 2 45) (PR D (tyL cI cB cZ) (wM cI cB cZ bd mVil mBad mFul mLen mSig mWay mLef mSpo mBeg mTok mVal mWor mNum mThe mRts mLns mOpn mTxt mAns mWys mSiz mNbs) [.ref (bd 0)]) (QV D (wM cI cB cZ bd mVil mBad mFul mLen mSig mWay mLef zmSpo zmBeg zmTok zmVal mWor mNum mThe mRts mLns mOpn mTxt mAns mWys mSiz mNbs) A) 0 0 A := by
  refine mk_met cX9_next 3 none (by decide) rfl (Nat.le_of_ble_eq_true rfl) ?_
  intro p e s m args below meth c ls hx hb hr hlk hml hown hts hPK hl
  obtain ⟨hP, hK⟩ := hPK
  replace hl : lv_has ls 3 [(0, .ref (bd 0))] := hl
  replace hown : s.vm.findClass RX9 = some m.cls := hown
  have hiX9 : ∀ w ∈ wsX90, w ∈ wsX9_next := fun w h => List.mem_cons_of_mem _ (List.mem_append_right _ h)
  have hS : va_S A s.heap s.heap [] := va_S.rf
  unfold fX9_next at hf
  have hL0 : ∀ (n : Nat) (wmSpo_1 : Int32) (owmSpo_1 : Int32) (H : Heap) (locs : List Loc) (ls : Array Slot), lp (fX9_next_L0 mLen mTxt) n wmSpo_1 = some owmSpo_1 → va_P D vwCl (wM cI cB cZ bd mVil mBad mFul mLen mSig mWay mLef wmSpo_1 mBeg mTok mVal mWor mNum mThe mRts mLns mOpn mTxt mAns mWys mSiz mNbs) H → va_S A s.heap H locs → lv_has ls 3 [(0, .ref (bd 0))] → (∀ (H : Heap) (locs : List Loc) (ls : Array Slot), va_P D vwCl (wM cI cB cZ bd mVil mBad mFul mLen mSig mWay mLef owmSpo_1 mBeg mTok mVal mWor mNum mThe mRts mLns mOpn mTxt mAns mWys mSiz mNbs) H → va_S A s.heap H locs → lv_has ls 3 [(0, .ref (bd 0))] → W p l e (rmN 2 45) s m args below meth c H locs 0 0 (MQ below (QV D (wM cI cB cZ bd mVil mBad mFul mLen mSig mWay mLef zmSpo zmBeg zmTok zmVal mWor mNum mThe mRts mLns mOpn mTxt mAns mWys mSiz mNbs) A) args s 0 0 A) (F0 m 38 ls [])) → W p l e (rmN 2 45) s m args below meth c H locs 0 0 (MQ below (QV D (wM cI cB cZ bd mVil mBad mFul mLen mSig mWay mLef zmSpo zmBeg zmTok zmVal mWor mNum mThe mRts mLns mOpn mTxt mAns mWys mSiz mNbs) A) args s 0 0 A) (F0 m 0 ls []) := by
    intro n
    induction n with
    | zero => intro wmSpo_1 owmSpo_1 H locs ls hf; exact (lp_0 hf).elim
    | succ n ih =>
      intro wmSpo_1 owmSpo_1 H locs ls hf hP hS hl hE
      replace hf := lp_s hf
      dsimp only [fX9_next_L0] at hf
      refine lv_aload_n hx hb dX9_next_0 rfl (lv_at hl 0 rfl) ?_
      refine va_get (ci := 8) (v := .int wmSpo_1) (C := RX9) (T := TX9) (N := 22) hx hb hts hiX9 hown hK hP 0 rfl rfl 14 (by decide) (hts _ (List.mem_of_getElem? (i := 1) rfl)) (fun _ h9 => h9) rfl dX9_next_1 ?_
      refine lv_aload_n hx hb dX9_next_4 rfl (lv_at hl 0 rfl) ?_
      refine va_get (ci := 8) (v := .int mLen) (C := RX9) (T := TX9) (N := 22) hx hb hts hiX9 hown hK hP 0 rfl rfl 6 (by decide) (hts _ (List.mem_of_getElem? (i := 2) rfl)) (fun _ h9 => h9) rfl dX9_next_5 ?_
      refine lv_icmp_ge (tgt := 38) hx hb dX9_next_8 (by decide) (fun hc => ?_) (fun hc => ?_)
      · replace hf := (if_pos hc).symm.trans hf
        cases hf
        exact hE _ _ _ hP hS (lv_sub hl [0] rfl)
      · replace hf := (if_neg hc).symm.trans hf
        refine lv_aload_n hx hb dX9_next_11 rfl (lv_at hl 0 rfl) ?_
        refine va_get (ci := 8) (v := .ref (bd 4)) (C := RX9) (T := TX9) (N := 22) hx hb hts hiX9 hown hK hP 0 rfl rfl 7 (by decide) (hts _ (List.mem_of_getElem? (i := 3) rfl)) (fun _ h9 => h9) rfl dX9_next_12 ?_
        refine lv_aload_n hx hb dX9_next_15 rfl (lv_at hl 0 rfl) ?_
        refine va_get (ci := 8) (v := .int wmSpo_1) (C := RX9) (T := TX9) (N := 22) hx hb hts hiX9 hown hK hP 0 rfl rfl 14 (by decide) (hts _ (List.mem_of_getElem? (i := 1) rfl)) (fun _ h9 => h9) rfl dX9_next_16 ?_
        obtain ⟨hg, hf⟩ := og hf
        refine va_iald hx hb hK hP 4 0 rfl rfl (gI_in hg) dX9_next_19 ?_
        refine lv_bipush (v := (32 : Int32)) hx hb dX9_next_20 (by decide) ?_
        refine lv_icmp_ne (tgt := 38) hx hb dX9_next_22 (by decide) (fun hc => ?_) (fun hc => ?_)
        · replace hf := (if_neg hc).symm.trans hf
          cases hf
          exact hE _ _ _ hP hS (lv_sub hl [0] rfl)
        · replace hf := (if_pos hc).symm.trans hf
          refine lv_aload_n hx hb dX9_next_25 rfl (lv_at hl 0 rfl) ?_
          refine lv_dup hx hb dX9_next_26 rfl ?_
          refine va_get (ci := 8) (v := .int wmSpo_1) (C := RX9) (T := TX9) (N := 22) hx hb hts hiX9 hown hK hP 0 rfl rfl 14 (by decide) (hts _ (List.mem_of_getElem? (i := 1) rfl)) (fun _ h9 => h9) rfl dX9_next_27 ?_
          refine lv_iconst (v := (1 : Int32)) hx hb dX9_next_30 (by decide) ?_
          refine lv_iadd hx hb dX9_next_31 ?_
          refine va_put (ci := 8) (v := .int (wmSpo_1 + (1 : Int32))) (ty := .int) (C := RX9) (T := TX9) (N := 22) hx hb hts hiX9 tyX9 tyX9_ok nmX9 hown hK hP (wM_D hAD) hS 0 rfl rfl 14 (by decide) (hts _ (List.mem_of_getElem? (i := 1) rfl)) (fun _ h9 => h9) rfl (tyX9_ok 14 (by decide)) rfl rfl (Nat.le_of_ble_eq_true rfl) dX9_next_32 (fun H locs hP _ hS => ?_)
          have hP : va_P D vwCl (wM cI cB cZ bd mVil mBad mFul mLen mSig mWay mLef (wmSpo_1 + (1 : Int32)) mBeg mTok mVal mWor mNum mThe mRts mLns mOpn mTxt mAns mWys mSiz mNbs) H := hP
          refine lv_goto (tgt := 0) hx hb dX9_next_35 (by decide) ?_
          exact ih _ _ _ _ _ hf hP hS (lv_sub hl [0] rfl) hE
  obtain ⟨owmSpo_1, hq, hf⟩ := ob hf
  try dsimp only at hf
  refine hL0 FU _ owmSpo_1 _ _ ls hq hP hS (lv_sub hl [0] rfl) (fun H locs ls hP hS hl => ?_)
  refine lv_aload_n hx hb dX9_next_38 rfl (lv_at hl 0 rfl) ?_
  refine lv_aload_n hx hb dX9_next_39 rfl (lv_at hl 0 rfl) ?_
  refine va_get (ci := 8) (v := .int owmSpo_1) (C := RX9) (T := TX9) (N := 22) hx hb hts hiX9 hown hK hP 0 rfl rfl 14 (by decide) (hts _ (List.mem_of_getElem? (i := 1) rfl)) (fun _ h9 => h9) rfl dX9_next_40 ?_
  refine va_put (ci := 8) (v := .int owmSpo_1) (ty := .int) (C := RX9) (T := TX9) (N := 22) hx hb hts hiX9 tyX9 tyX9_ok nmX9 hown hK hP (wM_D hAD) hS 0 rfl rfl 15 (by decide) (hts _ (List.mem_of_getElem? (i := 4) rfl)) (fun _ h9 => h9) rfl (tyX9_ok 15 (by decide)) rfl rfl (Nat.le_of_ble_eq_true rfl) dX9_next_43 (fun H locs hP _ hS => ?_)
  have hP : va_P D vwCl (wM cI cB cZ bd mVil mBad mFul mLen mSig mWay mLef owmSpo_1 owmSpo_1 mTok mVal mWor mNum mThe mRts mLns mOpn mTxt mAns mWys mSiz mNbs) H := hP
  refine lv_aload_n hx hb dX9_next_46 rfl (lv_at hl 0 rfl) ?_
  refine lv_iconst (v := (0 : Int32)) hx hb dX9_next_47 (by decide) ?_
  refine va_put (ci := 8) (v := .int (0 : Int32)) (ty := .int) (C := RX9) (T := TX9) (N := 22) hx hb hts hiX9 tyX9 tyX9_ok nmX9 hown hK hP (wM_D hAD) hS 0 rfl rfl 17 (by decide) (hts _ (List.mem_of_getElem? (i := 5) rfl)) (fun _ h9 => h9) rfl (tyX9_ok 17 (by decide)) rfl rfl (Nat.le_of_ble_eq_true rfl) dX9_next_48 (fun H locs hP _ hS => ?_)
  have hP : va_P D vwCl (wM cI cB cZ bd mVil mBad mFul mLen mSig mWay mLef owmSpo_1 owmSpo_1 mTok (0 : Int32) mWor mNum mThe mRts mLns mOpn mTxt mAns mWys mSiz mNbs) H := hP
  refine lv_aload_n hx hb dX9_next_51 rfl (lv_at hl 0 rfl) ?_
  refine va_get (ci := 8) (v := .int owmSpo_1) (C := RX9) (T := TX9) (N := 22) hx hb hts hiX9 hown hK hP 0 rfl rfl 14 (by decide) (hts _ (List.mem_of_getElem? (i := 1) rfl)) (fun _ h9 => h9) rfl dX9_next_52 ?_
  refine lv_aload_n hx hb dX9_next_55 rfl (lv_at hl 0 rfl) ?_
  refine va_get (ci := 8) (v := .int mLen) (C := RX9) (T := TX9) (N := 22) hx hb hts hiX9 hown hK hP 0 rfl rfl 6 (by decide) (hts _ (List.mem_of_getElem? (i := 2) rfl)) (fun _ h9 => h9) rfl dX9_next_56 ?_
  refine lv_icmp_ne (tgt := 68) hx hb dX9_next_59 (by decide) (fun hc => ?_) (fun hc => ?_)
  · replace hf := (if_neg hc).symm.trans hf
    refine lv_aload_n hx hb dX9_next_68 rfl (lv_at hl 0 rfl) ?_
    refine va_get (ci := 8) (v := .ref (bd 4)) (C := RX9) (T := TX9) (N := 22) hx hb hts hiX9 hown hK hP 0 rfl rfl 7 (by decide) (hts _ (List.mem_of_getElem? (i := 3) rfl)) (fun _ h9 => h9) rfl dX9_next_69 ?_
    refine lv_aload_n hx hb dX9_next_72 rfl (lv_at hl 0 rfl) ?_
    refine va_get (ci := 8) (v := .int owmSpo_1) (C := RX9) (T := TX9) (N := 22) hx hb hts hiX9 hown hK hP 0 rfl rfl 14 (by decide) (hts _ (List.mem_of_getElem? (i := 1) rfl)) (fun _ h9 => h9) rfl dX9_next_73 ?_
    obtain ⟨hg, hf⟩ := og hf
    refine va_iald hx hb hK hP 4 0 rfl rfl (gI_in hg) dX9_next_76 ?_
    refine lv_istore_n (lv' := [(1, .int (mTxt (owmSpo_1).toNatClampNeg)), (0, .ref (bd 0))]) hx hb dX9_next_77 rfl hl (by decide) rfl (fun ls hl => ?_)
    refine lv_iconst (v := (0 : Int32)) hx hb dX9_next_78 (by decide) ?_
    refine lv_istore_n (lv' := [(2, .int (0 : Int32)), (1, .int (mTxt (owmSpo_1).toNatClampNeg)), (0, .ref (bd 0))]) hx hb dX9_next_79 rfl hl (by decide) rfl (fun ls hl => ?_)
    refine lv_iload_n hx hb dX9_next_80 rfl (lv_at hl 1 rfl) ?_
    obtain ⟨r_2, hq, hf⟩ := ob hf
    try dsimp only at hf
    refine rcS (As := [.int (mTxt (owmSpo_1).toNatClampNeg)]) (rest := []) ⟨hx, hb, hml, hown, hts⟩ (ctX9_isLetter l (mTxt (owmSpo_1).toNatClampNeg) r_2 hq) (va_cwS 1 hts gX9_next_X9_isLetter rfl rfl rfl (by decide +kernel) ⟨Nat.le_of_ble_eq_true rfl, Nat.le_of_ble_eq_true rfl⟩) rfl hl.1 rfl (Nat.le_of_ble_eq_true rfl) dX9_next_81 ⟨Nat.zero_le _, Nat.zero_le _⟩ ?_
    refine lv_if_eq (tgt := 179) hx hb dX9_next_84 (by decide) (fun hc => ?_) (fun hc => ?_)
    · replace hf := (if_pos hc).symm.trans hf
      refine lv_iload_n hx hb dX9_next_179 rfl (lv_at hl 1 rfl) ?_
      obtain ⟨r_3, hq, hf⟩ := ob hf
      try dsimp only at hf
      refine rcS (As := [.int (mTxt (owmSpo_1).toNatClampNeg)]) (rest := []) ⟨hx, hb, hml, hown, hts⟩ (ctX9_isFigure l (mTxt (owmSpo_1).toNatClampNeg) r_3 hq) (va_cwS 1 hts gX9_next_X9_isFigure rfl rfl rfl (by decide +kernel) ⟨Nat.le_of_ble_eq_true rfl, Nat.le_of_ble_eq_true rfl⟩) rfl hl.1 rfl (Nat.le_of_ble_eq_true rfl) dX9_next_180 ⟨Nat.zero_le _, Nat.zero_le _⟩ ?_
      refine lv_if_eq (tgt := 269) hx hb dX9_next_183 (by decide) (fun hc => ?_) (fun hc => ?_)
      · replace hf := (if_pos hc).symm.trans hf
        refine lv_aload_n hx hb dX9_next_269 rfl (lv_at hl 2 rfl) ?_
        refine lv_iload_n hx hb dX9_next_270 rfl (lv_at hl 1 rfl) ?_
        refine lv_bipush (v := (59 : Int32)) hx hb dX9_next_271 (by decide) ?_
        have hJ281 : ∀ (t_4 : Int32) (H : Heap) (locs : List Loc) (ls : Array Slot), fX9_next_J281 owmSpo_1 t_4 = some (zmSpo, zmBeg, zmTok, zmVal) → va_P D vwCl (wM cI cB cZ bd mVil mBad mFul mLen mSig mWay mLef owmSpo_1 owmSpo_1 mTok (0 : Int32) mWor mNum mThe mRts mLns mOpn mTxt mAns mWys mSiz mNbs) H → va_S A s.heap H locs → lv_has ls 3 [(0, .ref (bd 0)), (1, .int (mTxt (owmSpo_1).toNatClampNeg)), (2, .int (0 : Int32))] → W p l e (rmN 2 45) s m args below meth c H locs 0 0 (MQ below (QV D (wM cI cB cZ bd mVil mBad mFul mLen mSig mWay mLef zmSpo zmBeg zmTok zmVal mWor mNum mThe mRts mLns mOpn mTxt mAns mWys mSiz mNbs) A) args s 0 0 A) (F0 m 281 ls [.int t_4, .ref (bd 0)]) := by
          intro t_4 H locs ls hf hP hS hl
          unfold fX9_next_J281 at hf
          refine va_put (ci := 8) (v := .int t_4) (ty := .int) (C := RX9) (T := TX9) (N := 22) hx hb hts hiX9 tyX9 tyX9_ok nmX9 hown hK hP (wM_D hAD) hS 0 rfl rfl 16 (by decide) (hts _ (List.mem_of_getElem? (i := 6) rfl)) (fun _ h9 => h9) rfl (tyX9_ok 16 (by decide)) rfl rfl (Nat.le_of_ble_eq_true rfl) dX9_next_281 (fun H locs hP _ hS => ?_)
          have hP : va_P D vwCl (wM cI cB cZ bd mVil mBad mFul mLen mSig mWay mLef owmSpo_1 owmSpo_1 t_4 (0 : Int32) mWor mNum mThe mRts mLns mOpn mTxt mAns mWys mSiz mNbs) H := hP
          refine lv_aload_n hx hb dX9_next_284 rfl (lv_at hl 0 rfl) ?_
          refine lv_dup hx hb dX9_next_285 rfl ?_
          refine va_get (ci := 8) (v := .int owmSpo_1) (C := RX9) (T := TX9) (N := 22) hx hb hts hiX9 hown hK hP 0 rfl rfl 14 (by decide) (hts _ (List.mem_of_getElem? (i := 1) rfl)) (fun _ h9 => h9) rfl dX9_next_286 ?_
          refine lv_iconst (v := (1 : Int32)) hx hb dX9_next_289 (by decide) ?_
          refine lv_iadd hx hb dX9_next_290 ?_
          refine va_put (ci := 8) (v := .int (owmSpo_1 + (1 : Int32))) (ty := .int) (C := RX9) (T := TX9) (N := 22) hx hb hts hiX9 tyX9 tyX9_ok nmX9 hown hK hP (wM_D hAD) hS 0 rfl rfl 14 (by decide) (hts _ (List.mem_of_getElem? (i := 1) rfl)) (fun _ h9 => h9) rfl (tyX9_ok 14 (by decide)) rfl rfl (Nat.le_of_ble_eq_true rfl) dX9_next_291 (fun H locs hP _ hS => ?_)
          have hP : va_P D vwCl (wM cI cB cZ bd mVil mBad mFul mLen mSig mWay mLef (owmSpo_1 + (1 : Int32)) owmSpo_1 t_4 (0 : Int32) mWor mNum mThe mRts mLns mOpn mTxt mAns mWys mSiz mNbs) H := hP
          obtain ⟨e0, hz1⟩ := Prod.mk.inj (Option.some.inj hf)
          obtain ⟨e1, hz2⟩ := Prod.mk.inj hz1
          obtain ⟨e2, hz3⟩ := Prod.mk.inj hz2
          subst e0
          subst e1
          subst e2
          subst hz3
          exact rm_v hx hb hr hlk hP hS dX9_next_294
        refine lv_icmp_ne (tgt := 280) hx hb dX9_next_273 (by decide) (fun hc => ?_) (fun hc => ?_)
        · replace hf := (if_neg hc).symm.trans hf
          refine lv_iconst (v := (4 : Int32)) hx hb dX9_next_280 (by decide) ?_
          exact hJ281 _ _ _ _ hf hP hS (lv_sub hl [2, 1, 0] rfl)
        · replace hf := (if_pos hc).symm.trans hf
          refine lv_iconst (v := (3 : Int32)) hx hb dX9_next_276 (by decide) ?_
          refine lv_goto (tgt := 281) hx hb dX9_next_277 (by decide) ?_
          exact hJ281 _ _ _ _ hf hP hS (lv_sub hl [2, 1, 0] rfl)
      · replace hf := (if_neg hc).symm.trans hf
        have hL186 : ∀ (n : Nat) (v2_5 : Int32) (wmSpo_6 : Int32) (wmVal_7 : Int32) (ov2_5 : Int32) (owmSpo_6 : Int32) (owmVal_7 : Int32) (H : Heap) (locs : List Loc) (ls : Array Slot), lp (fX9_next_L186 mLen mTxt) n (v2_5, wmSpo_6, wmVal_7) = some (ov2_5, owmSpo_6, owmVal_7) → va_P D vwCl (wM cI cB cZ bd mVil mBad mFul mLen mSig mWay mLef wmSpo_6 owmSpo_1 mTok wmVal_7 mWor mNum mThe mRts mLns mOpn mTxt mAns mWys mSiz mNbs) H → va_S A s.heap H locs → lv_has ls 3 [(0, .ref (bd 0)), (1, .int (mTxt (owmSpo_1).toNatClampNeg)), (2, .int v2_5)] → (∀ (H : Heap) (locs : List Loc) (ls : Array Slot), va_P D vwCl (wM cI cB cZ bd mVil mBad mFul mLen mSig mWay mLef owmSpo_6 owmSpo_1 mTok owmVal_7 mWor mNum mThe mRts mLns mOpn mTxt mAns mWys mSiz mNbs) H → va_S A s.heap H locs → lv_has ls 3 [(0, .ref (bd 0)), (1, .int (mTxt (owmSpo_1).toNatClampNeg)), (2, .int ov2_5)] → W p l e (rmN 2 45) s m args below meth c H locs 0 0 (MQ below (QV D (wM cI cB cZ bd mVil mBad mFul mLen mSig mWay mLef zmSpo zmBeg zmTok zmVal mWor mNum mThe mRts mLns mOpn mTxt mAns mWys mSiz mNbs) A) args s 0 0 A) (F0 m 263 ls [])) → W p l e (rmN 2 45) s m args below meth c H locs 0 0 (MQ below (QV D (wM cI cB cZ bd mVil mBad mFul mLen mSig mWay mLef zmSpo zmBeg zmTok zmVal mWor mNum mThe mRts mLns mOpn mTxt mAns mWys mSiz mNbs) A) args s 0 0 A) (F0 m 186 ls []) := by
          intro n
          induction n with
          | zero => intro v2_5 wmSpo_6 wmVal_7 ov2_5 owmSpo_6 owmVal_7 H locs ls hf; exact (lp_0 hf).elim
          | succ n ih =>
            intro v2_5 wmSpo_6 wmVal_7 ov2_5 owmSpo_6 owmVal_7 H locs ls hf hP hS hl hE
            replace hf := lp_s hf
            dsimp only [fX9_next_L186] at hf
            refine lv_aload_n hx hb dX9_next_186 rfl (lv_at hl 0 rfl) ?_
            refine va_get (ci := 8) (v := .int wmSpo_6) (C := RX9) (T := TX9) (N := 22) hx hb hts hiX9 hown hK hP 0 rfl rfl 14 (by decide) (hts _ (List.mem_of_getElem? (i := 1) rfl)) (fun _ h9 => h9) rfl dX9_next_187 ?_
            refine lv_aload_n hx hb dX9_next_190 rfl (lv_at hl 0 rfl) ?_
            refine va_get (ci := 8) (v := .int mLen) (C := RX9) (T := TX9) (N := 22) hx hb hts hiX9 hown hK hP 0 rfl rfl 6 (by decide) (hts _ (List.mem_of_getElem? (i := 2) rfl)) (fun _ h9 => h9) rfl dX9_next_191 ?_
            refine lv_icmp_ge (tgt := 263) hx hb dX9_next_194 (by decide) (fun hc => ?_) (fun hc => ?_)
            · replace hf := (if_pos hc).symm.trans hf
              cases hf
              exact hE _ _ _ hP hS (lv_sub hl [0, 1, 2] rfl)
            · replace hf := (if_neg hc).symm.trans hf
              refine lv_aload_n hx hb dX9_next_197 rfl (lv_at hl 0 rfl) ?_
              refine va_get (ci := 8) (v := .ref (bd 4)) (C := RX9) (T := TX9) (N := 22) hx hb hts hiX9 hown hK hP 0 rfl rfl 7 (by decide) (hts _ (List.mem_of_getElem? (i := 3) rfl)) (fun _ h9 => h9) rfl dX9_next_198 ?_
              refine lv_aload_n hx hb dX9_next_201 rfl (lv_at hl 0 rfl) ?_
              refine va_get (ci := 8) (v := .int wmSpo_6) (C := RX9) (T := TX9) (N := 22) hx hb hts hiX9 hown hK hP 0 rfl rfl 14 (by decide) (hts _ (List.mem_of_getElem? (i := 1) rfl)) (fun _ h9 => h9) rfl dX9_next_202 ?_
              obtain ⟨hg, hf⟩ := og hf
              refine va_iald hx hb hK hP 4 0 rfl rfl (gI_in hg) dX9_next_205 ?_
              obtain ⟨r_8, hq, hf⟩ := ob hf
              try dsimp only at hf
              refine rcS (As := [.int (mTxt (wmSpo_6).toNatClampNeg)]) (rest := []) ⟨hx, hb, hml, hown, hts⟩ (ctX9_isFigure l (mTxt (wmSpo_6).toNatClampNeg) r_8 hq) (va_cwS 1 hts gX9_next_X9_isFigure rfl rfl rfl (by decide +kernel) ⟨Nat.le_of_ble_eq_true rfl, Nat.le_of_ble_eq_true rfl⟩) rfl hl.1 rfl (Nat.le_of_ble_eq_true rfl) dX9_next_206 ⟨Nat.zero_le _, Nat.zero_le _⟩ ?_
              refine lv_if_eq (tgt := 263) hx hb dX9_next_209 (by decide) (fun hc => ?_) (fun hc => ?_)
              · replace hf := (if_pos hc).symm.trans hf
                cases hf
                exact hE _ _ _ hP hS (lv_sub hl [0, 1, 2] rfl)
              · replace hf := (if_neg hc).symm.trans hf
                refine lv_aload_n hx hb dX9_next_212 rfl (lv_at hl 0 rfl) ?_
                refine lv_iload_n hx hb dX9_next_213 rfl (lv_at hl 2 rfl) ?_
                refine lv_iconst (v := (2 : Int32)) hx hb dX9_next_214 (by decide) ?_
                have hJ244 : ∀ (t_9 : Int32) (H : Heap) (locs : List Loc) (ls : Array Slot), fX9_next_J244 v2_5 wmSpo_6 (lp (fX9_next_L186 mLen mTxt) n) t_9 = some (ov2_5, owmSpo_6, owmVal_7) → va_P D vwCl (wM cI cB cZ bd mVil mBad mFul mLen mSig mWay mLef wmSpo_6 owmSpo_1 mTok wmVal_7 mWor mNum mThe mRts mLns mOpn mTxt mAns mWys mSiz mNbs) H → va_S A s.heap H locs → lv_has ls 3 [(0, .ref (bd 0)), (1, .int (mTxt (owmSpo_1).toNatClampNeg)), (2, .int v2_5)] → W p l e (rmN 2 45) s m args below meth c H locs 0 0 (MQ below (QV D (wM cI cB cZ bd mVil mBad mFul mLen mSig mWay mLef zmSpo zmBeg zmTok zmVal mWor mNum mThe mRts mLns mOpn mTxt mAns mWys mSiz mNbs) A) args s 0 0 A) (F0 m 244 ls [.int t_9, .ref (bd 0)]) := by
                  intro t_9 H locs ls hf hP hS hl
                  unfold fX9_next_J244 at hf
                  refine va_put (ci := 8) (v := .int t_9) (ty := .int) (C := RX9) (T := TX9) (N := 22) hx hb hts hiX9 tyX9 tyX9_ok nmX9 hown hK hP (wM_D hAD) hS 0 rfl rfl 17 (by decide) (hts _ (List.mem_of_getElem? (i := 5) rfl)) (fun _ h9 => h9) rfl (tyX9_ok 17 (by decide)) rfl rfl (Nat.le_of_ble_eq_true rfl) dX9_next_244 (fun H locs hP _ hS => ?_)
                  have hP : va_P D vwCl (wM cI cB cZ bd mVil mBad mFul mLen mSig mWay mLef wmSpo_6 owmSpo_1 mTok t_9 mWor mNum mThe mRts mLns mOpn mTxt mAns mWys mSiz mNbs) H := hP
                  refine lv_iinc (v := (v2_5 + (1 : Int32))) (lv' := [(2, .int (v2_5 + (1 : Int32))), (0, .ref (bd 0)), (1, .int (mTxt (owmSpo_1).toNatClampNeg))]) hx hb dX9_next_247 hl (k := 2) rfl rfl (by decide) rfl (fun ls hl => ?_)
                  refine lv_aload_n hx hb dX9_next_250 rfl (lv_at hl 1 rfl) ?_
                  refine lv_dup hx hb dX9_next_251 rfl ?_
                  refine va_get (ci := 8) (v := .int wmSpo_6) (C := RX9) (T := TX9) (N := 22) hx hb hts hiX9 hown hK hP 0 rfl rfl 14 (by decide) (hts _ (List.mem_of_getElem? (i := 1) rfl)) (fun _ h9 => h9) rfl dX9_next_252 ?_
                  refine lv_iconst (v := (1 : Int32)) hx hb dX9_next_255 (by decide) ?_
                  refine lv_iadd hx hb dX9_next_256 ?_
                  refine va_put (ci := 8) (v := .int (wmSpo_6 + (1 : Int32))) (ty := .int) (C := RX9) (T := TX9) (N := 22) hx hb hts hiX9 tyX9 tyX9_ok nmX9 hown hK hP (wM_D hAD) hS 0 rfl rfl 14 (by decide) (hts _ (List.mem_of_getElem? (i := 1) rfl)) (fun _ h9 => h9) rfl (tyX9_ok 14 (by decide)) rfl rfl (Nat.le_of_ble_eq_true rfl) dX9_next_257 (fun H locs hP _ hS => ?_)
                  have hP : va_P D vwCl (wM cI cB cZ bd mVil mBad mFul mLen mSig mWay mLef (wmSpo_6 + (1 : Int32)) owmSpo_1 mTok t_9 mWor mNum mThe mRts mLns mOpn mTxt mAns mWys mSiz mNbs) H := hP
                  refine lv_goto (tgt := 186) hx hb dX9_next_260 (by decide) ?_
                  exact ih _ _ _ _ _ _ _ _ _ hf hP hS (lv_sub hl [1, 2, 0] rfl) hE
                refine lv_icmp_ge (tgt := 241) hx hb dX9_next_215 (by decide) (fun hc => ?_) (fun hc => ?_)
                · replace hf := (if_pos hc).symm.trans hf
                  refine lv_sipush (v := (1000 : Int32)) hx hb dX9_next_241 (by decide) ?_
                  exact hJ244 _ _ _ _ hf hP hS (lv_sub hl [0, 1, 2] rfl)
                · replace hf := (if_neg hc).symm.trans hf
                  refine lv_bipush (v := (10 : Int32)) hx hb dX9_next_218 (by decide) ?_
                  refine lv_aload_n hx hb dX9_next_220 rfl (lv_at hl 0 rfl) ?_
                  refine va_get (ci := 8) (v := .int wmVal_7) (C := RX9) (T := TX9) (N := 22) hx hb hts hiX9 hown hK hP 0 rfl rfl 17 (by decide) (hts _ (List.mem_of_getElem? (i := 5) rfl)) (fun _ h9 => h9) rfl dX9_next_221 ?_
                  refine lv_imul hx hb dX9_next_224 ?_
                  refine lv_aload_n hx hb dX9_next_225 rfl (lv_at hl 0 rfl) ?_
                  refine va_get (ci := 8) (v := .ref (bd 4)) (C := RX9) (T := TX9) (N := 22) hx hb hts hiX9 hown hK hP 0 rfl rfl 7 (by decide) (hts _ (List.mem_of_getElem? (i := 3) rfl)) (fun _ h9 => h9) rfl dX9_next_226 ?_
                  refine lv_aload_n hx hb dX9_next_229 rfl (lv_at hl 0 rfl) ?_
                  refine va_get (ci := 8) (v := .int wmSpo_6) (C := RX9) (T := TX9) (N := 22) hx hb hts hiX9 hown hK hP 0 rfl rfl 14 (by decide) (hts _ (List.mem_of_getElem? (i := 1) rfl)) (fun _ h9 => h9) rfl dX9_next_230 ?_
                  obtain ⟨hg, hf⟩ := og hf
                  refine va_iald hx hb hK hP 4 0 rfl rfl (gI_in hg) dX9_next_233 ?_
                  refine lv_iadd hx hb dX9_next_234 ?_
                  refine lv_bipush (v := (48 : Int32)) hx hb dX9_next_235 (by decide) ?_
                  refine lv_isub hx hb dX9_next_237 ?_
                  refine lv_goto (tgt := 244) hx hb dX9_next_238 (by decide) ?_
                  exact hJ244 _ _ _ _ hf hP hS (lv_sub hl [0, 1, 2] rfl)
        obtain ⟨⟨ov2_5, owmSpo_6, owmVal_7⟩, hq, hf⟩ := ob hf
        try dsimp only at hf
        refine hL186 FU _ _ _ ov2_5 owmSpo_6 owmVal_7 _ _ ls hq hP hS (lv_sub hl [2, 1, 0] rfl) (fun H locs ls hP hS hl => ?_)
        refine lv_aload_n hx hb dX9_next_263 rfl (lv_at hl 0 rfl) ?_
        refine lv_iconst (v := (2 : Int32)) hx hb dX9_next_264 (by decide) ?_
        refine va_put (ci := 8) (v := .int (2 : Int32)) (ty := .int) (C := RX9) (T := TX9) (N := 22) hx hb hts hiX9 tyX9 tyX9_ok nmX9 hown hK hP (wM_D hAD) hS 0 rfl rfl 16 (by decide) (hts _ (List.mem_of_getElem? (i := 6) rfl)) (fun _ h9 => h9) rfl (tyX9_ok 16 (by decide)) rfl rfl (Nat.le_of_ble_eq_true rfl) dX9_next_265 (fun H locs hP _ hS => ?_)
        have hP : va_P D vwCl (wM cI cB cZ bd mVil mBad mFul mLen mSig mWay mLef owmSpo_6 owmSpo_1 (2 : Int32) owmVal_7 mWor mNum mThe mRts mLns mOpn mTxt mAns mWys mSiz mNbs) H := hP
        obtain ⟨e0, hz1⟩ := Prod.mk.inj (Option.some.inj hf)
        obtain ⟨e1, hz2⟩ := Prod.mk.inj hz1
        obtain ⟨e2, hz3⟩ := Prod.mk.inj hz2
        subst e0
        subst e1
        subst e2
        subst hz3
        exact rm_v hx hb hr hlk hP hS dX9_next_268
    · replace hf := (if_neg hc).symm.trans hf
      have hL87 : ∀ (n : Nat) (v2_10 : Int32) (wmSpo_11 : Int32) (wmVal_12 : Int32) (ov2_10 : Int32) (owmSpo_11 : Int32) (owmVal_12 : Int32) (H : Heap) (locs : List Loc) (ls : Array Slot), lp (fX9_next_L87 mLen mTxt) n (v2_10, wmSpo_11, wmVal_12) = some (ov2_10, owmSpo_11, owmVal_12) → va_P D vwCl (wM cI cB cZ bd mVil mBad mFul mLen mSig mWay mLef wmSpo_11 owmSpo_1 mTok wmVal_12 mWor mNum mThe mRts mLns mOpn mTxt mAns mWys mSiz mNbs) H → va_S A s.heap H locs → lv_has ls 3 [(0, .ref (bd 0)), (1, .int (mTxt (owmSpo_1).toNatClampNeg)), (2, .int v2_10)] → (∀ (H : Heap) (locs : List Loc) (ls : Array Slot), va_P D vwCl (wM cI cB cZ bd mVil mBad mFul mLen mSig mWay mLef owmSpo_11 owmSpo_1 mTok owmVal_12 mWor mNum mThe mRts mLns mOpn mTxt mAns mWys mSiz mNbs) H → va_S A s.heap H locs → lv_has ls 3 [(0, .ref (bd 0)), (1, .int (mTxt (owmSpo_1).toNatClampNeg)), (2, .int ov2_10)] → W p l e (rmN 2 45) s m args below meth c H locs 0 0 (MQ below (QV D (wM cI cB cZ bd mVil mBad mFul mLen mSig mWay mLef zmSpo zmBeg zmTok zmVal mWor mNum mThe mRts mLns mOpn mTxt mAns mWys mSiz mNbs) A) args s 0 0 A) (F0 m 163 ls [])) → W p l e (rmN 2 45) s m args below meth c H locs 0 0 (MQ below (QV D (wM cI cB cZ bd mVil mBad mFul mLen mSig mWay mLef zmSpo zmBeg zmTok zmVal mWor mNum mThe mRts mLns mOpn mTxt mAns mWys mSiz mNbs) A) args s 0 0 A) (F0 m 87 ls []) := by
        intro n
        induction n with
        | zero => intro v2_10 wmSpo_11 wmVal_12 ov2_10 owmSpo_11 owmVal_12 H locs ls hf; exact (lp_0 hf).elim
        | succ n ih =>
          intro v2_10 wmSpo_11 wmVal_12 ov2_10 owmSpo_11 owmVal_12 H locs ls hf hP hS hl hE
          replace hf := lp_s hf
          dsimp only [fX9_next_L87] at hf
          refine lv_aload_n hx hb dX9_next_87 rfl (lv_at hl 0 rfl) ?_
          refine va_get (ci := 8) (v := .int wmSpo_11) (C := RX9) (T := TX9) (N := 22) hx hb hts hiX9 hown hK hP 0 rfl rfl 14 (by decide) (hts _ (List.mem_of_getElem? (i := 1) rfl)) (fun _ h9 => h9) rfl dX9_next_88 ?_
          refine lv_aload_n hx hb dX9_next_91 rfl (lv_at hl 0 rfl) ?_
          refine va_get (ci := 8) (v := .int mLen) (C := RX9) (T := TX9) (N := 22) hx hb hts hiX9 hown hK hP 0 rfl rfl 6 (by decide) (hts _ (List.mem_of_getElem? (i := 2) rfl)) (fun _ h9 => h9) rfl dX9_next_92 ?_
          refine lv_icmp_ge (tgt := 163) hx hb dX9_next_95 (by decide) (fun hc => ?_) (fun hc => ?_)
          · replace hf := (if_pos hc).symm.trans hf
            cases hf
            exact hE _ _ _ hP hS (lv_sub hl [0, 1, 2] rfl)
          · replace hf := (if_neg hc).symm.trans hf
            refine lv_aload_n hx hb dX9_next_98 rfl (lv_at hl 0 rfl) ?_
            refine va_get (ci := 8) (v := .ref (bd 4)) (C := RX9) (T := TX9) (N := 22) hx hb hts hiX9 hown hK hP 0 rfl rfl 7 (by decide) (hts _ (List.mem_of_getElem? (i := 3) rfl)) (fun _ h9 => h9) rfl dX9_next_99 ?_
            refine lv_aload_n hx hb dX9_next_102 rfl (lv_at hl 0 rfl) ?_
            refine va_get (ci := 8) (v := .int wmSpo_11) (C := RX9) (T := TX9) (N := 22) hx hb hts hiX9 hown hK hP 0 rfl rfl 14 (by decide) (hts _ (List.mem_of_getElem? (i := 1) rfl)) (fun _ h9 => h9) rfl dX9_next_103 ?_
            obtain ⟨hg, hf⟩ := og hf
            refine va_iald hx hb hK hP 4 0 rfl rfl (gI_in hg) dX9_next_106 ?_
            obtain ⟨r_13, hq, hf⟩ := ob hf
            try dsimp only at hf
            refine rcS (As := [.int (mTxt (wmSpo_11).toNatClampNeg)]) (rest := []) ⟨hx, hb, hml, hown, hts⟩ (ctX9_isLetter l (mTxt (wmSpo_11).toNatClampNeg) r_13 hq) (va_cwS 1 hts gX9_next_X9_isLetter rfl rfl rfl (by decide +kernel) ⟨Nat.le_of_ble_eq_true rfl, Nat.le_of_ble_eq_true rfl⟩) rfl hl.1 rfl (Nat.le_of_ble_eq_true rfl) dX9_next_107 ⟨Nat.zero_le _, Nat.zero_le _⟩ ?_
            refine lv_if_eq (tgt := 163) hx hb dX9_next_110 (by decide) (fun hc => ?_) (fun hc => ?_)
            · replace hf := (if_pos hc).symm.trans hf
              cases hf
              exact hE _ _ _ hP hS (lv_sub hl [0, 1, 2] rfl)
            · replace hf := (if_neg hc).symm.trans hf
              refine lv_aload_n hx hb dX9_next_113 rfl (lv_at hl 0 rfl) ?_
              refine lv_iload_n hx hb dX9_next_114 rfl (lv_at hl 2 rfl) ?_
              refine lv_bipush (v := (6 : Int32)) hx hb dX9_next_115 (by decide) ?_
              have hJ144 : ∀ (t_14 : Int32) (H : Heap) (locs : List Loc) (ls : Array Slot), fX9_next_J144 v2_10 wmSpo_11 (lp (fX9_next_L87 mLen mTxt) n) t_14 = some (ov2_10, owmSpo_11, owmVal_12) → va_P D vwCl (wM cI cB cZ bd mVil mBad mFul mLen mSig mWay mLef wmSpo_11 owmSpo_1 mTok wmVal_12 mWor mNum mThe mRts mLns mOpn mTxt mAns mWys mSiz mNbs) H → va_S A s.heap H locs → lv_has ls 3 [(0, .ref (bd 0)), (1, .int (mTxt (owmSpo_1).toNatClampNeg)), (2, .int v2_10)] → W p l e (rmN 2 45) s m args below meth c H locs 0 0 (MQ below (QV D (wM cI cB cZ bd mVil mBad mFul mLen mSig mWay mLef zmSpo zmBeg zmTok zmVal mWor mNum mThe mRts mLns mOpn mTxt mAns mWys mSiz mNbs) A) args s 0 0 A) (F0 m 144 ls [.int t_14, .ref (bd 0)]) := by
                intro t_14 H locs ls hf hP hS hl
                unfold fX9_next_J144 at hf
                refine va_put (ci := 8) (v := .int t_14) (ty := .int) (C := RX9) (T := TX9) (N := 22) hx hb hts hiX9 tyX9 tyX9_ok nmX9 hown hK hP (wM_D hAD) hS 0 rfl rfl 17 (by decide) (hts _ (List.mem_of_getElem? (i := 5) rfl)) (fun _ h9 => h9) rfl (tyX9_ok 17 (by decide)) rfl rfl (Nat.le_of_ble_eq_true rfl) dX9_next_144 (fun H locs hP _ hS => ?_)
                have hP : va_P D vwCl (wM cI cB cZ bd mVil mBad mFul mLen mSig mWay mLef wmSpo_11 owmSpo_1 mTok t_14 mWor mNum mThe mRts mLns mOpn mTxt mAns mWys mSiz mNbs) H := hP
                refine lv_iinc (v := (v2_10 + (1 : Int32))) (lv' := [(2, .int (v2_10 + (1 : Int32))), (0, .ref (bd 0)), (1, .int (mTxt (owmSpo_1).toNatClampNeg))]) hx hb dX9_next_147 hl (k := 2) rfl rfl (by decide) rfl (fun ls hl => ?_)
                refine lv_aload_n hx hb dX9_next_150 rfl (lv_at hl 1 rfl) ?_
                refine lv_dup hx hb dX9_next_151 rfl ?_
                refine va_get (ci := 8) (v := .int wmSpo_11) (C := RX9) (T := TX9) (N := 22) hx hb hts hiX9 hown hK hP 0 rfl rfl 14 (by decide) (hts _ (List.mem_of_getElem? (i := 1) rfl)) (fun _ h9 => h9) rfl dX9_next_152 ?_
                refine lv_iconst (v := (1 : Int32)) hx hb dX9_next_155 (by decide) ?_
                refine lv_iadd hx hb dX9_next_156 ?_
                refine va_put (ci := 8) (v := .int (wmSpo_11 + (1 : Int32))) (ty := .int) (C := RX9) (T := TX9) (N := 22) hx hb hts hiX9 tyX9 tyX9_ok nmX9 hown hK hP (wM_D hAD) hS 0 rfl rfl 14 (by decide) (hts _ (List.mem_of_getElem? (i := 1) rfl)) (fun _ h9 => h9) rfl (tyX9_ok 14 (by decide)) rfl rfl (Nat.le_of_ble_eq_true rfl) dX9_next_157 (fun H locs hP _ hS => ?_)
                have hP : va_P D vwCl (wM cI cB cZ bd mVil mBad mFul mLen mSig mWay mLef (wmSpo_11 + (1 : Int32)) owmSpo_1 mTok t_14 mWor mNum mThe mRts mLns mOpn mTxt mAns mWys mSiz mNbs) H := hP
                refine lv_goto (tgt := 87) hx hb dX9_next_160 (by decide) ?_
                exact ih _ _ _ _ _ _ _ _ _ hf hP hS (lv_sub hl [1, 2, 0] rfl) hE
              refine lv_icmp_ge (tgt := 143) hx hb dX9_next_117 (by decide) (fun hc => ?_) (fun hc => ?_)
              · replace hf := (if_pos hc).symm.trans hf
                refine lv_iconst (v := (0 : Int32)) hx hb dX9_next_143 (by decide) ?_
                exact hJ144 _ _ _ _ hf hP hS (lv_sub hl [0, 1, 2] rfl)
              · replace hf := (if_neg hc).symm.trans hf
                refine lv_bipush (v := (32 : Int32)) hx hb dX9_next_120 (by decide) ?_
                refine lv_aload_n hx hb dX9_next_122 rfl (lv_at hl 0 rfl) ?_
                refine va_get (ci := 8) (v := .int wmVal_12) (C := RX9) (T := TX9) (N := 22) hx hb hts hiX9 hown hK hP 0 rfl rfl 17 (by decide) (hts _ (List.mem_of_getElem? (i := 5) rfl)) (fun _ h9 => h9) rfl dX9_next_123 ?_
                refine lv_imul hx hb dX9_next_126 ?_
                refine lv_aload_n hx hb dX9_next_127 rfl (lv_at hl 0 rfl) ?_
                refine va_get (ci := 8) (v := .ref (bd 4)) (C := RX9) (T := TX9) (N := 22) hx hb hts hiX9 hown hK hP 0 rfl rfl 7 (by decide) (hts _ (List.mem_of_getElem? (i := 3) rfl)) (fun _ h9 => h9) rfl dX9_next_128 ?_
                refine lv_aload_n hx hb dX9_next_131 rfl (lv_at hl 0 rfl) ?_
                refine va_get (ci := 8) (v := .int wmSpo_11) (C := RX9) (T := TX9) (N := 22) hx hb hts hiX9 hown hK hP 0 rfl rfl 14 (by decide) (hts _ (List.mem_of_getElem? (i := 1) rfl)) (fun _ h9 => h9) rfl dX9_next_132 ?_
                obtain ⟨hg, hf⟩ := og hf
                refine va_iald hx hb hK hP 4 0 rfl rfl (gI_in hg) dX9_next_135 ?_
                refine lv_iadd hx hb dX9_next_136 ?_
                refine lv_bipush (v := (96 : Int32)) hx hb dX9_next_137 (by decide) ?_
                refine lv_isub hx hb dX9_next_139 ?_
                refine lv_goto (tgt := 144) hx hb dX9_next_140 (by decide) ?_
                exact hJ144 _ _ _ _ hf hP hS (lv_sub hl [0, 1, 2] rfl)
      obtain ⟨⟨ov2_10, owmSpo_11, owmVal_12⟩, hq, hf⟩ := ob hf
      try dsimp only at hf
      refine hL87 FU _ _ _ ov2_10 owmSpo_11 owmVal_12 _ _ ls hq hP hS (lv_sub hl [2, 1, 0] rfl) (fun H locs ls hP hS hl => ?_)
      refine lv_aload_n hx hb dX9_next_163 rfl (lv_at hl 0 rfl) ?_
      refine lv_iload_n hx hb dX9_next_164 rfl (lv_at hl 2 rfl) ?_
      refine lv_bipush (v := (7 : Int32)) hx hb dX9_next_165 (by decide) ?_
      have hJ175 : ∀ (t_15 : Int32) (H : Heap) (locs : List Loc) (ls : Array Slot), fX9_next_J175 owmSpo_1 owmSpo_11 owmVal_12 t_15 = some (zmSpo, zmBeg, zmTok, zmVal) → va_P D vwCl (wM cI cB cZ bd mVil mBad mFul mLen mSig mWay mLef owmSpo_11 owmSpo_1 mTok owmVal_12 mWor mNum mThe mRts mLns mOpn mTxt mAns mWys mSiz mNbs) H → va_S A s.heap H locs → lv_has ls 3 [(0, .ref (bd 0)), (1, .int (mTxt (owmSpo_1).toNatClampNeg)), (2, .int ov2_10)] → W p l e (rmN 2 45) s m args below meth c H locs 0 0 (MQ below (QV D (wM cI cB cZ bd mVil mBad mFul mLen mSig mWay mLef zmSpo zmBeg zmTok zmVal mWor mNum mThe mRts mLns mOpn mTxt mAns mWys mSiz mNbs) A) args s 0 0 A) (F0 m 175 ls [.int t_15, .ref (bd 0)]) := by
        intro t_15 H locs ls hf hP hS hl
        unfold fX9_next_J175 at hf
        refine va_put (ci := 8) (v := .int t_15) (ty := .int) (C := RX9) (T := TX9) (N := 22) hx hb hts hiX9 tyX9 tyX9_ok nmX9 hown hK hP (wM_D hAD) hS 0 rfl rfl 16 (by decide) (hts _ (List.mem_of_getElem? (i := 6) rfl)) (fun _ h9 => h9) rfl (tyX9_ok 16 (by decide)) rfl rfl (Nat.le_of_ble_eq_true rfl) dX9_next_175 (fun H locs hP _ hS => ?_)
        have hP : va_P D vwCl (wM cI cB cZ bd mVil mBad mFul mLen mSig mWay mLef owmSpo_11 owmSpo_1 t_15 owmVal_12 mWor mNum mThe mRts mLns mOpn mTxt mAns mWys mSiz mNbs) H := hP
        obtain ⟨e0, hz1⟩ := Prod.mk.inj (Option.some.inj hf)
        obtain ⟨e1, hz2⟩ := Prod.mk.inj hz1
        obtain ⟨e2, hz3⟩ := Prod.mk.inj hz2
        subst e0
        subst e1
        subst e2
        subst hz3
        exact rm_v hx hb hr hlk hP hS dX9_next_178
      refine lv_icmp_ge (tgt := 174) hx hb dX9_next_167 (by decide) (fun hc => ?_) (fun hc => ?_)
      · replace hf := (if_pos hc).symm.trans hf
        refine lv_iconst (v := (4 : Int32)) hx hb dX9_next_174 (by decide) ?_
        exact hJ175 _ _ _ _ hf hP hS (lv_sub hl [0, 1, 2] rfl)
      · replace hf := (if_neg hc).symm.trans hf
        refine lv_iconst (v := (1 : Int32)) hx hb dX9_next_170 (by decide) ?_
        refine lv_goto (tgt := 175) hx hb dX9_next_171 (by decide) ?_
        exact hJ175 _ _ _ _ hf hP hS (lv_sub hl [0, 1, 2] rfl)
  · replace hf := (if_pos hc).symm.trans hf
    refine lv_aload_n hx hb dX9_next_62 rfl (lv_at hl 0 rfl) ?_
    refine lv_iconst (v := (0 : Int32)) hx hb dX9_next_63 (by decide) ?_
    refine va_put (ci := 8) (v := .int (0 : Int32)) (ty := .int) (C := RX9) (T := TX9) (N := 22) hx hb hts hiX9 tyX9 tyX9_ok nmX9 hown hK hP (wM_D hAD) hS 0 rfl rfl 16 (by decide) (hts _ (List.mem_of_getElem? (i := 6) rfl)) (fun _ h9 => h9) rfl (tyX9_ok 16 (by decide)) rfl rfl (Nat.le_of_ble_eq_true rfl) dX9_next_64 (fun H locs hP _ hS => ?_)
    have hP : va_P D vwCl (wM cI cB cZ bd mVil mBad mFul mLen mSig mWay mLef owmSpo_1 owmSpo_1 (0 : Int32) (0 : Int32) mWor mNum mThe mRts mLns mOpn mTxt mAns mWys mSiz mNbs) H := hP
    obtain ⟨e0, hz1⟩ := Prod.mk.inj (Option.some.inj hf)
    obtain ⟨e1, hz2⟩ := Prod.mk.inj hz1
    obtain ⟨e2, hz3⟩ := Prod.mk.inj hz2
    subst e0
    subst e1
    subst e2
    subst hz3
    exact rm_v hx hb hr hlk hP hS dX9_next_67

def fX9_manyOf  (p0 : Int32) : Option (Int32) :=
  (if p0 = (1156 : Int32) then (some (2 : Int32)) else (if p0 = (1420 : Int32) then (some (0 : Int32)) else (if p0 = (6194 : Int32) then (some (2 : Int32)) else (if p0 = (20141 : Int32) then (some (1 : Int32)) else (if p0 = (23609 : Int32) then (some (2 : Int32)) else (if p0 = (463922 : Int32) then (some (1 : Int32)) else (if p0 = (508078 : Int32) then (some (1 : Int32)) else (if p0 = (605220 : Int32) then (some (2 : Int32)) else (if p0 = (631476 : Int32) then (some (1 : Int32)) else (if p0 = (781852974 : Int32) then (some (2 : Int32)) else (some (-1 : Int32))))))))))))
set_option maxRecDepth 100000 in
set_option maxHeartbeats 4000000 in
theorem ctX9_manyOf (l : Launch) (p0 : Int32) (rv : Int32) (hf : fX9_manyOf p0 = some rv) : Met l yX9_manyOf wsX9_manyOf (rmN 0 0) (PS [.int p0]) (SI rv) 0 0 (fun _ => False) := by
  refine mk_met cX9_manyOf 1 (some .int) (by decide) rfl (Nat.le_of_ble_eq_true rfl) ?_
  intro p e s m args below meth c ls hx hb hr hlk hml hown hts _ hl
  replace hl : lv_has ls 1 [(0, .int p0)] := hl
  replace hown : s.vm.findClass RX9 = some m.cls := hown
  unfold fX9_manyOf at hf
  refine lv_iload_n hx hb dX9_manyOf_0 rfl (lv_at hl 0 rfl) ?_
  by_cases hc1156 : p0 = (1156 : Int32)
  · replace hf := (if_pos hc1156).symm.trans hf
    refine lv_lookup (tgt := 92) (off := 91) hx hb dX9_manyOf_1 (by decide) (by rw [hc1156]; decide) (by decide) ?_
    refine lv_iconst (v := (2 : Int32)) hx hb dX9_manyOf_92 (by decide) ?_
    exact re_i hx hb hr hlk dX9_manyOf_93 hf
  replace hf := (if_neg hc1156).symm.trans hf
  by_cases hc1420 : p0 = (1420 : Int32)
  · replace hf := (if_pos hc1420).symm.trans hf
    refine lv_lookup (tgt := 96) (off := 95) hx hb dX9_manyOf_1 (by decide) (by rw [hc1420]; decide) (by decide) ?_
    refine lv_iconst (v := (0 : Int32)) hx hb dX9_manyOf_96 (by decide) ?_
    exact re_i hx hb hr hlk dX9_manyOf_97 hf
  replace hf := (if_neg hc1420).symm.trans hf
  by_cases hc6194 : p0 = (6194 : Int32)
  · replace hf := (if_pos hc6194).symm.trans hf
    refine lv_lookup (tgt := 92) (off := 91) hx hb dX9_manyOf_1 (by decide) (by rw [hc6194]; decide) (by decide) ?_
    refine lv_iconst (v := (2 : Int32)) hx hb dX9_manyOf_92 (by decide) ?_
    exact re_i hx hb hr hlk dX9_manyOf_93 hf
  replace hf := (if_neg hc6194).symm.trans hf
  by_cases hc20141 : p0 = (20141 : Int32)
  · replace hf := (if_pos hc20141).symm.trans hf
    refine lv_lookup (tgt := 94) (off := 93) hx hb dX9_manyOf_1 (by decide) (by rw [hc20141]; decide) (by decide) ?_
    refine lv_iconst (v := (1 : Int32)) hx hb dX9_manyOf_94 (by decide) ?_
    exact re_i hx hb hr hlk dX9_manyOf_95 hf
  replace hf := (if_neg hc20141).symm.trans hf
  by_cases hc23609 : p0 = (23609 : Int32)
  · replace hf := (if_pos hc23609).symm.trans hf
    refine lv_lookup (tgt := 92) (off := 91) hx hb dX9_manyOf_1 (by decide) (by rw [hc23609]; decide) (by decide) ?_
    refine lv_iconst (v := (2 : Int32)) hx hb dX9_manyOf_92 (by decide) ?_
    exact re_i hx hb hr hlk dX9_manyOf_93 hf
  replace hf := (if_neg hc23609).symm.trans hf
  by_cases hc463922 : p0 = (463922 : Int32)
  · replace hf := (if_pos hc463922).symm.trans hf
    refine lv_lookup (tgt := 94) (off := 93) hx hb dX9_manyOf_1 (by decide) (by rw [hc463922]; decide) (by decide) ?_
    refine lv_iconst (v := (1 : Int32)) hx hb dX9_manyOf_94 (by decide) ?_
    exact re_i hx hb hr hlk dX9_manyOf_95 hf
  replace hf := (if_neg hc463922).symm.trans hf
  by_cases hc508078 : p0 = (508078 : Int32)
  · replace hf := (if_pos hc508078).symm.trans hf
    refine lv_lookup (tgt := 94) (off := 93) hx hb dX9_manyOf_1 (by decide) (by rw [hc508078]; decide) (by decide) ?_
    refine lv_iconst (v := (1 : Int32)) hx hb dX9_manyOf_94 (by decide) ?_
    exact re_i hx hb hr hlk dX9_manyOf_95 hf
  replace hf := (if_neg hc508078).symm.trans hf
  by_cases hc605220 : p0 = (605220 : Int32)
  · replace hf := (if_pos hc605220).symm.trans hf
    refine lv_lookup (tgt := 92) (off := 91) hx hb dX9_manyOf_1 (by decide) (by rw [hc605220]; decide) (by decide) ?_
    refine lv_iconst (v := (2 : Int32)) hx hb dX9_manyOf_92 (by decide) ?_
    exact re_i hx hb hr hlk dX9_manyOf_93 hf
  replace hf := (if_neg hc605220).symm.trans hf
  by_cases hc631476 : p0 = (631476 : Int32)
  · replace hf := (if_pos hc631476).symm.trans hf
    refine lv_lookup (tgt := 94) (off := 93) hx hb dX9_manyOf_1 (by decide) (by rw [hc631476]; decide) (by decide) ?_
    refine lv_iconst (v := (1 : Int32)) hx hb dX9_manyOf_94 (by decide) ?_
    exact re_i hx hb hr hlk dX9_manyOf_95 hf
  replace hf := (if_neg hc631476).symm.trans hf
  by_cases hc781852974 : p0 = (781852974 : Int32)
  · replace hf := (if_pos hc781852974).symm.trans hf
    refine lv_lookup (tgt := 92) (off := 91) hx hb dX9_manyOf_1 (by decide) (by rw [hc781852974]; decide) (by decide) ?_
    refine lv_iconst (v := (2 : Int32)) hx hb dX9_manyOf_92 (by decide) ?_
    exact re_i hx hb hr hlk dX9_manyOf_93 hf
  replace hf := (if_neg hc781852974).symm.trans hf
  refine lv_lookup (tgt := 98) (off := 97) hx hb dX9_manyOf_1 (by decide) (by rw [lv_osw hc1156 (by decide)]; rw [lv_osw hc1420 (by decide)]; rw [lv_osw hc6194 (by decide)]; rw [lv_osw hc20141 (by decide)]; rw [lv_osw hc23609 (by decide)]; rw [lv_osw hc463922 (by decide)]; rw [lv_osw hc508078 (by decide)]; rw [lv_osw hc605220 (by decide)]; rw [lv_osw hc631476 (by decide)]; rw [lv_osw hc781852974 (by decide)]; rfl) (by decide) ?_
  refine lv_iconst (v := (-1 : Int32)) hx hb dX9_manyOf_98 (by decide) ?_
  exact re_i hx hb hr hlk dX9_manyOf_99 hf

def fX9_mayBe_J50 (p1 : Int32) : Option (Int32) :=
  ((fX9_in (p1).toInt64 (1 : Int64) (99 : Int64)).bind fun r_1 => (some r_1))
def fX9_mayBe_J20 (mThe : Int32) (p1 : Int32) (t_4 : Int64) : Option (Int32) :=
  ((fX9_in (p1).toInt64 t_4 (mThe - (1 : Int32)).toInt64).bind fun r_5 => (some r_5))
def fX9_mayBe (mWor : Int32) (mThe : Int32) (p0 : Int32) (p1 : Int32) : Option (Int32) :=
  (if p0 = 0 then (if mWor = (605220 : Int32) then (fX9_mayBe_J20 mThe p1 (1 : Int64)) else (fX9_mayBe_J20 mThe p1 (0 : Int64))) else (if mWor = (1156 : Int32) then (fX9_mayBe_J50 p1) else (if mWor = (605220 : Int32) then (fX9_mayBe_J50 p1) else (if mWor = (781852974 : Int32) then ((fX9_in (p1).toInt64 (0 : Int64) (99 : Int64)).bind fun r_3 => (some r_3)) else ((fX9_in (p1).toInt64 (0 : Int64) (mThe - (1 : Int32)).toInt64).bind fun r_2 => (some r_2))))))
set_option maxRecDepth 100000 in
set_option maxHeartbeats 4000000 in
theorem ctX9_mayBe (l : Launch) (D : va_G) (cI cB cZ : ClassId) (bd : Nat → Nat) (mVil mBad mFul mLen mSig mWay mLef mSpo mBeg mTok mVal mWor mNum mThe : Int32) (mRts mLns mOpn mTxt mAns mWys mSiz mNbs : Nat → Int32) (p0 : Int32) (p1 : Int32) (rv : Int32) (hf : fX9_mayBe mWor mThe p0 p1 = some rv) : Met l yX9_mayBe wsX9_mayBe (rmN 1 25) (PR D (tyL cI cB cZ) (wM cI cB cZ bd mVil mBad mFul mLen mSig mWay mLef mSpo mBeg mTok mVal mWor mNum mThe mRts mLns mOpn mTxt mAns mWys mSiz mNbs) [.ref (bd 0), .int p0, .int p1]) (SI rv) 0 0 (fun _ => False) := by
  refine mk_met cX9_mayBe 3 (some .boolean) (by decide) rfl (Nat.le_of_ble_eq_true rfl) ?_
  intro p e s m args below meth c ls hx hb hr hlk hml hown hts hPK hl
  obtain ⟨hP, hK⟩ := hPK
  replace hl : lv_has ls 3 [(0, .ref (bd 0)), (1, .int p0), (2, .int p1)] := hl
  replace hown : s.vm.findClass RX9 = some m.cls := hown
  have hiX9 : ∀ w ∈ wsX90, w ∈ wsX9_mayBe := fun w h => List.mem_cons_of_mem _ (List.mem_append_right _ h)
  unfold fX9_mayBe at hf
  refine lv_iload_n hx hb dX9_mayBe_0 rfl (lv_at hl 1 rfl) ?_
  refine lv_if_ne (tgt := 31) hx hb dX9_mayBe_1 (by decide) (fun hc => ?_) (fun hc => ?_)
  · replace hf := (if_neg hc).symm.trans hf
    refine lv_aload_n hx hb dX9_mayBe_31 rfl (lv_at hl 0 rfl) ?_
    refine va_get (ci := 8) (v := .int mWor) (C := RX9) (T := TX9) (N := 22) hx hb hts hiX9 hown hK hP 0 rfl rfl 18 (by decide) (hts _ (List.mem_of_getElem? (i := 1) rfl)) (fun _ h9 => h9) rfl dX9_mayBe_32 ?_
    refine lv_sipush (v := (1156 : Int32)) hx hb dX9_mayBe_35 (by decide) ?_
    have hJ50 : ∀  (ls : Array Slot), fX9_mayBe_J50 p1 = some rv → lv_has ls 3 [(0, .ref (bd 0)), (1, .int p0), (2, .int p1)] → W p l e (rmN 1 25) s m args below meth c s.heap [] 0 0 (MQ below (SI rv) args s 0 0 (fun _ => False)) (F0 m 50 ls []) := by
      intro  ls hf hl
      unfold fX9_mayBe_J50 at hf
      refine lv_iload_n hx hb dX9_mayBe_50 rfl (lv_at hl 2 rfl) ?_
      refine lv_i2l (v := (p1).toInt64) hx hb dX9_mayBe_51 rfl ?_
      refine lv_lconst (v := (1 : Int64)) hx hb dX9_mayBe_52 (by decide) ?_
      refine lv_ldc2 (v := (99 : Int64)) hx hb hown (hts _ (List.mem_of_getElem? (i := 4) rfl)) dX9_mayBe_53 ?_
      obtain ⟨r_1, hq, hf⟩ := ob hf
      try dsimp only at hf
      refine rcS (As := [.long (p1).toInt64, .long (1 : Int64), .long (99 : Int64)]) (rest := []) ⟨hx, hb, hml, hown, hts⟩ (ctX9_in l (p1).toInt64 (1 : Int64) (99 : Int64) r_1 hq) (va_cwS 3 hts gX9_mayBe_X9_in rfl rfl rfl (by decide +kernel) ⟨Nat.le_of_ble_eq_true rfl, Nat.le_of_ble_eq_true rfl⟩) rfl hl.1 rfl (Nat.le_of_ble_eq_true rfl) dX9_mayBe_56 ⟨Nat.zero_le _, Nat.zero_le _⟩ ?_
      refine lv_goto (tgt := 96) hx hb dX9_mayBe_59 (by decide) ?_
      exact re_z hx hb hr hlk (nzX9_in hq) dX9_mayBe_96 hf
    refine lv_icmp_eq (tgt := 50) hx hb dX9_mayBe_38 (by decide) (fun hc => ?_) (fun hc => ?_)
    · replace hf := (if_pos hc).symm.trans hf
      exact hJ50  _ hf (lv_sub hl [0, 1, 2] rfl)
    · replace hf := (if_neg hc).symm.trans hf
      refine lv_aload_n hx hb dX9_mayBe_41 rfl (lv_at hl 0 rfl) ?_
      refine va_get (ci := 8) (v := .int mWor) (C := RX9) (T := TX9) (N := 22) hx hb hts hiX9 hown hK hP 0 rfl rfl 18 (by decide) (hts _ (List.mem_of_getElem? (i := 1) rfl)) (fun _ h9 => h9) rfl dX9_mayBe_42 ?_
      refine lv_ldc (v := (605220 : Int32)) hx hb hown (hts _ (List.mem_of_getElem? (i := 2) rfl)) dX9_mayBe_45 ?_
      refine lv_icmp_ne (tgt := 62) hx hb dX9_mayBe_47 (by decide) (fun hc => ?_) (fun hc => ?_)
      · replace hf := (if_neg hc).symm.trans hf
        refine lv_aload_n hx hb dX9_mayBe_62 rfl (lv_at hl 0 rfl) ?_
        refine va_get (ci := 8) (v := .int mWor) (C := RX9) (T := TX9) (N := 22) hx hb hts hiX9 hown hK hP 0 rfl rfl 18 (by decide) (hts _ (List.mem_of_getElem? (i := 1) rfl)) (fun _ h9 => h9) rfl dX9_mayBe_63 ?_
        refine lv_ldc (v := (781852974 : Int32)) hx hb hown (hts _ (List.mem_of_getElem? (i := 5) rfl)) dX9_mayBe_66 ?_
        refine lv_icmp_ne (tgt := 83) hx hb dX9_mayBe_68 (by decide) (fun hc => ?_) (fun hc => ?_)
        · replace hf := (if_neg hc).symm.trans hf
          refine lv_iload_n hx hb dX9_mayBe_83 rfl (lv_at hl 2 rfl) ?_
          refine lv_i2l (v := (p1).toInt64) hx hb dX9_mayBe_84 rfl ?_
          refine lv_lconst (v := (0 : Int64)) hx hb dX9_mayBe_85 (by decide) ?_
          refine lv_aload_n hx hb dX9_mayBe_86 rfl (lv_at hl 0 rfl) ?_
          refine va_get (ci := 8) (v := .int mThe) (C := RX9) (T := TX9) (N := 22) hx hb hts hiX9 hown hK hP 0 rfl rfl 21 (by decide) (hts _ (List.mem_of_getElem? (i := 3) rfl)) (fun _ h9 => h9) rfl dX9_mayBe_87 ?_
          refine lv_iconst (v := (1 : Int32)) hx hb dX9_mayBe_90 (by decide) ?_
          refine lv_isub hx hb dX9_mayBe_91 ?_
          refine lv_i2l (v := (mThe - (1 : Int32)).toInt64) hx hb dX9_mayBe_92 rfl ?_
          obtain ⟨r_2, hq, hf⟩ := ob hf
          try dsimp only at hf
          refine rcS (As := [.long (p1).toInt64, .long (0 : Int64), .long (mThe - (1 : Int32)).toInt64]) (rest := []) ⟨hx, hb, hml, hown, hts⟩ (ctX9_in l (p1).toInt64 (0 : Int64) (mThe - (1 : Int32)).toInt64 r_2 hq) (va_cwS 3 hts gX9_mayBe_X9_in rfl rfl rfl (by decide +kernel) ⟨Nat.le_of_ble_eq_true rfl, Nat.le_of_ble_eq_true rfl⟩) rfl hl.1 rfl (Nat.le_of_ble_eq_true rfl) dX9_mayBe_93 ⟨Nat.zero_le _, Nat.zero_le _⟩ ?_
          exact re_z hx hb hr hlk (nzX9_in hq) dX9_mayBe_96 hf
        · replace hf := (if_pos hc).symm.trans hf
          refine lv_iload_n hx hb dX9_mayBe_71 rfl (lv_at hl 2 rfl) ?_
          refine lv_i2l (v := (p1).toInt64) hx hb dX9_mayBe_72 rfl ?_
          refine lv_lconst (v := (0 : Int64)) hx hb dX9_mayBe_73 (by decide) ?_
          refine lv_ldc2 (v := (99 : Int64)) hx hb hown (hts _ (List.mem_of_getElem? (i := 4) rfl)) dX9_mayBe_74 ?_
          obtain ⟨r_3, hq, hf⟩ := ob hf
          try dsimp only at hf
          refine rcS (As := [.long (p1).toInt64, .long (0 : Int64), .long (99 : Int64)]) (rest := []) ⟨hx, hb, hml, hown, hts⟩ (ctX9_in l (p1).toInt64 (0 : Int64) (99 : Int64) r_3 hq) (va_cwS 3 hts gX9_mayBe_X9_in rfl rfl rfl (by decide +kernel) ⟨Nat.le_of_ble_eq_true rfl, Nat.le_of_ble_eq_true rfl⟩) rfl hl.1 rfl (Nat.le_of_ble_eq_true rfl) dX9_mayBe_77 ⟨Nat.zero_le _, Nat.zero_le _⟩ ?_
          refine lv_goto (tgt := 96) hx hb dX9_mayBe_80 (by decide) ?_
          exact re_z hx hb hr hlk (nzX9_in hq) dX9_mayBe_96 hf
      · replace hf := (if_pos hc).symm.trans hf
        exact hJ50  _ hf (lv_sub hl [0, 1, 2] rfl)
  · replace hf := (if_pos hc).symm.trans hf
    refine lv_iload_n hx hb dX9_mayBe_4 rfl (lv_at hl 2 rfl) ?_
    refine lv_i2l (v := (p1).toInt64) hx hb dX9_mayBe_5 rfl ?_
    refine lv_aload_n hx hb dX9_mayBe_6 rfl (lv_at hl 0 rfl) ?_
    refine va_get (ci := 8) (v := .int mWor) (C := RX9) (T := TX9) (N := 22) hx hb hts hiX9 hown hK hP 0 rfl rfl 18 (by decide) (hts _ (List.mem_of_getElem? (i := 1) rfl)) (fun _ h9 => h9) rfl dX9_mayBe_7 ?_
    refine lv_ldc (v := (605220 : Int32)) hx hb hown (hts _ (List.mem_of_getElem? (i := 2) rfl)) dX9_mayBe_10 ?_
    have hJ20 : ∀ (t_4 : Int64) (ls : Array Slot), fX9_mayBe_J20 mThe p1 t_4 = some rv → lv_has ls 3 [(0, .ref (bd 0)), (1, .int p0), (2, .int p1)] → W p l e (rmN 1 25) s m args below meth c s.heap [] 0 0 (MQ below (SI rv) args s 0 0 (fun _ => False)) (F0 m 20 ls [.long t_4, .long (p1).toInt64]) := by
      intro t_4 ls hf hl
      unfold fX9_mayBe_J20 at hf
      refine lv_aload_n hx hb dX9_mayBe_20 rfl (lv_at hl 0 rfl) ?_
      refine va_get (ci := 8) (v := .int mThe) (C := RX9) (T := TX9) (N := 22) hx hb hts hiX9 hown hK hP 0 rfl rfl 21 (by decide) (hts _ (List.mem_of_getElem? (i := 3) rfl)) (fun _ h9 => h9) rfl dX9_mayBe_21 ?_
      refine lv_iconst (v := (1 : Int32)) hx hb dX9_mayBe_24 (by decide) ?_
      refine lv_isub hx hb dX9_mayBe_25 ?_
      refine lv_i2l (v := (mThe - (1 : Int32)).toInt64) hx hb dX9_mayBe_26 rfl ?_
      obtain ⟨r_5, hq, hf⟩ := ob hf
      try dsimp only at hf
      refine rcS (As := [.long (p1).toInt64, .long t_4, .long (mThe - (1 : Int32)).toInt64]) (rest := []) ⟨hx, hb, hml, hown, hts⟩ (ctX9_in l (p1).toInt64 t_4 (mThe - (1 : Int32)).toInt64 r_5 hq) (va_cwS 3 hts gX9_mayBe_X9_in rfl rfl rfl (by decide +kernel) ⟨Nat.le_of_ble_eq_true rfl, Nat.le_of_ble_eq_true rfl⟩) rfl hl.1 rfl (Nat.le_of_ble_eq_true rfl) dX9_mayBe_27 ⟨Nat.zero_le _, Nat.zero_le _⟩ ?_
      exact re_z hx hb hr hlk (nzX9_in hq) dX9_mayBe_30 hf
    refine lv_icmp_ne (tgt := 19) hx hb dX9_mayBe_12 (by decide) (fun hc => ?_) (fun hc => ?_)
    · replace hf := (if_neg hc).symm.trans hf
      refine lv_lconst (v := (0 : Int64)) hx hb dX9_mayBe_19 (by decide) ?_
      exact hJ20 _ _ hf (lv_sub hl [0, 1, 2] rfl)
    · replace hf := (if_pos hc).symm.trans hf
      refine lv_lconst (v := (1 : Int64)) hx hb dX9_mayBe_15 (by decide) ?_
      refine lv_goto (tgt := 20) hx hb dX9_mayBe_16 (by decide) ?_
      exact hJ20 _ _ hf (lv_sub hl [0, 1, 2] rfl)

def fX9_isSentence_J131 (mThe : Int32) (qmVal_4 : Int32) (wmNbs_11 : Nat → Int32) (qmSpo_12 : Int32) (qmBeg_13 : Int32) (qmTok_14 : Int32) (qmVal_15 : Int32) (t_16 : Int32) : Option (Int32 × Int32 × Int32 × Int32 × Int32 × Int32 × Int32 × (Nat → Int32)) :=
  (if qmTok_14 = (3 : Int32) then (some ((1 : Int32), qmSpo_12, qmBeg_13, qmTok_14, qmVal_15, qmVal_4, (mThe + t_16), wmNbs_11)) else (some ((0 : Int32), qmSpo_12, qmBeg_13, qmTok_14, qmVal_15, qmVal_4, (mThe + t_16), wmNbs_11)))
def fX9_isSentence_L60 (mLen : Int32) (mThe : Int32) (mTxt : Nat → Int32) (qmVal_4 : Int32) (t_5 : Int32) (kk : (Int32 × Int32 × Int32 × Int32 × Int32 × (Nat → Int32)) → Option (Int32 × Int32 × Int32 × Int32 × Int32 × Int32 × Int32 × (Nat → Int32))) (ww : Int32 × Int32 × Int32 × Int32 × Int32 × (Nat → Int32)) : Option (Int32 × Int32 × Int32 × Int32 × Int32 × Int32 × Int32 × (Nat → Int32)) :=
  match ww with
  | (v2_6, wmSpo_7, wmBeg_8, wmTok_9, wmVal_10, wmNbs_11) => (if t_5 ≤ v2_6 then ((fX9_next mLen wmSpo_7 wmBeg_8 wmTok_9 wmVal_10 mTxt).bind fun (qmSpo_12, qmBeg_13, qmTok_14, qmVal_15) => (if qmVal_4 = (1156 : Int32) then (fX9_isSentence_J131 mThe qmVal_4 wmNbs_11 qmSpo_12 qmBeg_13 qmTok_14 qmVal_15 (1 : Int32)) else (fX9_isSentence_J131 mThe qmVal_4 wmNbs_11 qmSpo_12 qmBeg_13 qmTok_14 qmVal_15 (0 : Int32)))) else ((fX9_next mLen wmSpo_7 wmBeg_8 wmTok_9 wmVal_10 mTxt).bind fun (qmSpo_17, qmBeg_18, qmTok_19, qmVal_20) => (if qmTok_19 = (2 : Int32) then ((fX9_mayBe qmVal_4 mThe v2_6 qmVal_20).bind fun r_21 => (if r_21 = 0 then (some ((0 : Int32), qmSpo_17, qmBeg_18, qmTok_19, qmVal_20, qmVal_4, mThe, wmNbs_11)) else (if gI v2_6 2 then (kk ((v2_6 + (1 : Int32)), qmSpo_17, qmBeg_18, qmTok_19, qmVal_20, (upd wmNbs_11 (v2_6).toNatClampNeg qmVal_20))) else none))) else (some ((0 : Int32), qmSpo_17, qmBeg_18, qmTok_19, qmVal_20, qmVal_4, mThe, wmNbs_11)))))
def fX9_isSentence_J58 (mLen : Int32) (mThe : Int32) (mTxt : Nat → Int32) (mNbs : Nat → Int32) (qmSpo_1 : Int32) (qmBeg_2 : Int32) (qmTok_3 : Int32) (qmVal_4 : Int32) (t_5 : Int32) : Option (Int32 × Int32 × Int32 × Int32 × Int32 × Int32 × Int32 × (Nat → Int32)) :=
  (lp (fX9_isSentence_L60 mLen mThe mTxt qmVal_4 t_5) FU ((0 : Int32), qmSpo_1, qmBeg_2, qmTok_3, qmVal_4, mNbs))
def fX9_isSentence_J31 (mLen : Int32) (mThe : Int32) (mTxt : Nat → Int32) (mNbs : Nat → Int32) (qmSpo_1 : Int32) (qmBeg_2 : Int32) (qmTok_3 : Int32) (qmVal_4 : Int32) (t_5 : Int32) : Option (Int32 × Int32 × Int32 × Int32 × Int32 × Int32 × Int32 × (Nat → Int32)) :=
  (if t_5 = (-1 : Int32) then (some ((0 : Int32), qmSpo_1, qmBeg_2, qmTok_3, qmVal_4, qmVal_4, mThe, mNbs)) else (if qmVal_4 = (1156 : Int32) then (if mThe = (60 : Int32) then (some ((0 : Int32), qmSpo_1, qmBeg_2, qmTok_3, qmVal_4, qmVal_4, mThe, mNbs)) else (fX9_isSentence_J58 mLen mThe mTxt mNbs qmSpo_1 qmBeg_2 qmTok_3 qmVal_4 t_5)) else (fX9_isSentence_J58 mLen mThe mTxt mNbs qmSpo_1 qmBeg_2 qmTok_3 qmVal_4 t_5)))
def fX9_isSentence (mLen : Int32) (mSpo : Int32) (mBeg : Int32) (mTok : Int32) (mVal : Int32) (mWor : Int32) (mThe : Int32) (mTxt : Nat → Int32) (mNbs : Nat → Int32)  : Option (Int32 × Int32 × Int32 × Int32 × Int32 × Int32 × Int32 × (Nat → Int32)) :=
  ((fX9_next mLen mSpo mBeg mTok mVal mTxt).bind fun (qmSpo_1, qmBeg_2, qmTok_3, qmVal_4) => (if qmTok_3 = (1 : Int32) then ((fX9_manyOf qmVal_4).bind fun r_22 => (fX9_isSentence_J31 mLen mThe mTxt mNbs qmSpo_1 qmBeg_2 qmTok_3 qmVal_4 r_22)) else (fX9_isSentence_J31 mLen mThe mTxt mNbs qmSpo_1 qmBeg_2 qmTok_3 qmVal_4 (-1 : Int32))))
set_option maxRecDepth 100000 in
set_option maxHeartbeats 4000000 in
theorem ctX9_isSentence (l : Launch) (D : va_G) (cI cB cZ : ClassId) (bd : Nat → Nat) (A : Nat → Prop) (hAD : AD A bd 9) (mVil mBad mFul mLen mSig mWay mLef mSpo mBeg mTok mVal mWor mNum mThe : Int32) (mRts mLns mOpn mTxt mAns mWys mSiz mNbs : Nat → Int32)  (rv : Int32) (zmSpo : Int32) (zmBeg : Int32) (zmTok : Int32) (zmVal : Int32) (zmWor : Int32) (zmThe : Int32) (zmNbs : Nat → Int32) (hf : fX9_isSentence mLen mSpo mBeg mTok mVal mWor mThe mTxt mNbs = some (rv, zmSpo, zmBeg, zmTok, zmVal, zmWor, zmThe, zmNbs)) : Met l yX9_isSentence wsX9_isSentence (rmN 3 67) (PR D (tyL cI cB cZ) (wM cI cB cZ bd mVil mBad mFul mLen mSig mWay mLef mSpo mBeg mTok mVal mWor mNum mThe mRts mLns mOpn mTxt mAns mWys mSiz mNbs) [.ref (bd 0)]) (QI D (wM cI cB cZ bd mVil mBad mFul mLen mSig mWay mLef zmSpo zmBeg zmTok zmVal zmWor mNum zmThe mRts mLns mOpn mTxt mAns mWys mSiz zmNbs) A rv) 0 0 A := by
  refine mk_met cX9_isSentence 3 (some .boolean) (by decide) rfl (Nat.le_of_ble_eq_true rfl) ?_
  intro p e s m args below meth c ls hx hb hr hlk hml hown hts hPK hl
  obtain ⟨hP, hK⟩ := hPK
  replace hl : lv_has ls 3 [(0, .ref (bd 0))] := hl
  replace hown : s.vm.findClass RX9 = some m.cls := hown
  have hiX9 : ∀ w ∈ wsX90, w ∈ wsX9_isSentence := fun w h => List.mem_cons_of_mem _ (List.mem_append_right _ h)
  have hS : va_S A s.heap s.heap [] := va_S.rf
  unfold fX9_isSentence at hf
  refine lv_aload_n hx hb dX9_isSentence_0 rfl (lv_at hl 0 rfl) ?_
  obtain ⟨⟨qmSpo_1, qmBeg_2, qmTok_3, qmVal_4⟩, hq, hf⟩ := ob hf
  try dsimp only at hf
  refine mcVv 0 8 (As := []) (rest := []) ⟨hx, hb, hml, hown, hts⟩ (ctX9_next l D cI cB cZ bd A hAD mVil mBad mFul mLen mSig mWay mLef mSpo mBeg mTok mVal mWor mNum mThe mRts mLns mOpn mTxt mAns mWys mSiz mNbs  qmSpo_1 qmBeg_2 qmTok_3 qmVal_4 hq) (cwV 0 hts gX9_isSentence_X9_next rfl rfl rfl (by decide +kernel) ⟨Nat.le_of_ble_eq_true rfl, Nat.le_of_ble_eq_true rfl⟩) hK hP hS rfl rfl rfl hl.1 rfl (Nat.le_of_ble_eq_true rfl) dX9_isSentence_1 ⟨Nat.zero_le _, Nat.zero_le _⟩ (fun H locs hP hS => ?_)
  refine lv_aload_n hx hb dX9_isSentence_4 rfl (lv_at hl 0 rfl) ?_
  refine lv_aload_n hx hb dX9_isSentence_5 rfl (lv_at hl 0 rfl) ?_
  refine va_get (ci := 8) (v := .int qmVal_4) (C := RX9) (T := TX9) (N := 22) hx hb hts hiX9 hown hK hP 0 rfl rfl 17 (by decide) (hts _ (List.mem_of_getElem? (i := 1) rfl)) (fun _ h9 => h9) rfl dX9_isSentence_6 ?_
  refine va_put (ci := 8) (v := .int qmVal_4) (ty := .int) (C := RX9) (T := TX9) (N := 22) hx hb hts hiX9 tyX9 tyX9_ok nmX9 hown hK hP (wM_D hAD) hS 0 rfl rfl 18 (by decide) (hts _ (List.mem_of_getElem? (i := 2) rfl)) (fun _ h9 => h9) rfl (tyX9_ok 18 (by decide)) rfl rfl (Nat.le_of_ble_eq_true rfl) dX9_isSentence_9 (fun H locs hP _ hS => ?_)
  have hP : va_P D vwCl (wM cI cB cZ bd mVil mBad mFul mLen mSig mWay mLef qmSpo_1 qmBeg_2 qmTok_3 qmVal_4 qmVal_4 mNum mThe mRts mLns mOpn mTxt mAns mWys mSiz mNbs) H := hP
  refine lv_aload_n hx hb dX9_isSentence_12 rfl (lv_at hl 0 rfl) ?_
  refine va_get (ci := 8) (v := .int qmTok_3) (C := RX9) (T := TX9) (N := 22) hx hb hts hiX9 hown hK hP 0 rfl rfl 16 (by decide) (hts _ (List.mem_of_getElem? (i := 3) rfl)) (fun _ h9 => h9) rfl dX9_isSentence_13 ?_
  refine lv_iconst (v := (1 : Int32)) hx hb dX9_isSentence_16 (by decide) ?_
  have hJ31 : ∀ (t_5 : Int32) (H : Heap) (locs : List Loc) (ls : Array Slot), fX9_isSentence_J31 mLen mThe mTxt mNbs qmSpo_1 qmBeg_2 qmTok_3 qmVal_4 t_5 = some (rv, zmSpo, zmBeg, zmTok, zmVal, zmWor, zmThe, zmNbs) → va_P D vwCl (wM cI cB cZ bd mVil mBad mFul mLen mSig mWay mLef qmSpo_1 qmBeg_2 qmTok_3 qmVal_4 qmVal_4 mNum mThe mRts mLns mOpn mTxt mAns mWys mSiz mNbs) H → va_S A s.heap H locs → lv_has ls 3 [(0, .ref (bd 0))] → W p l e (rmN 3 67) s m args below meth c H locs 0 0 (MQ below (QI D (wM cI cB cZ bd mVil mBad mFul mLen mSig mWay mLef zmSpo zmBeg zmTok zmVal zmWor mNum zmThe mRts mLns mOpn mTxt mAns mWys mSiz zmNbs) A rv) args s 0 0 A) (F0 m 31 ls [.int t_5]) := by
    intro t_5 H locs ls hf hP hS hl
    unfold fX9_isSentence_J31 at hf
    refine lv_istore_n (lv' := [(1, .int t_5), (0, .ref (bd 0))]) hx hb dX9_isSentence_31 rfl hl (by decide) rfl (fun ls hl => ?_)
    refine lv_iload_n hx hb dX9_isSentence_32 rfl (lv_at hl 0 rfl) ?_
    refine lv_iconst (v := (-1 : Int32)) hx hb dX9_isSentence_33 (by decide) ?_
    refine lv_icmp_eq (tgt := 56) hx hb dX9_isSentence_34 (by decide) (fun hc => ?_) (fun hc => ?_)
    · replace hf := (if_pos hc).symm.trans hf
      refine lv_iconst (v := (0 : Int32)) hx hb dX9_isSentence_56 (by decide) ?_
      obtain ⟨e0, hz1⟩ := Prod.mk.inj (Option.some.inj hf)
      obtain ⟨e1, hz2⟩ := Prod.mk.inj hz1
      obtain ⟨e2, hz3⟩ := Prod.mk.inj hz2
      obtain ⟨e3, hz4⟩ := Prod.mk.inj hz3
      obtain ⟨e4, hz5⟩ := Prod.mk.inj hz4
      obtain ⟨e5, hz6⟩ := Prod.mk.inj hz5
      obtain ⟨e6, hz7⟩ := Prod.mk.inj hz6
      subst e0
      subst e1
      subst e2
      subst e3
      subst e4
      subst e5
      subst e6
      subst hz7
      exact rm_z hx hb hr hlk (by decide) hP hS dX9_isSentence_57
    · replace hf := (if_neg hc).symm.trans hf
      refine lv_aload_n hx hb dX9_isSentence_37 rfl (lv_at hl 1 rfl) ?_
      refine va_get (ci := 8) (v := .int qmVal_4) (C := RX9) (T := TX9) (N := 22) hx hb hts hiX9 hown hK hP 0 rfl rfl 18 (by decide) (hts _ (List.mem_of_getElem? (i := 2) rfl)) (fun _ h9 => h9) rfl dX9_isSentence_38 ?_
      refine lv_sipush (v := (1156 : Int32)) hx hb dX9_isSentence_41 (by decide) ?_
      have hJ58 : ∀  (H : Heap) (locs : List Loc) (ls : Array Slot), fX9_isSentence_J58 mLen mThe mTxt mNbs qmSpo_1 qmBeg_2 qmTok_3 qmVal_4 t_5 = some (rv, zmSpo, zmBeg, zmTok, zmVal, zmWor, zmThe, zmNbs) → va_P D vwCl (wM cI cB cZ bd mVil mBad mFul mLen mSig mWay mLef qmSpo_1 qmBeg_2 qmTok_3 qmVal_4 qmVal_4 mNum mThe mRts mLns mOpn mTxt mAns mWys mSiz mNbs) H → va_S A s.heap H locs → lv_has ls 3 [(0, .ref (bd 0)), (1, .int t_5)] → W p l e (rmN 3 67) s m args below meth c H locs 0 0 (MQ below (QI D (wM cI cB cZ bd mVil mBad mFul mLen mSig mWay mLef zmSpo zmBeg zmTok zmVal zmWor mNum zmThe mRts mLns mOpn mTxt mAns mWys mSiz zmNbs) A rv) args s 0 0 A) (F0 m 58 ls []) := by
        intro  H locs ls hf hP hS hl
        unfold fX9_isSentence_J58 at hf
        refine lv_iconst (v := (0 : Int32)) hx hb dX9_isSentence_58 (by decide) ?_
        refine lv_istore_n (lv' := [(2, .int (0 : Int32)), (0, .ref (bd 0)), (1, .int t_5)]) hx hb dX9_isSentence_59 rfl hl (by decide) rfl (fun ls hl => ?_)
        have hL60 : ∀ (n : Nat) (v2_6 : Int32) (wmSpo_7 : Int32) (wmBeg_8 : Int32) (wmTok_9 : Int32) (wmVal_10 : Int32) (wmNbs_11 : Nat → Int32) (H : Heap) (locs : List Loc) (ls : Array Slot), lp (fX9_isSentence_L60 mLen mThe mTxt qmVal_4 t_5) n (v2_6, wmSpo_7, wmBeg_8, wmTok_9, wmVal_10, wmNbs_11) = some (rv, zmSpo, zmBeg, zmTok, zmVal, zmWor, zmThe, zmNbs) → va_P D vwCl (wM cI cB cZ bd mVil mBad mFul mLen mSig mWay mLef wmSpo_7 wmBeg_8 wmTok_9 wmVal_10 qmVal_4 mNum mThe mRts mLns mOpn mTxt mAns mWys mSiz wmNbs_11) H → va_S A s.heap H locs → lv_has ls 3 [(0, .ref (bd 0)), (1, .int t_5), (2, .int v2_6)] → W p l e (rmN 3 67) s m args below meth c H locs 0 0 (MQ below (QI D (wM cI cB cZ bd mVil mBad mFul mLen mSig mWay mLef zmSpo zmBeg zmTok zmVal zmWor mNum zmThe mRts mLns mOpn mTxt mAns mWys mSiz zmNbs) A rv) args s 0 0 A) (F0 m 60 ls []) := by
          intro n
          induction n with
          | zero => intro v2_6 wmSpo_7 wmBeg_8 wmTok_9 wmVal_10 wmNbs_11 H locs ls hf; exact (lp_0 hf).elim
          | succ n ih =>
            intro v2_6 wmSpo_7 wmBeg_8 wmTok_9 wmVal_10 wmNbs_11 H locs ls hf hP hS hl
            replace hf := lp_s hf
            dsimp only [fX9_isSentence_L60] at hf
            refine lv_iload_n hx hb dX9_isSentence_60 rfl (lv_at hl 2 rfl) ?_
            refine lv_iload_n hx hb dX9_isSentence_61 rfl (lv_at hl 1 rfl) ?_
            refine lv_icmp_ge (tgt := 107) hx hb dX9_isSentence_62 (by decide) (fun hc => ?_) (fun hc => ?_)
            · replace hf := (if_pos hc).symm.trans hf
              refine lv_aload_n hx hb dX9_isSentence_107 rfl (lv_at hl 0 rfl) ?_
              obtain ⟨⟨qmSpo_12, qmBeg_13, qmTok_14, qmVal_15⟩, hq, hf⟩ := ob hf
              try dsimp only at hf
              refine mcVv 0 8 (As := []) (rest := []) ⟨hx, hb, hml, hown, hts⟩ (ctX9_next l D cI cB cZ bd A hAD mVil mBad mFul mLen mSig mWay mLef wmSpo_7 wmBeg_8 wmTok_9 wmVal_10 qmVal_4 mNum mThe mRts mLns mOpn mTxt mAns mWys mSiz wmNbs_11  qmSpo_12 qmBeg_13 qmTok_14 qmVal_15 hq) (cwV 0 hts gX9_isSentence_X9_next rfl rfl rfl (by decide +kernel) ⟨Nat.le_of_ble_eq_true rfl, Nat.le_of_ble_eq_true rfl⟩) hK hP hS rfl rfl rfl hl.1 rfl (Nat.le_of_ble_eq_true rfl) dX9_isSentence_108 ⟨Nat.zero_le _, Nat.zero_le _⟩ (fun H locs hP hS => ?_)
              refine lv_aload_n hx hb dX9_isSentence_111 rfl (lv_at hl 0 rfl) ?_
              refine lv_dup hx hb dX9_isSentence_112 rfl ?_
              refine va_get (ci := 8) (v := .int mThe) (C := RX9) (T := TX9) (N := 22) hx hb hts hiX9 hown hK hP 0 rfl rfl 21 (by decide) (hts _ (List.mem_of_getElem? (i := 4) rfl)) (fun _ h9 => h9) rfl dX9_isSentence_113 ?_
              refine lv_aload_n hx hb dX9_isSentence_116 rfl (lv_at hl 0 rfl) ?_
              refine va_get (ci := 8) (v := .int qmVal_4) (C := RX9) (T := TX9) (N := 22) hx hb hts hiX9 hown hK hP 0 rfl rfl 18 (by decide) (hts _ (List.mem_of_getElem? (i := 2) rfl)) (fun _ h9 => h9) rfl dX9_isSentence_117 ?_
              refine lv_sipush (v := (1156 : Int32)) hx hb dX9_isSentence_120 (by decide) ?_
              have hJ131 : ∀ (t_16 : Int32) (H : Heap) (locs : List Loc) (ls : Array Slot), fX9_isSentence_J131 mThe qmVal_4 wmNbs_11 qmSpo_12 qmBeg_13 qmTok_14 qmVal_15 t_16 = some (rv, zmSpo, zmBeg, zmTok, zmVal, zmWor, zmThe, zmNbs) → va_P D vwCl (wM cI cB cZ bd mVil mBad mFul mLen mSig mWay mLef qmSpo_12 qmBeg_13 qmTok_14 qmVal_15 qmVal_4 mNum mThe mRts mLns mOpn mTxt mAns mWys mSiz wmNbs_11) H → va_S A s.heap H locs → lv_has ls 3 [(0, .ref (bd 0)), (1, .int t_5), (2, .int v2_6)] → W p l e (rmN 3 67) s m args below meth c H locs 0 0 (MQ below (QI D (wM cI cB cZ bd mVil mBad mFul mLen mSig mWay mLef zmSpo zmBeg zmTok zmVal zmWor mNum zmThe mRts mLns mOpn mTxt mAns mWys mSiz zmNbs) A rv) args s 0 0 A) (F0 m 131 ls [.int t_16, .int mThe, .ref (bd 0)]) := by
                intro t_16 H locs ls hf hP hS hl
                unfold fX9_isSentence_J131 at hf
                refine lv_iadd hx hb dX9_isSentence_131 ?_
                refine va_put (ci := 8) (v := .int (mThe + t_16)) (ty := .int) (C := RX9) (T := TX9) (N := 22) hx hb hts hiX9 tyX9 tyX9_ok nmX9 hown hK hP (wM_D hAD) hS 0 rfl rfl 21 (by decide) (hts _ (List.mem_of_getElem? (i := 4) rfl)) (fun _ h9 => h9) rfl (tyX9_ok 21 (by decide)) rfl rfl (Nat.le_of_ble_eq_true rfl) dX9_isSentence_132 (fun H locs hP _ hS => ?_)
                have hP : va_P D vwCl (wM cI cB cZ bd mVil mBad mFul mLen mSig mWay mLef qmSpo_12 qmBeg_13 qmTok_14 qmVal_15 qmVal_4 mNum (mThe + t_16) mRts mLns mOpn mTxt mAns mWys mSiz wmNbs_11) H := hP
                refine lv_aload_n hx hb dX9_isSentence_135 rfl (lv_at hl 0 rfl) ?_
                refine va_get (ci := 8) (v := .int qmTok_14) (C := RX9) (T := TX9) (N := 22) hx hb hts hiX9 hown hK hP 0 rfl rfl 16 (by decide) (hts _ (List.mem_of_getElem? (i := 3) rfl)) (fun _ h9 => h9) rfl dX9_isSentence_136 ?_
                refine lv_iconst (v := (3 : Int32)) hx hb dX9_isSentence_139 (by decide) ?_
                refine lv_icmp_ne (tgt := 147) hx hb dX9_isSentence_140 (by decide) (fun hc => ?_) (fun hc => ?_)
                · replace hf := (if_neg hc).symm.trans hf
                  refine lv_iconst (v := (0 : Int32)) hx hb dX9_isSentence_147 (by decide) ?_
                  obtain ⟨e0, hz1⟩ := Prod.mk.inj (Option.some.inj hf)
                  obtain ⟨e1, hz2⟩ := Prod.mk.inj hz1
                  obtain ⟨e2, hz3⟩ := Prod.mk.inj hz2
                  obtain ⟨e3, hz4⟩ := Prod.mk.inj hz3
                  obtain ⟨e4, hz5⟩ := Prod.mk.inj hz4
                  obtain ⟨e5, hz6⟩ := Prod.mk.inj hz5
                  obtain ⟨e6, hz7⟩ := Prod.mk.inj hz6
                  subst e0
                  subst e1
                  subst e2
                  subst e3
                  subst e4
                  subst e5
                  subst e6
                  subst hz7
                  exact rm_z hx hb hr hlk (by decide) hP hS dX9_isSentence_148
                · replace hf := (if_pos hc).symm.trans hf
                  refine lv_iconst (v := (1 : Int32)) hx hb dX9_isSentence_143 (by decide) ?_
                  refine lv_goto (tgt := 148) hx hb dX9_isSentence_144 (by decide) ?_
                  obtain ⟨e0, hz1⟩ := Prod.mk.inj (Option.some.inj hf)
                  obtain ⟨e1, hz2⟩ := Prod.mk.inj hz1
                  obtain ⟨e2, hz3⟩ := Prod.mk.inj hz2
                  obtain ⟨e3, hz4⟩ := Prod.mk.inj hz3
                  obtain ⟨e4, hz5⟩ := Prod.mk.inj hz4
                  obtain ⟨e5, hz6⟩ := Prod.mk.inj hz5
                  obtain ⟨e6, hz7⟩ := Prod.mk.inj hz6
                  subst e0
                  subst e1
                  subst e2
                  subst e3
                  subst e4
                  subst e5
                  subst e6
                  subst hz7
                  exact rm_z hx hb hr hlk (by decide) hP hS dX9_isSentence_148
              refine lv_icmp_ne (tgt := 130) hx hb dX9_isSentence_123 (by decide) (fun hc => ?_) (fun hc => ?_)
              · replace hf := (if_neg hc).symm.trans hf
                refine lv_iconst (v := (0 : Int32)) hx hb dX9_isSentence_130 (by decide) ?_
                exact hJ131 _ _ _ _ hf hP hS (lv_sub hl [0, 1, 2] rfl)
              · replace hf := (if_pos hc).symm.trans hf
                refine lv_iconst (v := (1 : Int32)) hx hb dX9_isSentence_126 (by decide) ?_
                refine lv_goto (tgt := 131) hx hb dX9_isSentence_127 (by decide) ?_
                exact hJ131 _ _ _ _ hf hP hS (lv_sub hl [0, 1, 2] rfl)
            · replace hf := (if_neg hc).symm.trans hf
              refine lv_aload_n hx hb dX9_isSentence_65 rfl (lv_at hl 0 rfl) ?_
              obtain ⟨⟨qmSpo_17, qmBeg_18, qmTok_19, qmVal_20⟩, hq, hf⟩ := ob hf
              try dsimp only at hf
              refine mcVv 0 8 (As := []) (rest := []) ⟨hx, hb, hml, hown, hts⟩ (ctX9_next l D cI cB cZ bd A hAD mVil mBad mFul mLen mSig mWay mLef wmSpo_7 wmBeg_8 wmTok_9 wmVal_10 qmVal_4 mNum mThe mRts mLns mOpn mTxt mAns mWys mSiz wmNbs_11  qmSpo_17 qmBeg_18 qmTok_19 qmVal_20 hq) (cwV 0 hts gX9_isSentence_X9_next rfl rfl rfl (by decide +kernel) ⟨Nat.le_of_ble_eq_true rfl, Nat.le_of_ble_eq_true rfl⟩) hK hP hS rfl rfl rfl hl.1 rfl (Nat.le_of_ble_eq_true rfl) dX9_isSentence_66 ⟨Nat.zero_le _, Nat.zero_le _⟩ (fun H locs hP hS => ?_)
              refine lv_aload_n hx hb dX9_isSentence_69 rfl (lv_at hl 0 rfl) ?_
              refine va_get (ci := 8) (v := .int qmTok_19) (C := RX9) (T := TX9) (N := 22) hx hb hts hiX9 hown hK hP 0 rfl rfl 16 (by decide) (hts _ (List.mem_of_getElem? (i := 3) rfl)) (fun _ h9 => h9) rfl dX9_isSentence_70 ?_
              refine lv_iconst (v := (2 : Int32)) hx hb dX9_isSentence_73 (by decide) ?_
              refine lv_icmp_ne (tgt := 89) hx hb dX9_isSentence_74 (by decide) (fun hc => ?_) (fun hc => ?_)
              · replace hf := (if_neg hc).symm.trans hf
                refine lv_iconst (v := (0 : Int32)) hx hb dX9_isSentence_89 (by decide) ?_
                obtain ⟨e0, hz1⟩ := Prod.mk.inj (Option.some.inj hf)
                obtain ⟨e1, hz2⟩ := Prod.mk.inj hz1
                obtain ⟨e2, hz3⟩ := Prod.mk.inj hz2
                obtain ⟨e3, hz4⟩ := Prod.mk.inj hz3
                obtain ⟨e4, hz5⟩ := Prod.mk.inj hz4
                obtain ⟨e5, hz6⟩ := Prod.mk.inj hz5
                obtain ⟨e6, hz7⟩ := Prod.mk.inj hz6
                subst e0
                subst e1
                subst e2
                subst e3
                subst e4
                subst e5
                subst e6
                subst hz7
                exact rm_z hx hb hr hlk (by decide) hP hS dX9_isSentence_90
              · replace hf := (if_pos hc).symm.trans hf
                refine lv_aload_n hx hb dX9_isSentence_77 rfl (lv_at hl 0 rfl) ?_
                refine lv_iload_n hx hb dX9_isSentence_78 rfl (lv_at hl 2 rfl) ?_
                refine lv_aload_n hx hb dX9_isSentence_79 rfl (lv_at hl 0 rfl) ?_
                refine va_get (ci := 8) (v := .int qmVal_20) (C := RX9) (T := TX9) (N := 22) hx hb hts hiX9 hown hK hP 0 rfl rfl 17 (by decide) (hts _ (List.mem_of_getElem? (i := 1) rfl)) (fun _ h9 => h9) rfl dX9_isSentence_80 ?_
                obtain ⟨r_21, hq, hf⟩ := ob hf
                try dsimp only at hf
                refine rcV 0 8 (As := [.int v2_6, .int qmVal_20]) (rest := []) ⟨hx, hb, hml, hown, hts⟩ (ctX9_mayBe l D cI cB cZ bd mVil mBad mFul mLen mSig mWay mLef qmSpo_17 qmBeg_18 qmTok_19 qmVal_20 qmVal_4 mNum mThe mRts mLns mOpn mTxt mAns mWys mSiz wmNbs_11 v2_6 qmVal_20 r_21 hq) (cwV 2 hts gX9_isSentence_X9_mayBe rfl rfl rfl (by decide +kernel) ⟨Nat.le_of_ble_eq_true rfl, Nat.le_of_ble_eq_true rfl⟩) hK hP rfl rfl rfl hl.1 rfl (Nat.le_of_ble_eq_true rfl) dX9_isSentence_83 ⟨Nat.zero_le _, Nat.zero_le _⟩ ?_
                refine lv_if_ne (tgt := 91) hx hb dX9_isSentence_86 (by decide) (fun hc => ?_) (fun hc => ?_)
                · replace hf := (if_neg hc).symm.trans hf
                  refine lv_aload_n hx hb dX9_isSentence_91 rfl (lv_at hl 0 rfl) ?_
                  refine va_get (ci := 8) (v := .ref (bd 8)) (C := RX9) (T := TX9) (N := 22) hx hb hts hiX9 hown hK hP 0 rfl rfl 20 (by decide) (hts _ (List.mem_of_getElem? (i := 5) rfl)) (fun _ h9 => h9) rfl dX9_isSentence_92 ?_
                  refine lv_iload_n hx hb dX9_isSentence_95 rfl (lv_at hl 2 rfl) ?_
                  refine lv_aload_n hx hb dX9_isSentence_96 rfl (lv_at hl 0 rfl) ?_
                  refine va_get (ci := 8) (v := .int qmVal_20) (C := RX9) (T := TX9) (N := 22) hx hb hts hiX9 hown hK hP 0 rfl rfl 17 (by decide) (hts _ (List.mem_of_getElem? (i := 1) rfl)) (fun _ h9 => h9) rfl dX9_isSentence_97 ?_
                  obtain ⟨hg, hf⟩ := og hf
                  refine va_iast hx hb hK hP (wM_D hAD) hS 8 0 rfl rfl (gI_in hg) dX9_isSentence_100 (fun H locs hP _ hS => ?_)
                  have hP : va_P D vwCl (wM cI cB cZ bd mVil mBad mFul mLen mSig mWay mLef qmSpo_17 qmBeg_18 qmTok_19 qmVal_20 qmVal_4 mNum mThe mRts mLns mOpn mTxt mAns mWys mSiz (upd wmNbs_11 (v2_6).toNatClampNeg qmVal_20)) H := hP
                  refine lv_iinc (v := (v2_6 + (1 : Int32))) (lv' := [(2, .int (v2_6 + (1 : Int32))), (0, .ref (bd 0)), (1, .int t_5)]) hx hb dX9_isSentence_101 hl (k := 2) rfl rfl (by decide) rfl (fun ls hl => ?_)
                  refine lv_goto (tgt := 60) hx hb dX9_isSentence_104 (by decide) ?_
                  exact ih _ _ _ _ _ _ _ _ _ hf hP hS (lv_sub hl [1, 2, 0] rfl)
                · replace hf := (if_pos hc).symm.trans hf
                  refine lv_iconst (v := (0 : Int32)) hx hb dX9_isSentence_89 (by decide) ?_
                  obtain ⟨e0, hz1⟩ := Prod.mk.inj (Option.some.inj hf)
                  obtain ⟨e1, hz2⟩ := Prod.mk.inj hz1
                  obtain ⟨e2, hz3⟩ := Prod.mk.inj hz2
                  obtain ⟨e3, hz4⟩ := Prod.mk.inj hz3
                  obtain ⟨e4, hz5⟩ := Prod.mk.inj hz4
                  obtain ⟨e5, hz6⟩ := Prod.mk.inj hz5
                  obtain ⟨e6, hz7⟩ := Prod.mk.inj hz6
                  subst e0
                  subst e1
                  subst e2
                  subst e3
                  subst e4
                  subst e5
                  subst e6
                  subst hz7
                  exact rm_z hx hb hr hlk (by decide) hP hS dX9_isSentence_90
        exact hL60 FU _ _ _ _ _ _ _ _ ls hf hP hS (lv_sub hl [1, 2, 0] rfl)
      refine lv_icmp_ne (tgt := 58) hx hb dX9_isSentence_44 (by decide) (fun hc => ?_) (fun hc => ?_)
      · replace hf := (if_neg hc).symm.trans hf
        exact hJ58  _ _ _ hf hP hS (lv_sub hl [1, 0] rfl)
      · replace hf := (if_pos hc).symm.trans hf
        refine lv_aload_n hx hb dX9_isSentence_47 rfl (lv_at hl 1 rfl) ?_
        refine va_get (ci := 8) (v := .int mThe) (C := RX9) (T := TX9) (N := 22) hx hb hts hiX9 hown hK hP 0 rfl rfl 21 (by decide) (hts _ (List.mem_of_getElem? (i := 4) rfl)) (fun _ h9 => h9) rfl dX9_isSentence_48 ?_
        refine lv_bipush (v := (60 : Int32)) hx hb dX9_isSentence_51 (by decide) ?_
        refine lv_icmp_ne (tgt := 58) hx hb dX9_isSentence_53 (by decide) (fun hc => ?_) (fun hc => ?_)
        · replace hf := (if_neg hc).symm.trans hf
          exact hJ58  _ _ _ hf hP hS (lv_sub hl [1, 0] rfl)
        · replace hf := (if_pos hc).symm.trans hf
          refine lv_iconst (v := (0 : Int32)) hx hb dX9_isSentence_56 (by decide) ?_
          obtain ⟨e0, hz1⟩ := Prod.mk.inj (Option.some.inj hf)
          obtain ⟨e1, hz2⟩ := Prod.mk.inj hz1
          obtain ⟨e2, hz3⟩ := Prod.mk.inj hz2
          obtain ⟨e3, hz4⟩ := Prod.mk.inj hz3
          obtain ⟨e4, hz5⟩ := Prod.mk.inj hz4
          obtain ⟨e5, hz6⟩ := Prod.mk.inj hz5
          obtain ⟨e6, hz7⟩ := Prod.mk.inj hz6
          subst e0
          subst e1
          subst e2
          subst e3
          subst e4
          subst e5
          subst e6
          subst hz7
          exact rm_z hx hb hr hlk (by decide) hP hS dX9_isSentence_57
  refine lv_icmp_ne (tgt := 30) hx hb dX9_isSentence_17 (by decide) (fun hc => ?_) (fun hc => ?_)
  · replace hf := (if_neg hc).symm.trans hf
    refine lv_iconst (v := (-1 : Int32)) hx hb dX9_isSentence_30 (by decide) ?_
    exact hJ31 _ _ _ _ hf hP hS (lv_sub hl [0] rfl)
  · replace hf := (if_pos hc).symm.trans hf
    refine lv_aload_n hx hb dX9_isSentence_20 rfl (lv_at hl 0 rfl) ?_
    refine va_get (ci := 8) (v := .int qmVal_4) (C := RX9) (T := TX9) (N := 22) hx hb hts hiX9 hown hK hP 0 rfl rfl 18 (by decide) (hts _ (List.mem_of_getElem? (i := 2) rfl)) (fun _ h9 => h9) rfl dX9_isSentence_21 ?_
    obtain ⟨r_22, hq, hf⟩ := ob hf
    try dsimp only at hf
    refine rcS (As := [.int qmVal_4]) (rest := []) ⟨hx, hb, hml, hown, hts⟩ (ctX9_manyOf l qmVal_4 r_22 hq) (va_cwS 1 hts gX9_isSentence_X9_manyOf rfl rfl rfl (by decide +kernel) ⟨Nat.le_of_ble_eq_true rfl, Nat.le_of_ble_eq_true rfl⟩) rfl hl.1 rfl (Nat.le_of_ble_eq_true rfl) dX9_isSentence_24 ⟨Nat.zero_le _, Nat.zero_le _⟩ ?_
    refine lv_goto (tgt := 31) hx hb dX9_isSentence_27 (by decide) ?_
    exact hJ31 _ _ _ _ hf hP hS (lv_sub hl [0] rfl)
