/-! THE CLAIM OUT OF ONE WALK OF THE LAW'S BODY. Your part is whole_start (and what it stands on); all else here is the same for every law, but numbers. -/
def R_law : String := "RoadDepotsLaw"
def lw_P (b : Addr) (xs : List Int32) (args : Array Value) (s : State) : Prop := args = #[.ref b] ∧ s.IntsAt b xs ∧ xs.length ≤ 2048 ∧ (Jvm.Cond.and given_1 narrow_1).before args s = true
def lw_Q (_ : Array Value) (s : State) (o : Outcome) (t : State) : Prop := o = .returned (some (.int 1)) ∧ Framed s o t [] 29 5451
def lw_Z (below : List Frame) (a : Array Value) (s : State) : State → Prop := fun t => ∃ o, t.status = .running ∧ Ended t below o ∧ lw_Q a s o t
/-- the law's own end, with 1 on the stack, nothing written that was there before, its room as the claim has it -/
theorem lw_ret {p : Program} {l : Launch} {e : Env} {s : State} {m : MethodId} {below : List Frame} {meth : Method} {c : Code} {b : Nat} (hx : p.tables.exec = Jvm.exec) (hb : c.code = code) (hr : meth.sig.returnType = ret) (hlocks : meth.locks = false) {pc : Nat} {H : Heap} {ls : Array Slot} (hdg : decode code pc = .ok (.ireturn, 1)) : W p l e room_1 s m #[Value.ref b] below meth c H [] 29 5451 (lw_Z below #[Value.ref b] s) (F0 m pc ls [.int 1]) := by
  intro T hT X
  obtain ⟨fs, hret, hrun, hended, hW, hframe⟩ := X.leave (v := some (.int 1)) (hlocks := hlocks) (fun h => by rw [hr] at h; cases h)
  have hmeth' : T.vm.method? m = some meth := X.method'
  refine ⟨T.setFrames fs, ?_, .returned (some (.int 1)), hrun, hended, rfl, ⟨_, rfl⟩, hW, hframe⟩
  jvm_step X.here [X.here.top, hx, hb, hdg, hmeth', hr, ret, narrow_b1]
  (try refine ⟨rfl, ?_⟩); (try refine ⟨rfl, ?_⟩)
  first | (intro acts; rw [hret _ acts rfl rfl rfl]) | rw [hret _ _ rfl rfl rfl]
  exact Steps.refl _
/-- what holds at the law's entry: the machine, the code, the tables' words (any of lw_tbl by 'hts w (by decide +kernel)'), the script of L ints xs at the cell b, what the Statement gives of the start (any of its parts by flat_of_before) -/
def lw_At (p : Program) (s : State) (m : MethodId) (meth : Method) (c : Code) (b L : Nat) (xs : Nat → Int32) : Prop :=
  p.tables.exec = Jvm.exec ∧ c.code = code ∧ meth.sig.returnType = ret ∧ c.maxLocals = 4 ∧ s.vm.findClass R_law = some m.cls ∧ (∀ w ∈ lw_tbl, w.before #[Value.ref b] s = true) ∧ va_X b L xs s s.heap ∧ b < s.heap.size ∧ meth.locks = false ∧ (Jvm.Cond.and given_1 narrow_1).before #[Value.ref b] s = true
theorem law_le {L j : Nat} {x3 : Int32} (hL : L ≤ 2048) (hj : 4 * j ≤ L + 3) (e : x3 = nI (4 * j)) (hc : ¬ Int32.ofNat L - 4 < x3) : 4 * j + 4 ≤ L := by
  rw [e, Int32.lt_iff_toInt_lt] at hc
  have h1 : (Int32.ofNat L - 4).toInt = (L : Int) - 4 := pk_sub_toInt (a := L) (b := 4) (by omega) (by decide)
  rw [h1, nI_toInt (by omega)] at hc
  omega
theorem law_step (j : Nat) : nI (4 * j) + 4 = nI (4 * (j + 1)) := by
  rw [show 4 * (j + 1) = 4 * j + 4 from by omega]
  exact nI_add (4 * j) 4
def AC (ad : Nat → Nat) (n : Nat) : Nat → Prop := fun q => ∃ i : Nat, i < n ∧ q = ad i
theorem keepW {D : va_G} {ws : va_W} {bd : Nat → Nat} {n : Nat} {H H1 : Heap} {A1 : Nat → Prop} (hP : va_P D vwCl ws H) (hw : ws.map Prod.fst = (List.range n).map bd) (hk : ∀ q : Nat, q < H.size → ¬ A1 q → H1[q]? = H[q]?) (hd : ∀ i, i < n → ¬ A1 (bd i)) : va_P D vwCl ws H1 := by
  refine hP.kept (fun k q hq => ?_)
  have h1 : (ws.map Prod.fst)[k]? = some q.1 := by rw [List.getElem?_map, hq]; rfl
  rw [hw, List.getElem?_map] at h1
  by_cases hkn : k < n
  · rw [List.getElem?_range hkn] at h1
    have e : bd k = q.1 := Option.some.inj h1
    exact hk q.1 ((hP k q hq).lt) (by rw [← e]; exact hd k hkn)
  · rw [List.getElem?_eq_none (by simp; omega)] at h1
    exact absurd h1 (by simp)
section LC
variable {p : Program} {l : Launch} {e : Env} {R : Room} {s : State} {m : MethodId} {args : Array Value} {below : List Frame} {meth : Method} {c : Code} {H : Heap} {locs : List Loc} {cells slots : Nat} {Q : State → Prop}
variable {D : va_G} {tys : List (ClassId × FieldType)} {wsw wsw' : va_W} {A A1 : Nat → Prop} {zF zS : Nat} {adK adV : Nat → Nat}
variable {y : MethodName} {bytes cc : ByteArray} {maxL nL n index pc : Nat} {ret : Option FieldType} {ws : List Cond} {rm : Room} {Ts : List Cond} {own C : String} {b : Addr} {As rest st : List Value} {ls : Array Slot}
theorem lcV {val : Int32} (q0 ci : Nat) (S : CallFix p m c cc nL s args Ts own) (hM : Met l y ws rm (PR D tys wsw (.ref b :: As)) (QI D wsw' A1 val) 0 0 A1) (cw : CallW R s args own C index y bytes maxL ret ws rm 0 0 n) (hK : va_K D vwCl tys s) (hP : va_P D vwCl wsw H) (hS : va_S A s.heap H locs) (hsub : ∀ q, A1 q → A q) {fs : List Value} {T : u_T} {N : Nat} (hc : vwCl[ci]? = some (C, T, N)) (he : wsw[q0]? = some (b, .inr (ci, fs)))
    (hn : As.length = n) (hsize : ls.size = nL) (hstack : st = As.reverse ++ .ref b :: rest) (hW : (rest.map fun v => v.category).sum ≤ 8) (hdg : decode cc pc = .ok (.invokevirtual index, 3)) (hf : cells + 0 ≤ R.cells ∧ slots + 0 ≤ R.slots)
    (kk : ∀ (H1 : Heap) (locs1 : List Loc), va_P D vwCl wsw' H1 → (∀ q : Nat, q < H.size → ¬ A1 q → H1[q]? = H[q]?) → va_S A s.heap H1 locs1 → W p l e R s m args below meth c H1 locs1 cells slots Q (F0 m (pc + 3) ls (.int val :: rest))) : W p l e R s m args below meth c H locs cells slots Q (F0 m pc ls st) := by
  subst hstack
  exact va_calli (va_runV (As := As) (rest := rest) S hM cw ⟨PR_fb, va_recv hK hP hc he, fun U hU hW => ⟨rfl, by rw [hU]; exact hP, va_K.moved hW.alike hK⟩⟩ rfl hn hsize rfl (lv_room hW) hdg hf) hS (fun q _ h => hsub q h) hsub (fun r u t H1 locs1 ht _ hr hB _ hk hS1 => by rw [hr]; exact kk H1 locs1 (by rw [← ht]; exact hB) hk hS1)
theorem lcF {val : Int32} (q0 ci : Nat) (S : CallFix p m c cc nL s args Ts own) (hM : Met l y ws rm (PF D tys wsw zF zS adK adV A1 (.ref b :: As)) (QI D wsw' A1 val) 0 0 A1) (cw : CallW R s args own C index y bytes maxL ret ws rm 0 0 n) (hK : va_K D vwCl tys s) (hP : va_P D vwCl wsw H) (hF : SF zF zS adK adV A s s.heap) (hS : va_S A s.heap H locs) (hsub : ∀ q, A1 q → A q) {fs : List Value} {T : u_T} {N : Nat} (hc : vwCl[ci]? = some (C, T, N)) (he : wsw[q0]? = some (b, .inr (ci, fs)))
    (hn : As.length = n) (hsize : ls.size = nL) (hstack : st = As.reverse ++ .ref b :: rest) (hW : (rest.map fun v => v.category).sum ≤ 8) (hdg : decode cc pc = .ok (.invokevirtual index, 3)) (hf : cells + 0 ≤ R.cells ∧ slots + 0 ≤ R.slots)
    (kk : ∀ (H1 : Heap) (locs1 : List Loc), va_P D vwCl wsw' H1 → (∀ q : Nat, q < H.size → ¬ A1 q → H1[q]? = H[q]?) → va_S A s.heap H1 locs1 → W p l e R s m args below meth c H1 locs1 cells slots Q (F0 m (pc + 3) ls (.int val :: rest))) : W p l e R s m args below meth c H locs cells slots Q (F0 m pc ls st) := by
  subst hstack
  exact va_calli (va_runV (As := As) (rest := rest) S hM cw ⟨PF_fb, va_recv hK hP hc he, fun U hU hW => ⟨rfl, by rw [hU]; exact hP, va_K.moved hW.alike hK, (hF.to hS hU hW).narrow hsub⟩⟩ rfl hn hsize rfl (lv_room hW) hdg hf) hS (fun q _ h => hsub q h) hsub (fun r u t H1 locs1 ht _ hr hB _ hk hS1 => by rw [hr]; exact kk H1 locs1 (by rw [← ht]; exact hB) hk hS1)
end LC
theorem lg_cmp_self (x : Int64) : lg_cmp x x = 0 := by simp [lg_cmp]
/-- the place i + k of the script -/
theorem law_in {L j k : Nat} {x3 : Int32} (hL : L ≤ 2048) (hj : 4 * j + 4 ≤ L) (hk : k < 4) (e : x3 = nI (4 * j)) : vp_in (x3 + nI k) L := by
  rw [e, nI_add]
  exact vp_in_nI (by omega) (by omega)
set_option maxHeartbeats 8000000 in
set_option maxRecDepth 100000 in
theorem law_loop {p : Program} {l : Launch} {e : Env} {s : State} {m : MethodId} {below : List Frame} {meth : Method} {c : Code} {D : va_G} {cI cB cZ : ClassId} {ad bd : Nat → Nat} {zF zS : Nat} {adK adV : Nat → Nat} {b L : Nat} {xs : Nat → Int32} (hL : L ≤ 2048) (C0 : lw_At p s m meth c b L xs) (hK : va_K D vwCl (tyL cI cB cZ) s) (hAD : AD (AC ad 20) ad 20) (hBD : AD (AC bd 9) bd 9) (hdis : ∀ i j : Nat, i < 20 → j < 9 → ad i ≠ bd j) (hA1 : ∀ q, AC ad 20 q → s.heap.size ≤ q) (hB1 : ∀ q, AC bd 9 q → s.heap.size ≤ q) (hF : SF zF zS adK adV (fun q : Nat => s.heap.size ≤ q) s s.heap) :
    ∀ (n j : Nat) (x3 : Int32), L + 4 ≤ 4 * j + n → 4 * j ≤ L + 3 → x3 = nI (4 * j) → ∀ (cBad cFul cCnt cOpc cStp cTsz cRcn cPlc cFlt cVil cLsz : Int32) (cRts cLns cOpn cGps cTrl cWgt cRch cByt cWds cFst cSnd cSgn : Nat → Int32) (mVil mBad mFul mLen mSig mWay mLef mSpo mBeg mTok mVal mWor mNum mThe : Int32) (mRts mLns mOpn mTxt mAns mWys mSiz mNbs : Nat → Int32), Rel cBad cFul cCnt cOpc cTsz cLsz cRts cLns cOpn cGps cByt cSgn mVil mBad mFul mLen mSig mRts mLns mOpn mTxt mAns → ∀ (H : Heap) (locs : List Loc), va_P D vwCl (wC cI cB cZ ad cBad cFul cCnt cOpc cStp cTsz cRcn cPlc cFlt cVil cLsz cRts cLns cOpn cGps cTrl cWgt cRch cByt cWds cFst cSnd cSgn) H → va_P D vwCl (wM cI cB cZ bd mVil mBad mFul mLen mSig mWay mLef mSpo mBeg mTok mVal mWor mNum mThe mRts mLns mOpn mTxt mAns mWys mSiz mNbs) H → va_S (fun q : Nat => s.heap.size ≤ q) s.heap H locs → ∀ (ls : Array Slot), lv_has ls 4 [(0, .ref b), (1, .ref (ad 0)), (2, .ref (bd 0)), (3, .int x3)] → W p l e room_1 s m #[Value.ref b] below meth c H locs 29 5451 (lw_Z below #[Value.ref b] s) (F0 m 18 ls []) := by
  obtain ⟨hx, hb, hr, hml, hown, hts0, hX, hbl, hlocks, hgv⟩ := C0
  have hts := fun w h => hts0 w (wsL_law_in w h)
  have hbA : ¬ (fun q : Nat => s.heap.size ≤ q) b := Nat.not_le.mpr hbl
  have hdC : ∀ i, i < 9 → ¬ AC ad 20 (bd i) := fun i hi h => by obtain ⟨j, hj, e⟩ := h; exact hdis j i hj hi e.symm
  have hdM : ∀ i, i < 20 → ¬ AC bd 9 (ad i) := fun i hi h => by obtain ⟨j, hj, e⟩ := h; exact hdis i j hi hj e
  intro n
  induction n with
  | zero => intro j x3 h1 h2; exact absurd h1 (by omega)
  | succ n ih =>
    intro j x3 hn hj ex3 cBad cFul cCnt cOpc cStp cTsz cRcn cPlc cFlt cVil cLsz cRts cLns cOpn cGps cTrl cWgt cRch cByt cWds cFst cSnd cSgn mVil mBad mFul mLen mSig mWay mLef mSpo mBeg mTok mVal mWor mNum mThe mRts mLns mOpn mTxt mAns mWys mSiz mNbs hR H locs hPC hPM hS ls hl
    refine lv_iload_n hx hb dL_law_18 rfl (lv_at hl 3 rfl) ?_
    refine lv_aload_n hx hb dL_law_19 rfl (lv_at hl 0 rfl) ?_
    refine va_slen hx hb hX hbl hbA hS dL_law_20 ?_
    refine lv_iconst (v := 4) hx hb dL_law_21 (by decide) ?_
    refine lv_isub hx hb dL_law_22 ?_
    refine lv_icmp_gt (tgt := 783) hx hb dL_law_23 (by decide) (fun hc => ?_) (fun hc => ?_)
    · refine lv_iconst (v := 1) hx hb dL_law_783 (by decide) ?_
      refine va_forget (fun q hq => hS.2.2 q hq) ?_
      exact lw_ret hx hb hr hlocks dL_law_784
    have hj4 : 4 * j + 4 ≤ L := law_le hL hj ex3 hc
    have hi0 : vp_in x3 L := by rw [ex3]; exact vp_in_nI (by omega) (by omega)
    have hi1 : vp_in (x3 + 1) L := law_in (k := 1) hL hj4 (by decide) ex3
    have hi2 : vp_in (x3 + 2) L := law_in (k := 2) hL hj4 (by decide) ex3
    have hi3 : vp_in (x3 + 3) L := law_in (k := 3) hL hj4 (by decide) ex3
    have hN : ∀ (cBad cFul cCnt cOpc cStp cTsz cRcn cPlc cFlt cVil cLsz : Int32) (cRts cLns cOpn cGps cTrl cWgt cRch cByt cWds cFst cSnd cSgn : Nat → Int32) (mVil mBad mFul mLen mSig mWay mLef mSpo mBeg mTok mVal mWor mNum mThe : Int32) (mRts mLns mOpn mTxt mAns mWys mSiz mNbs : Nat → Int32), Rel cBad cFul cCnt cOpc cTsz cLsz cRts cLns cOpn cGps cByt cSgn mVil mBad mFul mLen mSig mRts mLns mOpn mTxt mAns → ∀ (H : Heap) (locs : List Loc), va_P D vwCl (wC cI cB cZ ad cBad cFul cCnt cOpc cStp cTsz cRcn cPlc cFlt cVil cLsz cRts cLns cOpn cGps cTrl cWgt cRch cByt cWds cFst cSnd cSgn) H → va_P D vwCl (wM cI cB cZ bd mVil mBad mFul mLen mSig mWay mLef mSpo mBeg mTok mVal mWor mNum mThe mRts mLns mOpn mTxt mAns mWys mSiz mNbs) H → va_S (fun q : Nat => s.heap.size ≤ q) s.heap H locs → ∀ (ls : Array Slot), lv_has ls 4 [(0, .ref b), (1, .ref (ad 0)), (2, .ref (bd 0)), (3, .int x3)] → W p l e room_1 s m #[Value.ref b] below meth c H locs 29 5451 (lw_Z below #[Value.ref b] s) (F0 m 777 ls []) := by
      intro cBad cFul cCnt cOpc cStp cTsz cRcn cPlc cFlt cVil cLsz cRts cLns cOpn cGps cTrl cWgt cRch cByt cWds cFst cSnd cSgn mVil mBad mFul mLen mSig mWay mLef mSpo mBeg mTok mVal mWor mNum mThe mRts mLns mOpn mTxt mAns mWys mSiz mNbs hR H locs hPC hPM hS ls hl
      refine lv_iinc (v := x3 + 4) (lv' := [(3, .int (x3 + 4)), (0, .ref b), (1, .ref (ad 0)), (2, .ref (bd 0))]) hx hb dL_law_777 hl (k := 3) rfl rfl (by decide) rfl (fun ls hl => ?_)
      refine lv_goto (tgt := 18) hx hb dL_law_780 (by decide) ?_
      exact ih (j + 1) (x3 + 4) (by omega) (by omega) (by rw [ex3]; exact law_step j) cBad cFul cCnt cOpc cStp cTsz cRcn cPlc cFlt cVil cLsz cRts cLns cOpn cGps cTrl cWgt cRch cByt cWds cFst cSnd cSgn mVil mBad mFul mLen mSig mWay mLef mSpo mBeg mTok mVal mWor mNum mThe mRts mLns mOpn mTxt mAns mWys mSiz mNbs hR H locs hPC hPM hS ls (lv_sub hl [1, 2, 3, 0] rfl)
    refine lv_aload_n hx hb dL_law_26 rfl (lv_at hl 0 rfl) ?_
    refine lv_iload_n hx hb dL_law_27 rfl (lv_at hl 3 rfl) ?_
    refine va_sld hx hb hX hbl hbA hS hi0 dL_law_28 ?_
    refine lv_bipush (v := 31) hx hb dL_law_29 (by decide) ?_
    refine lv_iand hx hb dL_law_31 ?_
    refine lv_topi (fun w ew => ?_)
    by_cases hc0 : w = (0 : Int32)
    · refine lv_tableIn (tgt := 144) hx hb dL_law_32 (by rw [hc0]; decide) (by rw [hc0]; decide) (by rw [hc0]; rfl) (by decide) ?_
      obtain ⟨rv, zcBad, zcFul, zcCnt, zcRts, zcLns, zcOpn, zcGps, zmVil, zmBad, zmFul, zmRts, zmLns, zmOpn, hf1, hf2, hR2⟩ := op_add  hR (xs (x3 + 1).toNatClampNeg) (xs (x3 + 2).toNatClampNeg)
      refine lv_aload_n hx hb dL_law_144 rfl (lv_at hl 1 rfl) ?_
      refine lv_aload_n hx hb dL_law_145 rfl (lv_at hl 0 rfl) ?_
      refine lv_iload_n hx hb dL_law_146 rfl (lv_at hl 3 rfl) ?_
      refine lv_iconst (v := 1) hx hb dL_law_147 (by decide) ?_
      refine lv_iadd hx hb dL_law_148 ?_
      refine va_sld hx hb hX hbl hbA hS hi1 dL_law_149 ?_
      refine lv_aload_n hx hb dL_law_150 rfl (lv_at hl 0 rfl) ?_
      refine lv_iload_n hx hb dL_law_151 rfl (lv_at hl 3 rfl) ?_
      refine lv_iconst (v := 2) hx hb dL_law_152 (by decide) ?_
      refine lv_iadd hx hb dL_law_153 ?_
      refine va_sld hx hb hX hbl hbA hS hi2 dL_law_154 ?_
      refine lcV 0 7 (As := [.int (xs (x3 + 1).toNatClampNeg), .int (xs (x3 + 2).toNatClampNeg)]) (rest := []) ⟨hx, hb, hml, hown, hts⟩ (ctX8_add l D cI cB cZ ad (AC ad 20) hAD cBad cFul cCnt cOpc cStp cTsz cRcn cPlc cFlt cVil cLsz cRts cLns cOpn cGps cTrl cWgt cRch cByt cWds cFst cSnd cSgn (xs (x3 + 1).toNatClampNeg) (xs (x3 + 2).toNatClampNeg) rv zcBad zcFul zcCnt zcRts zcLns zcOpn zcGps hf1) (cwV 2 hts gL_law_X8_add rfl rfl rfl (by decide +kernel) ⟨(Nat.le_of_ble_eq_true rfl), (Nat.le_of_ble_eq_true rfl)⟩) hK hPC hS hA1 rfl rfl rfl hl.1 rfl (Nat.le_of_ble_eq_true rfl) dL_law_155 ⟨(Nat.le_of_ble_eq_true rfl), (Nat.le_of_ble_eq_true rfl)⟩ (fun H2 locs hPC hk hS => ?_)
      replace hPM := keepW hPM rfl hk hdC
      refine lv_aload_n hx hb dL_law_158 rfl (lv_at hl 2 rfl) ?_
      refine lv_aload_n hx hb dL_law_159 rfl (lv_at hl 0 rfl) ?_
      refine lv_iload_n hx hb dL_law_160 rfl (lv_at hl 3 rfl) ?_
      refine lv_iconst (v := 1) hx hb dL_law_161 (by decide) ?_
      refine lv_iadd hx hb dL_law_162 ?_
      refine va_sld hx hb hX hbl hbA hS hi1 dL_law_163 ?_
      refine lv_aload_n hx hb dL_law_164 rfl (lv_at hl 0 rfl) ?_
      refine lv_iload_n hx hb dL_law_165 rfl (lv_at hl 3 rfl) ?_
      refine lv_iconst (v := 2) hx hb dL_law_166 (by decide) ?_
      refine lv_iadd hx hb dL_law_167 ?_
      refine va_sld hx hb hX hbl hbA hS hi2 dL_law_168 ?_
      refine lcV 0 8 (As := [.int (xs (x3 + 1).toNatClampNeg), .int (xs (x3 + 2).toNatClampNeg)]) (rest := [.int rv]) ⟨hx, hb, hml, hown, hts⟩ (ctX9_add l D cI cB cZ bd (AC bd 9) hBD mVil mBad mFul mLen mSig mWay mLef mSpo mBeg mTok mVal mWor mNum mThe mRts mLns mOpn mTxt mAns mWys mSiz mNbs (xs (x3 + 1).toNatClampNeg) (xs (x3 + 2).toNatClampNeg) rv zmVil zmBad zmFul zmRts zmLns zmOpn hf2) (cwV 2 hts gL_law_X9_add rfl rfl rfl (by decide +kernel) ⟨(Nat.le_of_ble_eq_true rfl), (Nat.le_of_ble_eq_true rfl)⟩) hK hPM hS hB1 rfl rfl rfl hl.1 rfl (Nat.le_of_ble_eq_true rfl) dL_law_169 ⟨(Nat.le_of_ble_eq_true rfl), (Nat.le_of_ble_eq_true rfl)⟩ (fun H2 locs hPM hk hS => ?_)
      replace hPC := keepW hPC rfl hk hdM
      refine lv_icmp_eq (tgt := 777) hx hb dL_law_172 (by decide) (fun _ => ?_) (fun hne => absurd rfl hne)
      exact hN _ _ _ _ _ _ _ _ _ _ _ _ _ _ _ _ _ _ _ _ _ _ _ _ _ _ _ _ _ _ _ _ _ _ _ _ _ _ _ _ _ _ _ _ _ hR2 _ _ hPC hPM hS ls hl
    by_cases hc1 : w = (1 : Int32)
    · refine lv_tableIn (tgt := 177) hx hb dL_law_32 (by rw [hc1]; decide) (by rw [hc1]; decide) (by rw [hc1]; rfl) (by decide) ?_
      obtain ⟨rv, zcBad, zcOpc, zcOpn, zmBad, zmOpn, hf1, hf2, hR2⟩ := op_depot  hR (xs (x3 + 1).toNatClampNeg) (xs (x3 + 2).toNatClampNeg)
      refine lv_aload_n hx hb dL_law_177 rfl (lv_at hl 1 rfl) ?_
      refine lv_aload_n hx hb dL_law_178 rfl (lv_at hl 0 rfl) ?_
      refine lv_iload_n hx hb dL_law_179 rfl (lv_at hl 3 rfl) ?_
      refine lv_iconst (v := 1) hx hb dL_law_180 (by decide) ?_
      refine lv_iadd hx hb dL_law_181 ?_
      refine va_sld hx hb hX hbl hbA hS hi1 dL_law_182 ?_
      refine lv_aload_n hx hb dL_law_183 rfl (lv_at hl 0 rfl) ?_
      refine lv_iload_n hx hb dL_law_184 rfl (lv_at hl 3 rfl) ?_
      refine lv_iconst (v := 2) hx hb dL_law_185 (by decide) ?_
      refine lv_iadd hx hb dL_law_186 ?_
      refine va_sld hx hb hX hbl hbA hS hi2 dL_law_187 ?_
      refine lcV 0 7 (As := [.int (xs (x3 + 1).toNatClampNeg), .int (xs (x3 + 2).toNatClampNeg)]) (rest := []) ⟨hx, hb, hml, hown, hts⟩ (ctX8_depot l D cI cB cZ ad (AC ad 20) hAD cBad cFul cCnt cOpc cStp cTsz cRcn cPlc cFlt cVil cLsz cRts cLns cOpn cGps cTrl cWgt cRch cByt cWds cFst cSnd cSgn (xs (x3 + 1).toNatClampNeg) (xs (x3 + 2).toNatClampNeg) rv zcBad zcOpc zcOpn hf1) (cwV 2 hts gL_law_X8_depot rfl rfl rfl (by decide +kernel) ⟨(Nat.le_of_ble_eq_true rfl), (Nat.le_of_ble_eq_true rfl)⟩) hK hPC hS hA1 rfl rfl rfl hl.1 rfl (Nat.le_of_ble_eq_true rfl) dL_law_188 ⟨(Nat.le_of_ble_eq_true rfl), (Nat.le_of_ble_eq_true rfl)⟩ (fun H2 locs hPC hk hS => ?_)
      replace hPM := keepW hPM rfl hk hdC
      refine lv_aload_n hx hb dL_law_191 rfl (lv_at hl 2 rfl) ?_
      refine lv_aload_n hx hb dL_law_192 rfl (lv_at hl 0 rfl) ?_
      refine lv_iload_n hx hb dL_law_193 rfl (lv_at hl 3 rfl) ?_
      refine lv_iconst (v := 1) hx hb dL_law_194 (by decide) ?_
      refine lv_iadd hx hb dL_law_195 ?_
      refine va_sld hx hb hX hbl hbA hS hi1 dL_law_196 ?_
      refine lv_aload_n hx hb dL_law_197 rfl (lv_at hl 0 rfl) ?_
      refine lv_iload_n hx hb dL_law_198 rfl (lv_at hl 3 rfl) ?_
      refine lv_iconst (v := 2) hx hb dL_law_199 (by decide) ?_
      refine lv_iadd hx hb dL_law_200 ?_
      refine va_sld hx hb hX hbl hbA hS hi2 dL_law_201 ?_
      refine lcV 0 8 (As := [.int (xs (x3 + 1).toNatClampNeg), .int (xs (x3 + 2).toNatClampNeg)]) (rest := [.int rv]) ⟨hx, hb, hml, hown, hts⟩ (ctX9_depot l D cI cB cZ bd (AC bd 9) hBD mVil mBad mFul mLen mSig mWay mLef mSpo mBeg mTok mVal mWor mNum mThe mRts mLns mOpn mTxt mAns mWys mSiz mNbs (xs (x3 + 1).toNatClampNeg) (xs (x3 + 2).toNatClampNeg) rv zmBad zmOpn hf2) (cwV 2 hts gL_law_X9_depot rfl rfl rfl (by decide +kernel) ⟨(Nat.le_of_ble_eq_true rfl), (Nat.le_of_ble_eq_true rfl)⟩) hK hPM hS hB1 rfl rfl rfl hl.1 rfl (Nat.le_of_ble_eq_true rfl) dL_law_202 ⟨(Nat.le_of_ble_eq_true rfl), (Nat.le_of_ble_eq_true rfl)⟩ (fun H2 locs hPM hk hS => ?_)
      replace hPC := keepW hPC rfl hk hdM
      refine lv_icmp_eq (tgt := 777) hx hb dL_law_205 (by decide) (fun _ => ?_) (fun hne => absurd rfl hne)
      exact hN _ _ _ _ _ _ _ _ _ _ _ _ _ _ _ _ _ _ _ _ _ _ _ _ _ _ _ _ _ _ _ _ _ _ _ _ _ _ _ _ _ _ _ _ _ hR2 _ _ hPC hPM hS ls hl
    by_cases hc2 : w = (2 : Int32)
    · refine lv_tableIn (tgt := 210) hx hb dL_law_32 (by rw [hc2]; decide) (by rw [hc2]; decide) (by rw [hc2]; rfl) (by decide) ?_
      obtain ⟨rv, zcBad, zcLns, zcGps, zmBad, zmLns, hf1, hf2, hR2⟩ := op_road  hR (xs (x3 + 1).toNatClampNeg) (xs (x3 + 2).toNatClampNeg)
      refine lv_aload_n hx hb dL_law_210 rfl (lv_at hl 1 rfl) ?_
      refine lv_aload_n hx hb dL_law_211 rfl (lv_at hl 0 rfl) ?_
      refine lv_iload_n hx hb dL_law_212 rfl (lv_at hl 3 rfl) ?_
      refine lv_iconst (v := 1) hx hb dL_law_213 (by decide) ?_
      refine lv_iadd hx hb dL_law_214 ?_
      refine va_sld hx hb hX hbl hbA hS hi1 dL_law_215 ?_
      refine lv_aload_n hx hb dL_law_216 rfl (lv_at hl 0 rfl) ?_
      refine lv_iload_n hx hb dL_law_217 rfl (lv_at hl 3 rfl) ?_
      refine lv_iconst (v := 2) hx hb dL_law_218 (by decide) ?_
      refine lv_iadd hx hb dL_law_219 ?_
      refine va_sld hx hb hX hbl hbA hS hi2 dL_law_220 ?_
      refine lcV 0 7 (As := [.int (xs (x3 + 1).toNatClampNeg), .int (xs (x3 + 2).toNatClampNeg)]) (rest := []) ⟨hx, hb, hml, hown, hts⟩ (ctX8_road l D cI cB cZ ad (AC ad 20) hAD cBad cFul cCnt cOpc cStp cTsz cRcn cPlc cFlt cVil cLsz cRts cLns cOpn cGps cTrl cWgt cRch cByt cWds cFst cSnd cSgn (xs (x3 + 1).toNatClampNeg) (xs (x3 + 2).toNatClampNeg) rv zcBad zcLns zcGps hf1) (cwV 2 hts gL_law_X8_road rfl rfl rfl (by decide +kernel) ⟨(Nat.le_of_ble_eq_true rfl), (Nat.le_of_ble_eq_true rfl)⟩) hK hPC hS hA1 rfl rfl rfl hl.1 rfl (Nat.le_of_ble_eq_true rfl) dL_law_221 ⟨(Nat.le_of_ble_eq_true rfl), (Nat.le_of_ble_eq_true rfl)⟩ (fun H2 locs hPC hk hS => ?_)
      replace hPM := keepW hPM rfl hk hdC
      refine lv_aload_n hx hb dL_law_224 rfl (lv_at hl 2 rfl) ?_
      refine lv_aload_n hx hb dL_law_225 rfl (lv_at hl 0 rfl) ?_
      refine lv_iload_n hx hb dL_law_226 rfl (lv_at hl 3 rfl) ?_
      refine lv_iconst (v := 1) hx hb dL_law_227 (by decide) ?_
      refine lv_iadd hx hb dL_law_228 ?_
      refine va_sld hx hb hX hbl hbA hS hi1 dL_law_229 ?_
      refine lv_aload_n hx hb dL_law_230 rfl (lv_at hl 0 rfl) ?_
      refine lv_iload_n hx hb dL_law_231 rfl (lv_at hl 3 rfl) ?_
      refine lv_iconst (v := 2) hx hb dL_law_232 (by decide) ?_
      refine lv_iadd hx hb dL_law_233 ?_
      refine va_sld hx hb hX hbl hbA hS hi2 dL_law_234 ?_
      refine lcV 0 8 (As := [.int (xs (x3 + 1).toNatClampNeg), .int (xs (x3 + 2).toNatClampNeg)]) (rest := [.int rv]) ⟨hx, hb, hml, hown, hts⟩ (ctX9_road l D cI cB cZ bd (AC bd 9) hBD mVil mBad mFul mLen mSig mWay mLef mSpo mBeg mTok mVal mWor mNum mThe mRts mLns mOpn mTxt mAns mWys mSiz mNbs (xs (x3 + 1).toNatClampNeg) (xs (x3 + 2).toNatClampNeg) rv zmBad zmLns hf2) (cwV 2 hts gL_law_X9_road rfl rfl rfl (by decide +kernel) ⟨(Nat.le_of_ble_eq_true rfl), (Nat.le_of_ble_eq_true rfl)⟩) hK hPM hS hB1 rfl rfl rfl hl.1 rfl (Nat.le_of_ble_eq_true rfl) dL_law_235 ⟨(Nat.le_of_ble_eq_true rfl), (Nat.le_of_ble_eq_true rfl)⟩ (fun H2 locs hPM hk hS => ?_)
      replace hPC := keepW hPC rfl hk hdM
      refine lv_icmp_eq (tgt := 777) hx hb dL_law_238 (by decide) (fun _ => ?_) (fun hne => absurd rfl hne)
      exact hN _ _ _ _ _ _ _ _ _ _ _ _ _ _ _ _ _ _ _ _ _ _ _ _ _ _ _ _ _ _ _ _ _ _ _ _ _ _ _ _ _ _ _ _ _ hR2 _ _ hPC hPM hS ls hl
    by_cases hc3 : w = (3 : Int32)
    · refine lv_tableIn (tgt := 243) hx hb dL_law_32 (by rw [hc3]; decide) (by rw [hc3]; decide) (by rw [hc3]; rfl) (by decide) ?_
      obtain ⟨rv, zcCnt, zcOpc, zcRts, zcLns, zcOpn, zmVil, zmOpn, hf1, hf2, hR2⟩ := op_anew  hR
      refine lv_aload_n hx hb dL_law_243 rfl (lv_at hl 1 rfl) ?_
      refine lcV 0 7 (As := []) (rest := []) ⟨hx, hb, hml, hown, hts⟩ (ctX8_anew l D cI cB cZ ad (AC ad 20) hAD cBad cFul cCnt cOpc cStp cTsz cRcn cPlc cFlt cVil cLsz cRts cLns cOpn cGps cTrl cWgt cRch cByt cWds cFst cSnd cSgn  rv zcCnt zcOpc zcRts zcLns zcOpn hf1) (cwV 0 hts gL_law_X8_anew rfl rfl rfl (by decide +kernel) ⟨(Nat.le_of_ble_eq_true rfl), (Nat.le_of_ble_eq_true rfl)⟩) hK hPC hS hA1 rfl rfl rfl hl.1 rfl (Nat.le_of_ble_eq_true rfl) dL_law_244 ⟨(Nat.le_of_ble_eq_true rfl), (Nat.le_of_ble_eq_true rfl)⟩ (fun H2 locs hPC hk hS => ?_)
      replace hPM := keepW hPM rfl hk hdC
      refine lv_aload_n hx hb dL_law_247 rfl (lv_at hl 2 rfl) ?_
      refine lcV 0 8 (As := []) (rest := [.int rv]) ⟨hx, hb, hml, hown, hts⟩ (ctX9_anew l D cI cB cZ bd (AC bd 9) hBD mVil mBad mFul mLen mSig mWay mLef mSpo mBeg mTok mVal mWor mNum mThe mRts mLns mOpn mTxt mAns mWys mSiz mNbs  rv zmVil zmOpn hf2) (cwV 0 hts gL_law_X9_anew rfl rfl rfl (by decide +kernel) ⟨(Nat.le_of_ble_eq_true rfl), (Nat.le_of_ble_eq_true rfl)⟩) hK hPM hS hB1 rfl rfl rfl hl.1 rfl (Nat.le_of_ble_eq_true rfl) dL_law_248 ⟨(Nat.le_of_ble_eq_true rfl), (Nat.le_of_ble_eq_true rfl)⟩ (fun H2 locs hPM hk hS => ?_)
      replace hPC := keepW hPC rfl hk hdM
      refine lv_icmp_eq (tgt := 777) hx hb dL_law_251 (by decide) (fun _ => ?_) (fun hne => absurd rfl hne)
      exact hN _ _ _ _ _ _ _ _ _ _ _ _ _ _ _ _ _ _ _ _ _ _ _ _ _ _ _ _ _ _ _ _ _ _ _ _ _ _ _ _ _ _ _ _ _ hR2 _ _ hPC hPM hS ls hl
    by_cases hc4 : w = (4 : Int32)
    · refine lv_tableIn (tgt := 256) hx hb dL_law_32 (by rw [hc4]; decide) (by rw [hc4]; decide) (by rw [hc4]; rfl) (by decide) ?_
      obtain ⟨rv, zcBad, zcCnt, zcOpc, zcRts, zcLns, zcOpn, zcGps, zmVil, zmBad, zmRts, zmLns, zmOpn, hf1, hf2, hR2⟩ := op_draw  hR (xs (x3 + 1).toNatClampNeg) (xs (x3 + 2).toNatClampNeg)
      refine lv_aload_n hx hb dL_law_256 rfl (lv_at hl 1 rfl) ?_
      refine lv_aload_n hx hb dL_law_257 rfl (lv_at hl 0 rfl) ?_
      refine lv_iload_n hx hb dL_law_258 rfl (lv_at hl 3 rfl) ?_
      refine lv_iconst (v := 1) hx hb dL_law_259 (by decide) ?_
      refine lv_iadd hx hb dL_law_260 ?_
      refine va_sld hx hb hX hbl hbA hS hi1 dL_law_261 ?_
      refine lv_aload_n hx hb dL_law_262 rfl (lv_at hl 0 rfl) ?_
      refine lv_iload_n hx hb dL_law_263 rfl (lv_at hl 3 rfl) ?_
      refine lv_iconst (v := 2) hx hb dL_law_264 (by decide) ?_
      refine lv_iadd hx hb dL_law_265 ?_
      refine va_sld hx hb hX hbl hbA hS hi2 dL_law_266 ?_
      refine lcV 0 7 (As := [.int (xs (x3 + 1).toNatClampNeg), .int (xs (x3 + 2).toNatClampNeg)]) (rest := []) ⟨hx, hb, hml, hown, hts⟩ (ctX8_draw l D cI cB cZ ad (AC ad 20) hAD cBad cFul cCnt cOpc cStp cTsz cRcn cPlc cFlt cVil cLsz cRts cLns cOpn cGps cTrl cWgt cRch cByt cWds cFst cSnd cSgn (xs (x3 + 1).toNatClampNeg) (xs (x3 + 2).toNatClampNeg) rv zcBad zcCnt zcOpc zcRts zcLns zcOpn zcGps hf1) (cwV 2 hts gL_law_X8_draw rfl rfl rfl (by decide +kernel) ⟨(Nat.le_of_ble_eq_true rfl), (Nat.le_of_ble_eq_true rfl)⟩) hK hPC hS hA1 rfl rfl rfl hl.1 rfl (Nat.le_of_ble_eq_true rfl) dL_law_267 ⟨(Nat.le_of_ble_eq_true rfl), (Nat.le_of_ble_eq_true rfl)⟩ (fun H2 locs hPC hk hS => ?_)
      replace hPM := keepW hPM rfl hk hdC
      refine lv_aload_n hx hb dL_law_270 rfl (lv_at hl 2 rfl) ?_
      refine lv_aload_n hx hb dL_law_271 rfl (lv_at hl 0 rfl) ?_
      refine lv_iload_n hx hb dL_law_272 rfl (lv_at hl 3 rfl) ?_
      refine lv_iconst (v := 1) hx hb dL_law_273 (by decide) ?_
      refine lv_iadd hx hb dL_law_274 ?_
      refine va_sld hx hb hX hbl hbA hS hi1 dL_law_275 ?_
      refine lv_aload_n hx hb dL_law_276 rfl (lv_at hl 0 rfl) ?_
      refine lv_iload_n hx hb dL_law_277 rfl (lv_at hl 3 rfl) ?_
      refine lv_iconst (v := 2) hx hb dL_law_278 (by decide) ?_
      refine lv_iadd hx hb dL_law_279 ?_
      refine va_sld hx hb hX hbl hbA hS hi2 dL_law_280 ?_
      refine lcV 0 8 (As := [.int (xs (x3 + 1).toNatClampNeg), .int (xs (x3 + 2).toNatClampNeg)]) (rest := [.int rv]) ⟨hx, hb, hml, hown, hts⟩ (ctX9_draw l D cI cB cZ bd (AC bd 9) hBD mVil mBad mFul mLen mSig mWay mLef mSpo mBeg mTok mVal mWor mNum mThe mRts mLns mOpn mTxt mAns mWys mSiz mNbs (xs (x3 + 1).toNatClampNeg) (xs (x3 + 2).toNatClampNeg) rv zmVil zmBad zmRts zmLns zmOpn hf2) (cwV 2 hts gL_law_X9_draw rfl rfl rfl (by decide +kernel) ⟨(Nat.le_of_ble_eq_true rfl), (Nat.le_of_ble_eq_true rfl)⟩) hK hPM hS hB1 rfl rfl rfl hl.1 rfl (Nat.le_of_ble_eq_true rfl) dL_law_281 ⟨(Nat.le_of_ble_eq_true rfl), (Nat.le_of_ble_eq_true rfl)⟩ (fun H2 locs hPM hk hS => ?_)
      replace hPC := keepW hPC rfl hk hdM
      refine lv_icmp_eq (tgt := 777) hx hb dL_law_284 (by decide) (fun _ => ?_) (fun hne => absurd rfl hne)
      exact hN _ _ _ _ _ _ _ _ _ _ _ _ _ _ _ _ _ _ _ _ _ _ _ _ _ _ _ _ _ _ _ _ _ _ _ _ _ _ _ _ _ _ _ _ _ hR2 _ _ hPC hPM hS ls hl
    by_cases hc5 : w = (5 : Int32)
    · refine lv_tableIn (tgt := 289) hx hb dL_law_32 (by rw [hc5]; decide) (by rw [hc5]; decide) (by rw [hc5]; rfl) (by decide) ?_
      obtain ⟨rv, zcBad, zmBad, hf1, hf2, hR2⟩ := op_of  hR (xs (x3 + 1).toNatClampNeg) (xs (x3 + 2).toNatClampNeg)
      refine lv_aload_n hx hb dL_law_289 rfl (lv_at hl 1 rfl) ?_
      refine lv_aload_n hx hb dL_law_290 rfl (lv_at hl 0 rfl) ?_
      refine lv_iload_n hx hb dL_law_291 rfl (lv_at hl 3 rfl) ?_
      refine lv_iconst (v := 1) hx hb dL_law_292 (by decide) ?_
      refine lv_iadd hx hb dL_law_293 ?_
      refine va_sld hx hb hX hbl hbA hS hi1 dL_law_294 ?_
      refine lv_aload_n hx hb dL_law_295 rfl (lv_at hl 0 rfl) ?_
      refine lv_iload_n hx hb dL_law_296 rfl (lv_at hl 3 rfl) ?_
      refine lv_iconst (v := 2) hx hb dL_law_297 (by decide) ?_
      refine lv_iadd hx hb dL_law_298 ?_
      refine va_sld hx hb hX hbl hbA hS hi2 dL_law_299 ?_
      refine lcV 0 7 (As := [.int (xs (x3 + 1).toNatClampNeg), .int (xs (x3 + 2).toNatClampNeg)]) (rest := []) ⟨hx, hb, hml, hown, hts⟩ (ctX8_of l D cI cB cZ ad (AC ad 20) hAD cBad cFul cCnt cOpc cStp cTsz cRcn cPlc cFlt cVil cLsz cRts cLns cOpn cGps cTrl cWgt cRch cByt cWds cFst cSnd cSgn (xs (x3 + 1).toNatClampNeg) (xs (x3 + 2).toNatClampNeg) rv zcBad hf1) (cwV 2 hts gL_law_X8_of rfl rfl rfl (by decide +kernel) ⟨(Nat.le_of_ble_eq_true rfl), (Nat.le_of_ble_eq_true rfl)⟩) hK hPC hS hA1 rfl rfl rfl hl.1 rfl (Nat.le_of_ble_eq_true rfl) dL_law_300 ⟨(Nat.le_of_ble_eq_true rfl), (Nat.le_of_ble_eq_true rfl)⟩ (fun H2 locs hPC hk hS => ?_)
      replace hPM := keepW hPM rfl hk hdC
      refine lv_aload_n hx hb dL_law_303 rfl (lv_at hl 2 rfl) ?_
      refine lv_aload_n hx hb dL_law_304 rfl (lv_at hl 0 rfl) ?_
      refine lv_iload_n hx hb dL_law_305 rfl (lv_at hl 3 rfl) ?_
      refine lv_iconst (v := 1) hx hb dL_law_306 (by decide) ?_
      refine lv_iadd hx hb dL_law_307 ?_
      refine va_sld hx hb hX hbl hbA hS hi1 dL_law_308 ?_
      refine lv_aload_n hx hb dL_law_309 rfl (lv_at hl 0 rfl) ?_
      refine lv_iload_n hx hb dL_law_310 rfl (lv_at hl 3 rfl) ?_
      refine lv_iconst (v := 2) hx hb dL_law_311 (by decide) ?_
      refine lv_iadd hx hb dL_law_312 ?_
      refine va_sld hx hb hX hbl hbA hS hi2 dL_law_313 ?_
      refine lcV 0 8 (As := [.int (xs (x3 + 1).toNatClampNeg), .int (xs (x3 + 2).toNatClampNeg)]) (rest := [.int rv]) ⟨hx, hb, hml, hown, hts⟩ (ctX9_of l D cI cB cZ bd (AC bd 9) hBD mVil mBad mFul mLen mSig mWay mLef mSpo mBeg mTok mVal mWor mNum mThe mRts mLns mOpn mTxt mAns mWys mSiz mNbs (xs (x3 + 1).toNatClampNeg) (xs (x3 + 2).toNatClampNeg) rv zmBad hf2) (cwV 2 hts gL_law_X9_of rfl rfl rfl (by decide +kernel) ⟨(Nat.le_of_ble_eq_true rfl), (Nat.le_of_ble_eq_true rfl)⟩) hK hPM hS hB1 rfl rfl rfl hl.1 rfl (Nat.le_of_ble_eq_true rfl) dL_law_314 ⟨(Nat.le_of_ble_eq_true rfl), (Nat.le_of_ble_eq_true rfl)⟩ (fun H2 locs hPM hk hS => ?_)
      replace hPC := keepW hPC rfl hk hdM
      refine lv_icmp_eq (tgt := 777) hx hb dL_law_317 (by decide) (fun _ => ?_) (fun hne => absurd rfl hne)
      exact hN _ _ _ _ _ _ _ _ _ _ _ _ _ _ _ _ _ _ _ _ _ _ _ _ _ _ _ _ _ _ _ _ _ _ _ _ _ _ _ _ _ _ _ _ _ hR2 _ _ hPC hPM hS ls hl
    by_cases hc6 : w = (6 : Int32)
    · refine lv_tableIn (tgt := 322) hx hb dL_law_32 (by rw [hc6]; decide) (by rw [hc6]; decide) (by rw [hc6]; rfl) (by decide) ?_
      obtain ⟨rv, zcBad, zmBad, hf1, hf2, hR2⟩ := op_far  hR (xs (x3 + 1).toNatClampNeg) (xs (x3 + 2).toNatClampNeg)
      refine lv_aload_n hx hb dL_law_322 rfl (lv_at hl 1 rfl) ?_
      refine lv_aload_n hx hb dL_law_323 rfl (lv_at hl 0 rfl) ?_
      refine lv_iload_n hx hb dL_law_324 rfl (lv_at hl 3 rfl) ?_
      refine lv_iconst (v := 1) hx hb dL_law_325 (by decide) ?_
      refine lv_iadd hx hb dL_law_326 ?_
      refine va_sld hx hb hX hbl hbA hS hi1 dL_law_327 ?_
      refine lv_aload_n hx hb dL_law_328 rfl (lv_at hl 0 rfl) ?_
      refine lv_iload_n hx hb dL_law_329 rfl (lv_at hl 3 rfl) ?_
      refine lv_iconst (v := 2) hx hb dL_law_330 (by decide) ?_
      refine lv_iadd hx hb dL_law_331 ?_
      refine va_sld hx hb hX hbl hbA hS hi2 dL_law_332 ?_
      refine lcV 0 7 (As := [.int (xs (x3 + 1).toNatClampNeg), .int (xs (x3 + 2).toNatClampNeg)]) (rest := []) ⟨hx, hb, hml, hown, hts⟩ (ctX8_far l D cI cB cZ ad (AC ad 20) hAD cBad cFul cCnt cOpc cStp cTsz cRcn cPlc cFlt cVil cLsz cRts cLns cOpn cGps cTrl cWgt cRch cByt cWds cFst cSnd cSgn (xs (x3 + 1).toNatClampNeg) (xs (x3 + 2).toNatClampNeg) rv zcBad hf1) (cwV 2 hts gL_law_X8_far rfl rfl rfl (by decide +kernel) ⟨(Nat.le_of_ble_eq_true rfl), (Nat.le_of_ble_eq_true rfl)⟩) hK hPC hS hA1 rfl rfl rfl hl.1 rfl (Nat.le_of_ble_eq_true rfl) dL_law_333 ⟨(Nat.le_of_ble_eq_true rfl), (Nat.le_of_ble_eq_true rfl)⟩ (fun H2 locs hPC hk hS => ?_)
      replace hPM := keepW hPM rfl hk hdC
      refine lv_aload_n hx hb dL_law_336 rfl (lv_at hl 2 rfl) ?_
      refine lv_aload_n hx hb dL_law_337 rfl (lv_at hl 0 rfl) ?_
      refine lv_iload_n hx hb dL_law_338 rfl (lv_at hl 3 rfl) ?_
      refine lv_iconst (v := 1) hx hb dL_law_339 (by decide) ?_
      refine lv_iadd hx hb dL_law_340 ?_
      refine va_sld hx hb hX hbl hbA hS hi1 dL_law_341 ?_
      refine lv_aload_n hx hb dL_law_342 rfl (lv_at hl 0 rfl) ?_
      refine lv_iload_n hx hb dL_law_343 rfl (lv_at hl 3 rfl) ?_
      refine lv_iconst (v := 2) hx hb dL_law_344 (by decide) ?_
      refine lv_iadd hx hb dL_law_345 ?_
      refine va_sld hx hb hX hbl hbA hS hi2 dL_law_346 ?_
      refine lcV 0 8 (As := [.int (xs (x3 + 1).toNatClampNeg), .int (xs (x3 + 2).toNatClampNeg)]) (rest := [.int rv]) ⟨hx, hb, hml, hown, hts⟩ (ctX9_far l D cI cB cZ bd (AC bd 9) hBD mVil mBad mFul mLen mSig mWay mLef mSpo mBeg mTok mVal mWor mNum mThe mRts mLns mOpn mTxt mAns mWys mSiz mNbs (xs (x3 + 1).toNatClampNeg) (xs (x3 + 2).toNatClampNeg) rv zmBad hf2) (cwV 2 hts gL_law_X9_far rfl rfl rfl (by decide +kernel) ⟨(Nat.le_of_ble_eq_true rfl), (Nat.le_of_ble_eq_true rfl)⟩) hK hPM hS hB1 rfl rfl rfl hl.1 rfl (Nat.le_of_ble_eq_true rfl) dL_law_347 ⟨(Nat.le_of_ble_eq_true rfl), (Nat.le_of_ble_eq_true rfl)⟩ (fun H2 locs hPM hk hS => ?_)
      replace hPC := keepW hPC rfl hk hdM
      refine lv_icmp_eq (tgt := 777) hx hb dL_law_350 (by decide) (fun _ => ?_) (fun hne => absurd rfl hne)
      exact hN _ _ _ _ _ _ _ _ _ _ _ _ _ _ _ _ _ _ _ _ _ _ _ _ _ _ _ _ _ _ _ _ _ _ _ _ _ _ _ _ _ _ _ _ _ hR2 _ _ hPC hPM hS ls hl
    by_cases hc7 : w = (7 : Int32)
    · refine lv_tableIn (tgt := 355) hx hb dL_law_32 (by rw [hc7]; decide) (by rw [hc7]; decide) (by rw [hc7]; rfl) (by decide) ?_
      obtain ⟨rv, zcBad, zcStp, zcTrl, zmBad, zmWay, zmWys, hf1, hf2, hR2⟩ := op_way (cStp := cStp) (cTrl := cTrl) (mWay := mWay) (mWys := mWys) hR (xs (x3 + 1).toNatClampNeg) (xs (x3 + 2).toNatClampNeg) (xs (x3 + 3).toNatClampNeg)
      refine lv_aload_n hx hb dL_law_355 rfl (lv_at hl 1 rfl) ?_
      refine lv_aload_n hx hb dL_law_356 rfl (lv_at hl 0 rfl) ?_
      refine lv_iload_n hx hb dL_law_357 rfl (lv_at hl 3 rfl) ?_
      refine lv_iconst (v := 1) hx hb dL_law_358 (by decide) ?_
      refine lv_iadd hx hb dL_law_359 ?_
      refine va_sld hx hb hX hbl hbA hS hi1 dL_law_360 ?_
      refine lv_aload_n hx hb dL_law_361 rfl (lv_at hl 0 rfl) ?_
      refine lv_iload_n hx hb dL_law_362 rfl (lv_at hl 3 rfl) ?_
      refine lv_iconst (v := 2) hx hb dL_law_363 (by decide) ?_
      refine lv_iadd hx hb dL_law_364 ?_
      refine va_sld hx hb hX hbl hbA hS hi2 dL_law_365 ?_
      refine lv_aload_n hx hb dL_law_366 rfl (lv_at hl 0 rfl) ?_
      refine lv_iload_n hx hb dL_law_367 rfl (lv_at hl 3 rfl) ?_
      refine lv_iconst (v := 3) hx hb dL_law_368 (by decide) ?_
      refine lv_iadd hx hb dL_law_369 ?_
      refine va_sld hx hb hX hbl hbA hS hi3 dL_law_370 ?_
      refine lcV 0 7 (As := [.int (xs (x3 + 1).toNatClampNeg), .int (xs (x3 + 2).toNatClampNeg), .int (xs (x3 + 3).toNatClampNeg)]) (rest := []) ⟨hx, hb, hml, hown, hts⟩ (ctX8_way l D cI cB cZ ad (AC ad 20) hAD cBad cFul cCnt cOpc cStp cTsz cRcn cPlc cFlt cVil cLsz cRts cLns cOpn cGps cTrl cWgt cRch cByt cWds cFst cSnd cSgn (xs (x3 + 1).toNatClampNeg) (xs (x3 + 2).toNatClampNeg) (xs (x3 + 3).toNatClampNeg) rv zcBad zcStp zcTrl hf1) (cwV 3 hts gL_law_X8_way rfl rfl rfl (by decide +kernel) ⟨(Nat.le_of_ble_eq_true rfl), (Nat.le_of_ble_eq_true rfl)⟩) hK hPC hS hA1 rfl rfl rfl hl.1 rfl (Nat.le_of_ble_eq_true rfl) dL_law_371 ⟨(Nat.le_of_ble_eq_true rfl), (Nat.le_of_ble_eq_true rfl)⟩ (fun H2 locs hPC hk hS => ?_)
      replace hPM := keepW hPM rfl hk hdC
      refine lv_aload_n hx hb dL_law_374 rfl (lv_at hl 2 rfl) ?_
      refine lv_aload_n hx hb dL_law_375 rfl (lv_at hl 0 rfl) ?_
      refine lv_iload_n hx hb dL_law_376 rfl (lv_at hl 3 rfl) ?_
      refine lv_iconst (v := 1) hx hb dL_law_377 (by decide) ?_
      refine lv_iadd hx hb dL_law_378 ?_
      refine va_sld hx hb hX hbl hbA hS hi1 dL_law_379 ?_
      refine lv_aload_n hx hb dL_law_380 rfl (lv_at hl 0 rfl) ?_
      refine lv_iload_n hx hb dL_law_381 rfl (lv_at hl 3 rfl) ?_
      refine lv_iconst (v := 2) hx hb dL_law_382 (by decide) ?_
      refine lv_iadd hx hb dL_law_383 ?_
      refine va_sld hx hb hX hbl hbA hS hi2 dL_law_384 ?_
      refine lv_aload_n hx hb dL_law_385 rfl (lv_at hl 0 rfl) ?_
      refine lv_iload_n hx hb dL_law_386 rfl (lv_at hl 3 rfl) ?_
      refine lv_iconst (v := 3) hx hb dL_law_387 (by decide) ?_
      refine lv_iadd hx hb dL_law_388 ?_
      refine va_sld hx hb hX hbl hbA hS hi3 dL_law_389 ?_
      refine lcV 0 8 (As := [.int (xs (x3 + 1).toNatClampNeg), .int (xs (x3 + 2).toNatClampNeg), .int (xs (x3 + 3).toNatClampNeg)]) (rest := [.int rv]) ⟨hx, hb, hml, hown, hts⟩ (ctX9_way l D cI cB cZ bd (AC bd 9) hBD mVil mBad mFul mLen mSig mWay mLef mSpo mBeg mTok mVal mWor mNum mThe mRts mLns mOpn mTxt mAns mWys mSiz mNbs (xs (x3 + 1).toNatClampNeg) (xs (x3 + 2).toNatClampNeg) (xs (x3 + 3).toNatClampNeg) rv zmBad zmWay zmWys hf2) (cwV 3 hts gL_law_X9_way rfl rfl rfl (by decide +kernel) ⟨(Nat.le_of_ble_eq_true rfl), (Nat.le_of_ble_eq_true rfl)⟩) hK hPM hS hB1 rfl rfl rfl hl.1 rfl (Nat.le_of_ble_eq_true rfl) dL_law_390 ⟨(Nat.le_of_ble_eq_true rfl), (Nat.le_of_ble_eq_true rfl)⟩ (fun H2 locs hPM hk hS => ?_)
      replace hPC := keepW hPC rfl hk hdM
      refine lv_icmp_eq (tgt := 777) hx hb dL_law_393 (by decide) (fun _ => ?_) (fun hne => absurd rfl hne)
      exact hN _ _ _ _ _ _ _ _ _ _ _ _ _ _ _ _ _ _ _ _ _ _ _ _ _ _ _ _ _ _ _ _ _ _ _ _ _ _ _ _ _ _ _ _ _ hR2 _ _ hPC hPM hS ls hl
    by_cases hc8 : w = (8 : Int32)
    · refine lv_tableIn (tgt := 398) hx hb dL_law_32 (by rw [hc8]; decide) (by rw [hc8]; decide) (by rw [hc8]; rfl) (by decide) ?_
      obtain ⟨rv, zcBad, zmBad, hf1, hf2, hR2⟩ := op_longest  hR (xs (x3 + 1).toNatClampNeg)
      refine lv_aload_n hx hb dL_law_398 rfl (lv_at hl 1 rfl) ?_
      refine lv_aload_n hx hb dL_law_399 rfl (lv_at hl 0 rfl) ?_
      refine lv_iload_n hx hb dL_law_400 rfl (lv_at hl 3 rfl) ?_
      refine lv_iconst (v := 1) hx hb dL_law_401 (by decide) ?_
      refine lv_iadd hx hb dL_law_402 ?_
      refine va_sld hx hb hX hbl hbA hS hi1 dL_law_403 ?_
      refine lcV 0 7 (As := [.int (xs (x3 + 1).toNatClampNeg)]) (rest := []) ⟨hx, hb, hml, hown, hts⟩ (ctX8_longest l D cI cB cZ ad (AC ad 20) hAD cBad cFul cCnt cOpc cStp cTsz cRcn cPlc cFlt cVil cLsz cRts cLns cOpn cGps cTrl cWgt cRch cByt cWds cFst cSnd cSgn (xs (x3 + 1).toNatClampNeg) rv zcBad hf1) (cwV 1 hts gL_law_X8_longest rfl rfl rfl (by decide +kernel) ⟨(Nat.le_of_ble_eq_true rfl), (Nat.le_of_ble_eq_true rfl)⟩) hK hPC hS hA1 rfl rfl rfl hl.1 rfl (Nat.le_of_ble_eq_true rfl) dL_law_404 ⟨(Nat.le_of_ble_eq_true rfl), (Nat.le_of_ble_eq_true rfl)⟩ (fun H2 locs hPC hk hS => ?_)
      replace hPM := keepW hPM rfl hk hdC
      refine lv_aload_n hx hb dL_law_407 rfl (lv_at hl 2 rfl) ?_
      refine lv_aload_n hx hb dL_law_408 rfl (lv_at hl 0 rfl) ?_
      refine lv_iload_n hx hb dL_law_409 rfl (lv_at hl 3 rfl) ?_
      refine lv_iconst (v := 1) hx hb dL_law_410 (by decide) ?_
      refine lv_iadd hx hb dL_law_411 ?_
      refine va_sld hx hb hX hbl hbA hS hi1 dL_law_412 ?_
      refine lcV 0 8 (As := [.int (xs (x3 + 1).toNatClampNeg)]) (rest := [.int rv]) ⟨hx, hb, hml, hown, hts⟩ (ctX9_longest l D cI cB cZ bd (AC bd 9) hBD mVil mBad mFul mLen mSig mWay mLef mSpo mBeg mTok mVal mWor mNum mThe mRts mLns mOpn mTxt mAns mWys mSiz mNbs (xs (x3 + 1).toNatClampNeg) rv zmBad hf2) (cwV 1 hts gL_law_X9_longest rfl rfl rfl (by decide +kernel) ⟨(Nat.le_of_ble_eq_true rfl), (Nat.le_of_ble_eq_true rfl)⟩) hK hPM hS hB1 rfl rfl rfl hl.1 rfl (Nat.le_of_ble_eq_true rfl) dL_law_413 ⟨(Nat.le_of_ble_eq_true rfl), (Nat.le_of_ble_eq_true rfl)⟩ (fun H2 locs hPM hk hS => ?_)
      replace hPC := keepW hPC rfl hk hdM
      refine lv_icmp_eq (tgt := 777) hx hb dL_law_416 (by decide) (fun _ => ?_) (fun hne => absurd rfl hne)
      exact hN _ _ _ _ _ _ _ _ _ _ _ _ _ _ _ _ _ _ _ _ _ _ _ _ _ _ _ _ _ _ _ _ _ _ _ _ _ _ _ _ _ _ _ _ _ hR2 _ _ hPC hPM hS ls hl
    by_cases hc9 : w = (9 : Int32)
    · refine lv_tableIn (tgt := 421) hx hb dL_law_32 (by rw [hc9]; decide) (by rw [hc9]; decide) (by rw [hc9]; rfl) (by decide) ?_
      obtain ⟨rv, zcBad, zcWgt, zmBad, zmSiz, hf1, hf2, hR2⟩ := op_middle (cWgt := cWgt) (mSiz := mSiz) hR (xs (x3 + 1).toNatClampNeg)
      refine lv_aload_n hx hb dL_law_421 rfl (lv_at hl 1 rfl) ?_
      refine lv_aload_n hx hb dL_law_422 rfl (lv_at hl 0 rfl) ?_
      refine lv_iload_n hx hb dL_law_423 rfl (lv_at hl 3 rfl) ?_
      refine lv_iconst (v := 1) hx hb dL_law_424 (by decide) ?_
      refine lv_iadd hx hb dL_law_425 ?_
      refine va_sld hx hb hX hbl hbA hS hi1 dL_law_426 ?_
      refine lcV 0 7 (As := [.int (xs (x3 + 1).toNatClampNeg)]) (rest := []) ⟨hx, hb, hml, hown, hts⟩ (ctX8_middle l D cI cB cZ ad (AC ad 20) hAD cBad cFul cCnt cOpc cStp cTsz cRcn cPlc cFlt cVil cLsz cRts cLns cOpn cGps cTrl cWgt cRch cByt cWds cFst cSnd cSgn (xs (x3 + 1).toNatClampNeg) rv zcBad zcWgt hf1) (cwV 1 hts gL_law_X8_middle rfl rfl rfl (by decide +kernel) ⟨(Nat.le_of_ble_eq_true rfl), (Nat.le_of_ble_eq_true rfl)⟩) hK hPC hS hA1 rfl rfl rfl hl.1 rfl (Nat.le_of_ble_eq_true rfl) dL_law_427 ⟨(Nat.le_of_ble_eq_true rfl), (Nat.le_of_ble_eq_true rfl)⟩ (fun H2 locs hPC hk hS => ?_)
      replace hPM := keepW hPM rfl hk hdC
      refine lv_aload_n hx hb dL_law_430 rfl (lv_at hl 2 rfl) ?_
      refine lv_aload_n hx hb dL_law_431 rfl (lv_at hl 0 rfl) ?_
      refine lv_iload_n hx hb dL_law_432 rfl (lv_at hl 3 rfl) ?_
      refine lv_iconst (v := 1) hx hb dL_law_433 (by decide) ?_
      refine lv_iadd hx hb dL_law_434 ?_
      refine va_sld hx hb hX hbl hbA hS hi1 dL_law_435 ?_
      refine lcV 0 8 (As := [.int (xs (x3 + 1).toNatClampNeg)]) (rest := [.int rv]) ⟨hx, hb, hml, hown, hts⟩ (ctX9_middle l D cI cB cZ bd (AC bd 9) hBD mVil mBad mFul mLen mSig mWay mLef mSpo mBeg mTok mVal mWor mNum mThe mRts mLns mOpn mTxt mAns mWys mSiz mNbs (xs (x3 + 1).toNatClampNeg) rv zmBad zmSiz hf2) (cwV 1 hts gL_law_X9_middle rfl rfl rfl (by decide +kernel) ⟨(Nat.le_of_ble_eq_true rfl), (Nat.le_of_ble_eq_true rfl)⟩) hK hPM hS hB1 rfl rfl rfl hl.1 rfl (Nat.le_of_ble_eq_true rfl) dL_law_436 ⟨(Nat.le_of_ble_eq_true rfl), (Nat.le_of_ble_eq_true rfl)⟩ (fun H2 locs hPM hk hS => ?_)
      replace hPC := keepW hPC rfl hk hdM
      refine lv_icmp_eq (tgt := 777) hx hb dL_law_439 (by decide) (fun _ => ?_) (fun hne => absurd rfl hne)
      exact hN _ _ _ _ _ _ _ _ _ _ _ _ _ _ _ _ _ _ _ _ _ _ _ _ _ _ _ _ _ _ _ _ _ _ _ _ _ _ _ _ _ _ _ _ _ hR2 _ _ hPC hPM hS ls hl
    by_cases hc10 : w = (10 : Int32)
    · refine lv_tableIn (tgt := 444) hx hb dL_law_32 (by rw [hc10]; decide) (by rw [hc10]; decide) (by rw [hc10]; rfl) (by decide) ?_
      obtain ⟨rv, zcBad, zmBad, hf1, hf2, hR2⟩ := op_nearest  hR (xs (x3 + 1).toNatClampNeg) (xs (x3 + 2).toNatClampNeg)
      refine lv_aload_n hx hb dL_law_444 rfl (lv_at hl 1 rfl) ?_
      refine lv_aload_n hx hb dL_law_445 rfl (lv_at hl 0 rfl) ?_
      refine lv_iload_n hx hb dL_law_446 rfl (lv_at hl 3 rfl) ?_
      refine lv_iconst (v := 1) hx hb dL_law_447 (by decide) ?_
      refine lv_iadd hx hb dL_law_448 ?_
      refine va_sld hx hb hX hbl hbA hS hi1 dL_law_449 ?_
      refine lv_aload_n hx hb dL_law_450 rfl (lv_at hl 0 rfl) ?_
      refine lv_iload_n hx hb dL_law_451 rfl (lv_at hl 3 rfl) ?_
      refine lv_iconst (v := 2) hx hb dL_law_452 (by decide) ?_
      refine lv_iadd hx hb dL_law_453 ?_
      refine va_sld hx hb hX hbl hbA hS hi2 dL_law_454 ?_
      refine lcV 0 7 (As := [.int (xs (x3 + 1).toNatClampNeg), .int (xs (x3 + 2).toNatClampNeg)]) (rest := []) ⟨hx, hb, hml, hown, hts⟩ (ctX8_nearest l D cI cB cZ ad (AC ad 20) hAD cBad cFul cCnt cOpc cStp cTsz cRcn cPlc cFlt cVil cLsz cRts cLns cOpn cGps cTrl cWgt cRch cByt cWds cFst cSnd cSgn (xs (x3 + 1).toNatClampNeg) (xs (x3 + 2).toNatClampNeg) rv zcBad hf1) (cwV 2 hts gL_law_X8_nearest rfl rfl rfl (by decide +kernel) ⟨(Nat.le_of_ble_eq_true rfl), (Nat.le_of_ble_eq_true rfl)⟩) hK hPC hS hA1 rfl rfl rfl hl.1 rfl (Nat.le_of_ble_eq_true rfl) dL_law_455 ⟨(Nat.le_of_ble_eq_true rfl), (Nat.le_of_ble_eq_true rfl)⟩ (fun H2 locs hPC hk hS => ?_)
      replace hPM := keepW hPM rfl hk hdC
      refine lv_aload_n hx hb dL_law_458 rfl (lv_at hl 2 rfl) ?_
      refine lv_aload_n hx hb dL_law_459 rfl (lv_at hl 0 rfl) ?_
      refine lv_iload_n hx hb dL_law_460 rfl (lv_at hl 3 rfl) ?_
      refine lv_iconst (v := 1) hx hb dL_law_461 (by decide) ?_
      refine lv_iadd hx hb dL_law_462 ?_
      refine va_sld hx hb hX hbl hbA hS hi1 dL_law_463 ?_
      refine lv_aload_n hx hb dL_law_464 rfl (lv_at hl 0 rfl) ?_
      refine lv_iload_n hx hb dL_law_465 rfl (lv_at hl 3 rfl) ?_
      refine lv_iconst (v := 2) hx hb dL_law_466 (by decide) ?_
      refine lv_iadd hx hb dL_law_467 ?_
      refine va_sld hx hb hX hbl hbA hS hi2 dL_law_468 ?_
      refine lcV 0 8 (As := [.int (xs (x3 + 1).toNatClampNeg), .int (xs (x3 + 2).toNatClampNeg)]) (rest := [.int rv]) ⟨hx, hb, hml, hown, hts⟩ (ctX9_nearest l D cI cB cZ bd (AC bd 9) hBD mVil mBad mFul mLen mSig mWay mLef mSpo mBeg mTok mVal mWor mNum mThe mRts mLns mOpn mTxt mAns mWys mSiz mNbs (xs (x3 + 1).toNatClampNeg) (xs (x3 + 2).toNatClampNeg) rv zmBad hf2) (cwV 2 hts gL_law_X9_nearest rfl rfl rfl (by decide +kernel) ⟨(Nat.le_of_ble_eq_true rfl), (Nat.le_of_ble_eq_true rfl)⟩) hK hPM hS hB1 rfl rfl rfl hl.1 rfl (Nat.le_of_ble_eq_true rfl) dL_law_469 ⟨(Nat.le_of_ble_eq_true rfl), (Nat.le_of_ble_eq_true rfl)⟩ (fun H2 locs hPM hk hS => ?_)
      replace hPC := keepW hPC rfl hk hdM
      refine lv_icmp_eq (tgt := 777) hx hb dL_law_472 (by decide) (fun _ => ?_) (fun hne => absurd rfl hne)
      exact hN _ _ _ _ _ _ _ _ _ _ _ _ _ _ _ _ _ _ _ _ _ _ _ _ _ _ _ _ _ _ _ _ _ _ _ _ _ _ _ _ _ _ _ _ _ hR2 _ _ hPC hPM hS ls hl
    by_cases hc11 : w = (11 : Int32)
    · refine lv_tableIn (tgt := 477) hx hb dL_law_32 (by rw [hc11]; decide) (by rw [hc11]; decide) (by rw [hc11]; rfl) (by decide) ?_
      obtain ⟨rv, zcBad, zmBad, hf1, hf2, hR2⟩ := op_turn  hR (xs (x3 + 1).toNatClampNeg) (xs (x3 + 2).toNatClampNeg) (xs (x3 + 3).toNatClampNeg)
      refine lv_aload_n hx hb dL_law_477 rfl (lv_at hl 1 rfl) ?_
      refine lv_aload_n hx hb dL_law_478 rfl (lv_at hl 0 rfl) ?_
      refine lv_iload_n hx hb dL_law_479 rfl (lv_at hl 3 rfl) ?_
      refine lv_iconst (v := 1) hx hb dL_law_480 (by decide) ?_
      refine lv_iadd hx hb dL_law_481 ?_
      refine va_sld hx hb hX hbl hbA hS hi1 dL_law_482 ?_
      refine lv_aload_n hx hb dL_law_483 rfl (lv_at hl 0 rfl) ?_
      refine lv_iload_n hx hb dL_law_484 rfl (lv_at hl 3 rfl) ?_
      refine lv_iconst (v := 2) hx hb dL_law_485 (by decide) ?_
      refine lv_iadd hx hb dL_law_486 ?_
      refine va_sld hx hb hX hbl hbA hS hi2 dL_law_487 ?_
      refine lv_aload_n hx hb dL_law_488 rfl (lv_at hl 0 rfl) ?_
      refine lv_iload_n hx hb dL_law_489 rfl (lv_at hl 3 rfl) ?_
      refine lv_iconst (v := 3) hx hb dL_law_490 (by decide) ?_
      refine lv_iadd hx hb dL_law_491 ?_
      refine va_sld hx hb hX hbl hbA hS hi3 dL_law_492 ?_
      refine lcV 0 7 (As := [.int (xs (x3 + 1).toNatClampNeg), .int (xs (x3 + 2).toNatClampNeg), .int (xs (x3 + 3).toNatClampNeg)]) (rest := []) ⟨hx, hb, hml, hown, hts⟩ (ctX8_turn l D cI cB cZ ad (AC ad 20) hAD cBad cFul cCnt cOpc cStp cTsz cRcn cPlc cFlt cVil cLsz cRts cLns cOpn cGps cTrl cWgt cRch cByt cWds cFst cSnd cSgn (xs (x3 + 1).toNatClampNeg) (xs (x3 + 2).toNatClampNeg) (xs (x3 + 3).toNatClampNeg) rv zcBad hf1) (cwV 3 hts gL_law_X8_turn rfl rfl rfl (by decide +kernel) ⟨(Nat.le_of_ble_eq_true rfl), (Nat.le_of_ble_eq_true rfl)⟩) hK hPC hS hA1 rfl rfl rfl hl.1 rfl (Nat.le_of_ble_eq_true rfl) dL_law_493 ⟨(Nat.le_of_ble_eq_true rfl), (Nat.le_of_ble_eq_true rfl)⟩ (fun H2 locs hPC hk hS => ?_)
      replace hPM := keepW hPM rfl hk hdC
      refine lv_aload_n hx hb dL_law_496 rfl (lv_at hl 2 rfl) ?_
      refine lv_aload_n hx hb dL_law_497 rfl (lv_at hl 0 rfl) ?_
      refine lv_iload_n hx hb dL_law_498 rfl (lv_at hl 3 rfl) ?_
      refine lv_iconst (v := 1) hx hb dL_law_499 (by decide) ?_
      refine lv_iadd hx hb dL_law_500 ?_
      refine va_sld hx hb hX hbl hbA hS hi1 dL_law_501 ?_
      refine lv_aload_n hx hb dL_law_502 rfl (lv_at hl 0 rfl) ?_
      refine lv_iload_n hx hb dL_law_503 rfl (lv_at hl 3 rfl) ?_
      refine lv_iconst (v := 2) hx hb dL_law_504 (by decide) ?_
      refine lv_iadd hx hb dL_law_505 ?_
      refine va_sld hx hb hX hbl hbA hS hi2 dL_law_506 ?_
      refine lv_aload_n hx hb dL_law_507 rfl (lv_at hl 0 rfl) ?_
      refine lv_iload_n hx hb dL_law_508 rfl (lv_at hl 3 rfl) ?_
      refine lv_iconst (v := 3) hx hb dL_law_509 (by decide) ?_
      refine lv_iadd hx hb dL_law_510 ?_
      refine va_sld hx hb hX hbl hbA hS hi3 dL_law_511 ?_
      refine lcV 0 8 (As := [.int (xs (x3 + 1).toNatClampNeg), .int (xs (x3 + 2).toNatClampNeg), .int (xs (x3 + 3).toNatClampNeg)]) (rest := [.int rv]) ⟨hx, hb, hml, hown, hts⟩ (ctX9_turn l D cI cB cZ bd (AC bd 9) hBD mVil mBad mFul mLen mSig mWay mLef mSpo mBeg mTok mVal mWor mNum mThe mRts mLns mOpn mTxt mAns mWys mSiz mNbs (xs (x3 + 1).toNatClampNeg) (xs (x3 + 2).toNatClampNeg) (xs (x3 + 3).toNatClampNeg) rv zmBad hf2) (cwV 3 hts gL_law_X9_turn rfl rfl rfl (by decide +kernel) ⟨(Nat.le_of_ble_eq_true rfl), (Nat.le_of_ble_eq_true rfl)⟩) hK hPM hS hB1 rfl rfl rfl hl.1 rfl (Nat.le_of_ble_eq_true rfl) dL_law_512 ⟨(Nat.le_of_ble_eq_true rfl), (Nat.le_of_ble_eq_true rfl)⟩ (fun H2 locs hPM hk hS => ?_)
      replace hPC := keepW hPC rfl hk hdM
      refine lv_icmp_eq (tgt := 777) hx hb dL_law_515 (by decide) (fun _ => ?_) (fun hne => absurd rfl hne)
      exact hN _ _ _ _ _ _ _ _ _ _ _ _ _ _ _ _ _ _ _ _ _ _ _ _ _ _ _ _ _ _ _ _ _ _ _ _ _ _ _ _ _ _ _ _ _ hR2 _ _ hPC hPM hS ls hl
    by_cases hc12 : w = (12 : Int32)
    · refine lv_tableIn (tgt := 520) hx hb dL_law_32 (by rw [hc12]; decide) (by rw [hc12]; decide) (by rw [hc12]; rfl) (by decide) ?_
      obtain ⟨rv, zcBad, zmBad, hf1, hf2, hR2⟩ := op_within  hR (xs (x3 + 1).toNatClampNeg) (xs (x3 + 2).toNatClampNeg)
      refine lv_aload_n hx hb dL_law_520 rfl (lv_at hl 1 rfl) ?_
      refine lv_aload_n hx hb dL_law_521 rfl (lv_at hl 0 rfl) ?_
      refine lv_iload_n hx hb dL_law_522 rfl (lv_at hl 3 rfl) ?_
      refine lv_iconst (v := 1) hx hb dL_law_523 (by decide) ?_
      refine lv_iadd hx hb dL_law_524 ?_
      refine va_sld hx hb hX hbl hbA hS hi1 dL_law_525 ?_
      refine lv_aload_n hx hb dL_law_526 rfl (lv_at hl 0 rfl) ?_
      refine lv_iload_n hx hb dL_law_527 rfl (lv_at hl 3 rfl) ?_
      refine lv_iconst (v := 2) hx hb dL_law_528 (by decide) ?_
      refine lv_iadd hx hb dL_law_529 ?_
      refine va_sld hx hb hX hbl hbA hS hi2 dL_law_530 ?_
      refine lcV 0 7 (As := [.int (xs (x3 + 1).toNatClampNeg), .int (xs (x3 + 2).toNatClampNeg)]) (rest := []) ⟨hx, hb, hml, hown, hts⟩ (ctX8_within l D cI cB cZ ad (AC ad 20) hAD cBad cFul cCnt cOpc cStp cTsz cRcn cPlc cFlt cVil cLsz cRts cLns cOpn cGps cTrl cWgt cRch cByt cWds cFst cSnd cSgn (xs (x3 + 1).toNatClampNeg) (xs (x3 + 2).toNatClampNeg) rv zcBad hf1) (cwV 2 hts gL_law_X8_within rfl rfl rfl (by decide +kernel) ⟨(Nat.le_of_ble_eq_true rfl), (Nat.le_of_ble_eq_true rfl)⟩) hK hPC hS hA1 rfl rfl rfl hl.1 rfl (Nat.le_of_ble_eq_true rfl) dL_law_531 ⟨(Nat.le_of_ble_eq_true rfl), (Nat.le_of_ble_eq_true rfl)⟩ (fun H2 locs hPC hk hS => ?_)
      replace hPM := keepW hPM rfl hk hdC
      refine lv_aload_n hx hb dL_law_534 rfl (lv_at hl 2 rfl) ?_
      refine lv_aload_n hx hb dL_law_535 rfl (lv_at hl 0 rfl) ?_
      refine lv_iload_n hx hb dL_law_536 rfl (lv_at hl 3 rfl) ?_
      refine lv_iconst (v := 1) hx hb dL_law_537 (by decide) ?_
      refine lv_iadd hx hb dL_law_538 ?_
      refine va_sld hx hb hX hbl hbA hS hi1 dL_law_539 ?_
      refine lv_aload_n hx hb dL_law_540 rfl (lv_at hl 0 rfl) ?_
      refine lv_iload_n hx hb dL_law_541 rfl (lv_at hl 3 rfl) ?_
      refine lv_iconst (v := 2) hx hb dL_law_542 (by decide) ?_
      refine lv_iadd hx hb dL_law_543 ?_
      refine va_sld hx hb hX hbl hbA hS hi2 dL_law_544 ?_
      refine lcV 0 8 (As := [.int (xs (x3 + 1).toNatClampNeg), .int (xs (x3 + 2).toNatClampNeg)]) (rest := [.int rv]) ⟨hx, hb, hml, hown, hts⟩ (ctX9_within l D cI cB cZ bd (AC bd 9) hBD mVil mBad mFul mLen mSig mWay mLef mSpo mBeg mTok mVal mWor mNum mThe mRts mLns mOpn mTxt mAns mWys mSiz mNbs (xs (x3 + 1).toNatClampNeg) (xs (x3 + 2).toNatClampNeg) rv zmBad hf2) (cwV 2 hts gL_law_X9_within rfl rfl rfl (by decide +kernel) ⟨(Nat.le_of_ble_eq_true rfl), (Nat.le_of_ble_eq_true rfl)⟩) hK hPM hS hB1 rfl rfl rfl hl.1 rfl (Nat.le_of_ble_eq_true rfl) dL_law_545 ⟨(Nat.le_of_ble_eq_true rfl), (Nat.le_of_ble_eq_true rfl)⟩ (fun H2 locs hPM hk hS => ?_)
      replace hPC := keepW hPC rfl hk hdM
      refine lv_icmp_eq (tgt := 777) hx hb dL_law_548 (by decide) (fun _ => ?_) (fun hne => absurd rfl hne)
      exact hN _ _ _ _ _ _ _ _ _ _ _ _ _ _ _ _ _ _ _ _ _ _ _ _ _ _ _ _ _ _ _ _ _ _ _ _ _ _ _ _ _ _ _ _ _ hR2 _ _ hPC hPM hS ls hl
    by_cases hc13 : w = (13 : Int32)
    · refine lv_tableIn (tgt := 553) hx hb dL_law_32 (by rw [hc13]; decide) (by rw [hc13]; decide) (by rw [hc13]; rfl) (by decide) ?_
      obtain ⟨rv, zcBad, zmBad, hf1, hf2, hR2⟩ := op_sum  hR (xs (x3 + 1).toNatClampNeg)
      refine lv_aload_n hx hb dL_law_553 rfl (lv_at hl 1 rfl) ?_
      refine lv_aload_n hx hb dL_law_554 rfl (lv_at hl 0 rfl) ?_
      refine lv_iload_n hx hb dL_law_555 rfl (lv_at hl 3 rfl) ?_
      refine lv_iconst (v := 1) hx hb dL_law_556 (by decide) ?_
      refine lv_iadd hx hb dL_law_557 ?_
      refine va_sld hx hb hX hbl hbA hS hi1 dL_law_558 ?_
      refine lcV 0 7 (As := [.int (xs (x3 + 1).toNatClampNeg)]) (rest := []) ⟨hx, hb, hml, hown, hts⟩ (ctX8_sum l D cI cB cZ ad (AC ad 20) hAD cBad cFul cCnt cOpc cStp cTsz cRcn cPlc cFlt cVil cLsz cRts cLns cOpn cGps cTrl cWgt cRch cByt cWds cFst cSnd cSgn (xs (x3 + 1).toNatClampNeg) rv zcBad hf1) (cwV 1 hts gL_law_X8_sum rfl rfl rfl (by decide +kernel) ⟨(Nat.le_of_ble_eq_true rfl), (Nat.le_of_ble_eq_true rfl)⟩) hK hPC hS hA1 rfl rfl rfl hl.1 rfl (Nat.le_of_ble_eq_true rfl) dL_law_559 ⟨(Nat.le_of_ble_eq_true rfl), (Nat.le_of_ble_eq_true rfl)⟩ (fun H2 locs hPC hk hS => ?_)
      replace hPM := keepW hPM rfl hk hdC
      refine lv_aload_n hx hb dL_law_562 rfl (lv_at hl 2 rfl) ?_
      refine lv_aload_n hx hb dL_law_563 rfl (lv_at hl 0 rfl) ?_
      refine lv_iload_n hx hb dL_law_564 rfl (lv_at hl 3 rfl) ?_
      refine lv_iconst (v := 1) hx hb dL_law_565 (by decide) ?_
      refine lv_iadd hx hb dL_law_566 ?_
      refine va_sld hx hb hX hbl hbA hS hi1 dL_law_567 ?_
      refine lcV 0 8 (As := [.int (xs (x3 + 1).toNatClampNeg)]) (rest := [.int rv]) ⟨hx, hb, hml, hown, hts⟩ (ctX9_sum l D cI cB cZ bd (AC bd 9) hBD mVil mBad mFul mLen mSig mWay mLef mSpo mBeg mTok mVal mWor mNum mThe mRts mLns mOpn mTxt mAns mWys mSiz mNbs (xs (x3 + 1).toNatClampNeg) rv zmBad hf2) (cwV 1 hts gL_law_X9_sum rfl rfl rfl (by decide +kernel) ⟨(Nat.le_of_ble_eq_true rfl), (Nat.le_of_ble_eq_true rfl)⟩) hK hPM hS hB1 rfl rfl rfl hl.1 rfl (Nat.le_of_ble_eq_true rfl) dL_law_568 ⟨(Nat.le_of_ble_eq_true rfl), (Nat.le_of_ble_eq_true rfl)⟩ (fun H2 locs hPM hk hS => ?_)
      replace hPC := keepW hPC rfl hk hdM
      refine lv_icmp_eq (tgt := 777) hx hb dL_law_571 (by decide) (fun _ => ?_) (fun hne => absurd rfl hne)
      exact hN _ _ _ _ _ _ _ _ _ _ _ _ _ _ _ _ _ _ _ _ _ _ _ _ _ _ _ _ _ _ _ _ _ _ _ _ _ _ _ _ _ _ _ _ _ hR2 _ _ hPC hPM hS ls hl
    by_cases hc14 : w = (14 : Int32)
    · refine lv_tableIn (tgt := 576) hx hb dL_law_32 (by rw [hc14]; decide) (by rw [hc14]; decide) (by rw [hc14]; rfl) (by decide) ?_
      obtain ⟨rv, zcBad, zcRch, zmBad, zmLef, hf1, hf2, hR2⟩ := op_left (cRch := cRch) (mLef := mLef) hR (xs (x3 + 1).toNatClampNeg)
      refine lv_aload_n hx hb dL_law_576 rfl (lv_at hl 1 rfl) ?_
      refine lv_aload_n hx hb dL_law_577 rfl (lv_at hl 0 rfl) ?_
      refine lv_iload_n hx hb dL_law_578 rfl (lv_at hl 3 rfl) ?_
      refine lv_iconst (v := 1) hx hb dL_law_579 (by decide) ?_
      refine lv_iadd hx hb dL_law_580 ?_
      refine va_sld hx hb hX hbl hbA hS hi1 dL_law_581 ?_
      refine lcV 0 7 (As := [.int (xs (x3 + 1).toNatClampNeg)]) (rest := []) ⟨hx, hb, hml, hown, hts⟩ (ctX8_left l D cI cB cZ ad (AC ad 20) hAD cBad cFul cCnt cOpc cStp cTsz cRcn cPlc cFlt cVil cLsz cRts cLns cOpn cGps cTrl cWgt cRch cByt cWds cFst cSnd cSgn (xs (x3 + 1).toNatClampNeg) rv zcBad zcRch hf1) (cwV 1 hts gL_law_X8_left rfl rfl rfl (by decide +kernel) ⟨(Nat.le_of_ble_eq_true rfl), (Nat.le_of_ble_eq_true rfl)⟩) hK hPC hS hA1 rfl rfl rfl hl.1 rfl (Nat.le_of_ble_eq_true rfl) dL_law_582 ⟨(Nat.le_of_ble_eq_true rfl), (Nat.le_of_ble_eq_true rfl)⟩ (fun H2 locs hPC hk hS => ?_)
      replace hPM := keepW hPM rfl hk hdC
      refine lv_aload_n hx hb dL_law_585 rfl (lv_at hl 2 rfl) ?_
      refine lv_aload_n hx hb dL_law_586 rfl (lv_at hl 0 rfl) ?_
      refine lv_iload_n hx hb dL_law_587 rfl (lv_at hl 3 rfl) ?_
      refine lv_iconst (v := 1) hx hb dL_law_588 (by decide) ?_
      refine lv_iadd hx hb dL_law_589 ?_
      refine va_sld hx hb hX hbl hbA hS hi1 dL_law_590 ?_
      refine lcV 0 8 (As := [.int (xs (x3 + 1).toNatClampNeg)]) (rest := [.int rv]) ⟨hx, hb, hml, hown, hts⟩ (ctX9_left l D cI cB cZ bd (AC bd 9) hBD mVil mBad mFul mLen mSig mWay mLef mSpo mBeg mTok mVal mWor mNum mThe mRts mLns mOpn mTxt mAns mWys mSiz mNbs (xs (x3 + 1).toNatClampNeg) rv zmBad zmLef hf2) (cwV 1 hts gL_law_X9_left rfl rfl rfl (by decide +kernel) ⟨(Nat.le_of_ble_eq_true rfl), (Nat.le_of_ble_eq_true rfl)⟩) hK hPM hS hB1 rfl rfl rfl hl.1 rfl (Nat.le_of_ble_eq_true rfl) dL_law_591 ⟨(Nat.le_of_ble_eq_true rfl), (Nat.le_of_ble_eq_true rfl)⟩ (fun H2 locs hPM hk hS => ?_)
      replace hPC := keepW hPC rfl hk hdM
      refine lv_icmp_eq (tgt := 777) hx hb dL_law_594 (by decide) (fun _ => ?_) (fun hne => absurd rfl hne)
      exact hN _ _ _ _ _ _ _ _ _ _ _ _ _ _ _ _ _ _ _ _ _ _ _ _ _ _ _ _ _ _ _ _ _ _ _ _ _ _ _ _ _ _ _ _ _ hR2 _ _ hPC hPM hS ls hl
    by_cases hc15 : w = (15 : Int32)
    · refine lv_tableIn (tgt := 599) hx hb dL_law_32 (by rw [hc15]; decide) (by rw [hc15]; decide) (by rw [hc15]; rfl) (by decide) ?_
      obtain ⟨rv, zcBad, zcRch, zmBad, zmLef, zmOpn, hf1, hf2, hR2⟩ := op_more (cRch := cRch) (mLef := mLef) hR (xs (x3 + 1).toNatClampNeg)
      refine lv_aload_n hx hb dL_law_599 rfl (lv_at hl 1 rfl) ?_
      refine lv_aload_n hx hb dL_law_600 rfl (lv_at hl 0 rfl) ?_
      refine lv_iload_n hx hb dL_law_601 rfl (lv_at hl 3 rfl) ?_
      refine lv_iconst (v := 1) hx hb dL_law_602 (by decide) ?_
      refine lv_iadd hx hb dL_law_603 ?_
      refine va_sld hx hb hX hbl hbA hS hi1 dL_law_604 ?_
      refine lcV 0 7 (As := [.int (xs (x3 + 1).toNatClampNeg)]) (rest := []) ⟨hx, hb, hml, hown, hts⟩ (ctX8_more l D cI cB cZ ad (AC ad 20) hAD cBad cFul cCnt cOpc cStp cTsz cRcn cPlc cFlt cVil cLsz cRts cLns cOpn cGps cTrl cWgt cRch cByt cWds cFst cSnd cSgn (xs (x3 + 1).toNatClampNeg) rv zcBad zcRch hf1) (cwV 1 hts gL_law_X8_more rfl rfl rfl (by decide +kernel) ⟨(Nat.le_of_ble_eq_true rfl), (Nat.le_of_ble_eq_true rfl)⟩) hK hPC hS hA1 rfl rfl rfl hl.1 rfl (Nat.le_of_ble_eq_true rfl) dL_law_605 ⟨(Nat.le_of_ble_eq_true rfl), (Nat.le_of_ble_eq_true rfl)⟩ (fun H2 locs hPC hk hS => ?_)
      replace hPM := keepW hPM rfl hk hdC
      refine lv_aload_n hx hb dL_law_608 rfl (lv_at hl 2 rfl) ?_
      refine lv_aload_n hx hb dL_law_609 rfl (lv_at hl 0 rfl) ?_
      refine lv_iload_n hx hb dL_law_610 rfl (lv_at hl 3 rfl) ?_
      refine lv_iconst (v := 1) hx hb dL_law_611 (by decide) ?_
      refine lv_iadd hx hb dL_law_612 ?_
      refine va_sld hx hb hX hbl hbA hS hi1 dL_law_613 ?_
      refine lcV 0 8 (As := [.int (xs (x3 + 1).toNatClampNeg)]) (rest := [.int rv]) ⟨hx, hb, hml, hown, hts⟩ (ctX9_more l D cI cB cZ bd (AC bd 9) hBD mVil mBad mFul mLen mSig mWay mLef mSpo mBeg mTok mVal mWor mNum mThe mRts mLns mOpn mTxt mAns mWys mSiz mNbs (xs (x3 + 1).toNatClampNeg) rv zmBad zmLef zmOpn hf2) (cwV 1 hts gL_law_X9_more rfl rfl rfl (by decide +kernel) ⟨(Nat.le_of_ble_eq_true rfl), (Nat.le_of_ble_eq_true rfl)⟩) hK hPM hS hB1 rfl rfl rfl hl.1 rfl (Nat.le_of_ble_eq_true rfl) dL_law_614 ⟨(Nat.le_of_ble_eq_true rfl), (Nat.le_of_ble_eq_true rfl)⟩ (fun H2 locs hPM hk hS => ?_)
      replace hPC := keepW hPC rfl hk hdM
      refine lv_icmp_eq (tgt := 777) hx hb dL_law_617 (by decide) (fun _ => ?_) (fun hne => absurd rfl hne)
      exact hN _ _ _ _ _ _ _ _ _ _ _ _ _ _ _ _ _ _ _ _ _ _ _ _ _ _ _ _ _ _ _ _ _ _ _ _ _ _ _ _ _ _ _ _ _ hR2 _ _ hPC hPM hS ls hl
    by_cases hc16 : w = (16 : Int32)
    · refine lv_tableIn (tgt := 622) hx hb dL_law_32 (by rw [hc16]; decide) (by rw [hc16]; decide) (by rw [hc16]; rfl) (by decide) ?_
      obtain ⟨rv, zcBad, zmBad, zmOpn, hf1, hf2, hR2⟩ := op_serves  hR (xs (x3 + 1).toNatClampNeg)
      refine lv_aload_n hx hb dL_law_622 rfl (lv_at hl 1 rfl) ?_
      refine lv_aload_n hx hb dL_law_623 rfl (lv_at hl 0 rfl) ?_
      refine lv_iload_n hx hb dL_law_624 rfl (lv_at hl 3 rfl) ?_
      refine lv_iconst (v := 1) hx hb dL_law_625 (by decide) ?_
      refine lv_iadd hx hb dL_law_626 ?_
      refine va_sld hx hb hX hbl hbA hS hi1 dL_law_627 ?_
      refine lcV 0 7 (As := [.int (xs (x3 + 1).toNatClampNeg)]) (rest := []) ⟨hx, hb, hml, hown, hts⟩ (ctX8_serves l D cI cB cZ ad (AC ad 20) hAD cBad cFul cCnt cOpc cStp cTsz cRcn cPlc cFlt cVil cLsz cRts cLns cOpn cGps cTrl cWgt cRch cByt cWds cFst cSnd cSgn (xs (x3 + 1).toNatClampNeg) rv zcBad hf1) (cwV 1 hts gL_law_X8_serves rfl rfl rfl (by decide +kernel) ⟨(Nat.le_of_ble_eq_true rfl), (Nat.le_of_ble_eq_true rfl)⟩) hK hPC hS hA1 rfl rfl rfl hl.1 rfl (Nat.le_of_ble_eq_true rfl) dL_law_628 ⟨(Nat.le_of_ble_eq_true rfl), (Nat.le_of_ble_eq_true rfl)⟩ (fun H2 locs hPC hk hS => ?_)
      replace hPM := keepW hPM rfl hk hdC
      refine lv_aload_n hx hb dL_law_631 rfl (lv_at hl 2 rfl) ?_
      refine lv_aload_n hx hb dL_law_632 rfl (lv_at hl 0 rfl) ?_
      refine lv_iload_n hx hb dL_law_633 rfl (lv_at hl 3 rfl) ?_
      refine lv_iconst (v := 1) hx hb dL_law_634 (by decide) ?_
      refine lv_iadd hx hb dL_law_635 ?_
      refine va_sld hx hb hX hbl hbA hS hi1 dL_law_636 ?_
      refine lcV 0 8 (As := [.int (xs (x3 + 1).toNatClampNeg)]) (rest := [.int rv]) ⟨hx, hb, hml, hown, hts⟩ (ctX9_serves l D cI cB cZ bd (AC bd 9) hBD mVil mBad mFul mLen mSig mWay mLef mSpo mBeg mTok mVal mWor mNum mThe mRts mLns mOpn mTxt mAns mWys mSiz mNbs (xs (x3 + 1).toNatClampNeg) rv zmBad zmOpn hf2) (cwV 1 hts gL_law_X9_serves rfl rfl rfl (by decide +kernel) ⟨(Nat.le_of_ble_eq_true rfl), (Nat.le_of_ble_eq_true rfl)⟩) hK hPM hS hB1 rfl rfl rfl hl.1 rfl (Nat.le_of_ble_eq_true rfl) dL_law_637 ⟨(Nat.le_of_ble_eq_true rfl), (Nat.le_of_ble_eq_true rfl)⟩ (fun H2 locs hPM hk hS => ?_)
      replace hPC := keepW hPC rfl hk hdM
      refine lv_icmp_eq (tgt := 777) hx hb dL_law_640 (by decide) (fun _ => ?_) (fun hne => absurd rfl hne)
      exact hN _ _ _ _ _ _ _ _ _ _ _ _ _ _ _ _ _ _ _ _ _ _ _ _ _ _ _ _ _ _ _ _ _ _ _ _ _ _ _ _ _ _ _ _ _ hR2 _ _ hPC hPM hS ls hl
    by_cases hc17 : w = (17 : Int32)
    · refine lv_tableIn (tgt := 645) hx hb dL_law_32 (by rw [hc17]; decide) (by rw [hc17]; decide) (by rw [hc17]; rfl) (by decide) ?_
      obtain ⟨rv, zcBad, zmBad, hf1, hf2, hR2⟩ := op_pair  hR (xs (x3 + 1).toNatClampNeg)
      refine lv_aload_n hx hb dL_law_645 rfl (lv_at hl 1 rfl) ?_
      refine lv_aload_n hx hb dL_law_646 rfl (lv_at hl 0 rfl) ?_
      refine lv_iload_n hx hb dL_law_647 rfl (lv_at hl 3 rfl) ?_
      refine lv_iconst (v := 1) hx hb dL_law_648 (by decide) ?_
      refine lv_iadd hx hb dL_law_649 ?_
      refine va_sld hx hb hX hbl hbA hS hi1 dL_law_650 ?_
      refine lcV 0 7 (As := [.int (xs (x3 + 1).toNatClampNeg)]) (rest := []) ⟨hx, hb, hml, hown, hts⟩ (ctX8_pair l D cI cB cZ ad (AC ad 20) hAD cBad cFul cCnt cOpc cStp cTsz cRcn cPlc cFlt cVil cLsz cRts cLns cOpn cGps cTrl cWgt cRch cByt cWds cFst cSnd cSgn (xs (x3 + 1).toNatClampNeg) rv zcBad hf1) (cwV 1 hts gL_law_X8_pair rfl rfl rfl (by decide +kernel) ⟨(Nat.le_of_ble_eq_true rfl), (Nat.le_of_ble_eq_true rfl)⟩) hK hPC hS hA1 rfl rfl rfl hl.1 rfl (Nat.le_of_ble_eq_true rfl) dL_law_651 ⟨(Nat.le_of_ble_eq_true rfl), (Nat.le_of_ble_eq_true rfl)⟩ (fun H2 locs hPC hk hS => ?_)
      replace hPM := keepW hPM rfl hk hdC
      refine lv_aload_n hx hb dL_law_654 rfl (lv_at hl 2 rfl) ?_
      refine lv_aload_n hx hb dL_law_655 rfl (lv_at hl 0 rfl) ?_
      refine lv_iload_n hx hb dL_law_656 rfl (lv_at hl 3 rfl) ?_
      refine lv_iconst (v := 1) hx hb dL_law_657 (by decide) ?_
      refine lv_iadd hx hb dL_law_658 ?_
      refine va_sld hx hb hX hbl hbA hS hi1 dL_law_659 ?_
      refine lcV 0 8 (As := [.int (xs (x3 + 1).toNatClampNeg)]) (rest := [.int rv]) ⟨hx, hb, hml, hown, hts⟩ (ctX9_pair l D cI cB cZ bd (AC bd 9) hBD mVil mBad mFul mLen mSig mWay mLef mSpo mBeg mTok mVal mWor mNum mThe mRts mLns mOpn mTxt mAns mWys mSiz mNbs (xs (x3 + 1).toNatClampNeg) rv zmBad hf2) (cwV 1 hts gL_law_X9_pair rfl rfl rfl (by decide +kernel) ⟨(Nat.le_of_ble_eq_true rfl), (Nat.le_of_ble_eq_true rfl)⟩) hK hPM hS hB1 rfl rfl rfl hl.1 rfl (Nat.le_of_ble_eq_true rfl) dL_law_660 ⟨(Nat.le_of_ble_eq_true rfl), (Nat.le_of_ble_eq_true rfl)⟩ (fun H2 locs hPM hk hS => ?_)
      replace hPC := keepW hPC rfl hk hdM
      refine lv_icmp_eq (tgt := 777) hx hb dL_law_663 (by decide) (fun _ => ?_) (fun hne => absurd rfl hne)
      exact hN _ _ _ _ _ _ _ _ _ _ _ _ _ _ _ _ _ _ _ _ _ _ _ _ _ _ _ _ _ _ _ _ _ _ _ _ _ _ _ _ _ _ _ _ _ hR2 _ _ hPC hPM hS ls hl
    by_cases hc18 : w = (18 : Int32)
    · refine lv_tableIn (tgt := 668) hx hb dL_law_32 (by rw [hc18]; decide) (by rw [hc18]; decide) (by rw [hc18]; rfl) (by decide) ?_
      obtain ⟨rv, zcBad, zcFul, zcTsz, zcByt, zmBad, zmFul, zmLen, zmTxt, hf1, hf2, hR2⟩ := op_type  hR (xs (x3 + 1).toNatClampNeg)
      refine lv_aload_n hx hb dL_law_668 rfl (lv_at hl 1 rfl) ?_
      refine lv_aload_n hx hb dL_law_669 rfl (lv_at hl 0 rfl) ?_
      refine lv_iload_n hx hb dL_law_670 rfl (lv_at hl 3 rfl) ?_
      refine lv_iconst (v := 1) hx hb dL_law_671 (by decide) ?_
      refine lv_iadd hx hb dL_law_672 ?_
      refine va_sld hx hb hX hbl hbA hS hi1 dL_law_673 ?_
      refine lcV 0 7 (As := [.int (xs (x3 + 1).toNatClampNeg)]) (rest := []) ⟨hx, hb, hml, hown, hts⟩ (ctX8_type l D cI cB cZ ad (AC ad 20) hAD cBad cFul cCnt cOpc cStp cTsz cRcn cPlc cFlt cVil cLsz cRts cLns cOpn cGps cTrl cWgt cRch cByt cWds cFst cSnd cSgn (xs (x3 + 1).toNatClampNeg) rv zcBad zcFul zcTsz zcByt hf1) (cwV 1 hts gL_law_X8_type rfl rfl rfl (by decide +kernel) ⟨(Nat.le_of_ble_eq_true rfl), (Nat.le_of_ble_eq_true rfl)⟩) hK hPC hS hA1 rfl rfl rfl hl.1 rfl (Nat.le_of_ble_eq_true rfl) dL_law_674 ⟨(Nat.le_of_ble_eq_true rfl), (Nat.le_of_ble_eq_true rfl)⟩ (fun H2 locs hPC hk hS => ?_)
      replace hPM := keepW hPM rfl hk hdC
      refine lv_aload_n hx hb dL_law_677 rfl (lv_at hl 2 rfl) ?_
      refine lv_aload_n hx hb dL_law_678 rfl (lv_at hl 0 rfl) ?_
      refine lv_iload_n hx hb dL_law_679 rfl (lv_at hl 3 rfl) ?_
      refine lv_iconst (v := 1) hx hb dL_law_680 (by decide) ?_
      refine lv_iadd hx hb dL_law_681 ?_
      refine va_sld hx hb hX hbl hbA hS hi1 dL_law_682 ?_
      refine lcV 0 8 (As := [.int (xs (x3 + 1).toNatClampNeg)]) (rest := [.int rv]) ⟨hx, hb, hml, hown, hts⟩ (ctX9_type l D cI cB cZ bd (AC bd 9) hBD mVil mBad mFul mLen mSig mWay mLef mSpo mBeg mTok mVal mWor mNum mThe mRts mLns mOpn mTxt mAns mWys mSiz mNbs (xs (x3 + 1).toNatClampNeg) rv zmBad zmFul zmLen zmTxt hf2) (cwV 1 hts gL_law_X9_type rfl rfl rfl (by decide +kernel) ⟨(Nat.le_of_ble_eq_true rfl), (Nat.le_of_ble_eq_true rfl)⟩) hK hPM hS hB1 rfl rfl rfl hl.1 rfl (Nat.le_of_ble_eq_true rfl) dL_law_683 ⟨(Nat.le_of_ble_eq_true rfl), (Nat.le_of_ble_eq_true rfl)⟩ (fun H2 locs hPM hk hS => ?_)
      replace hPC := keepW hPC rfl hk hdM
      refine lv_icmp_eq (tgt := 777) hx hb dL_law_686 (by decide) (fun _ => ?_) (fun hne => absurd rfl hne)
      exact hN _ _ _ _ _ _ _ _ _ _ _ _ _ _ _ _ _ _ _ _ _ _ _ _ _ _ _ _ _ _ _ _ _ _ _ _ _ _ _ _ _ _ _ _ _ hR2 _ _ hPC hPM hS ls hl
    by_cases hc19 : w = (19 : Int32)
    · refine lv_tableIn (tgt := 691) hx hb dL_law_32 (by rw [hc19]; decide) (by rw [hc19]; decide) (by rw [hc19]; rfl) (by decide) ?_
      obtain ⟨rv, zcTsz, zmLen, hf1, hf2, hR2⟩ := op_clear  hR
      refine lv_aload_n hx hb dL_law_691 rfl (lv_at hl 1 rfl) ?_
      refine lcV 0 7 (As := []) (rest := []) ⟨hx, hb, hml, hown, hts⟩ (ctX8_clear l D cI cB cZ ad (AC ad 20) hAD cBad cFul cCnt cOpc cStp cTsz cRcn cPlc cFlt cVil cLsz cRts cLns cOpn cGps cTrl cWgt cRch cByt cWds cFst cSnd cSgn  rv zcTsz hf1) (cwV 0 hts gL_law_X8_clear rfl rfl rfl (by decide +kernel) ⟨(Nat.le_of_ble_eq_true rfl), (Nat.le_of_ble_eq_true rfl)⟩) hK hPC hS hA1 rfl rfl rfl hl.1 rfl (Nat.le_of_ble_eq_true rfl) dL_law_692 ⟨(Nat.le_of_ble_eq_true rfl), (Nat.le_of_ble_eq_true rfl)⟩ (fun H2 locs hPC hk hS => ?_)
      replace hPM := keepW hPM rfl hk hdC
      refine lv_aload_n hx hb dL_law_695 rfl (lv_at hl 2 rfl) ?_
      refine lcV 0 8 (As := []) (rest := [.int rv]) ⟨hx, hb, hml, hown, hts⟩ (ctX9_clear l D cI cB cZ bd (AC bd 9) hBD mVil mBad mFul mLen mSig mWay mLef mSpo mBeg mTok mVal mWor mNum mThe mRts mLns mOpn mTxt mAns mWys mSiz mNbs  rv zmLen hf2) (cwV 0 hts gL_law_X9_clear rfl rfl rfl (by decide +kernel) ⟨(Nat.le_of_ble_eq_true rfl), (Nat.le_of_ble_eq_true rfl)⟩) hK hPM hS hB1 rfl rfl rfl hl.1 rfl (Nat.le_of_ble_eq_true rfl) dL_law_696 ⟨(Nat.le_of_ble_eq_true rfl), (Nat.le_of_ble_eq_true rfl)⟩ (fun H2 locs hPM hk hS => ?_)
      replace hPC := keepW hPC rfl hk hdM
      refine lv_icmp_eq (tgt := 777) hx hb dL_law_699 (by decide) (fun _ => ?_) (fun hne => absurd rfl hne)
      exact hN _ _ _ _ _ _ _ _ _ _ _ _ _ _ _ _ _ _ _ _ _ _ _ _ _ _ _ _ _ _ _ _ _ _ _ _ _ _ _ _ _ _ _ _ _ hR2 _ _ hPC hPM hS ls hl
    by_cases hc20 : w = (20 : Int32)
    · refine lv_tableIn (tgt := 704) hx hb dL_law_32 (by rw [hc20]; decide) (by rw [hc20]; decide) (by rw [hc20]; rfl) (by decide) ?_
      obtain ⟨rv, zcCnt, zcOpc, zcStp, zcRcn, zcPlc, zcFlt, zcVil, zcLsz, zcRts, zcLns, zcOpn, zcGps, zcTrl, zcWds, zcFst, zcSnd, zcSgn, zmVil, zmSig, zmWay, zmSpo, zmBeg, zmTok, zmVal, zmWor, zmThe, zmRts, zmLns, zmOpn, zmAns, zmWys, zmNbs, hf1, hf2, hR2⟩ := op_says (cStp := cStp) (cRcn := cRcn) (cPlc := cPlc) (cFlt := cFlt) (cVil := cVil) (cTrl := cTrl) (cWds := cWds) (cFst := cFst) (cSnd := cSnd) (mWay := mWay) (mSpo := mSpo) (mBeg := mBeg) (mTok := mTok) (mVal := mVal) (mWor := mWor) (mThe := mThe) (mWys := mWys) (mNbs := mNbs) hR
      refine lv_aload_n hx hb dL_law_704 rfl (lv_at hl 1 rfl) ?_
      refine lcF 0 7 (As := []) (rest := []) ⟨hx, hb, hml, hown, hts⟩ (ctX8_says l D cI cB cZ ad zF zS adK adV (AC ad 20) hAD cBad cFul cCnt cOpc cStp cTsz cRcn cPlc cFlt cVil cLsz cRts cLns cOpn cGps cTrl cWgt cRch cByt cWds cFst cSnd cSgn  rv zcCnt zcOpc zcStp zcRcn zcPlc zcFlt zcVil zcLsz zcRts zcLns zcOpn zcGps zcTrl zcWds zcFst zcSnd zcSgn hf1) (cwV 0 hts gL_law_X8_says rfl rfl rfl (by decide +kernel) ⟨(Nat.le_of_ble_eq_true rfl), (Nat.le_of_ble_eq_true rfl)⟩) hK hPC hF hS hA1 rfl rfl rfl hl.1 rfl (Nat.le_of_ble_eq_true rfl) dL_law_705 ⟨(Nat.le_of_ble_eq_true rfl), (Nat.le_of_ble_eq_true rfl)⟩ (fun H2 locs hPC hk hS => ?_)
      replace hPM := keepW hPM rfl hk hdC
      refine lv_aload_n hx hb dL_law_708 rfl (lv_at hl 2 rfl) ?_
      refine lcV 0 8 (As := []) (rest := [.int rv]) ⟨hx, hb, hml, hown, hts⟩ (ctX9_says l D cI cB cZ bd (AC bd 9) hBD mVil mBad mFul mLen mSig mWay mLef mSpo mBeg mTok mVal mWor mNum mThe mRts mLns mOpn mTxt mAns mWys mSiz mNbs  rv zmVil zmSig zmWay zmSpo zmBeg zmTok zmVal zmWor zmThe zmRts zmLns zmOpn zmAns zmWys zmNbs hf2) (cwV 0 hts gL_law_X9_says rfl rfl rfl (by decide +kernel) ⟨(Nat.le_of_ble_eq_true rfl), (Nat.le_of_ble_eq_true rfl)⟩) hK hPM hS hB1 rfl rfl rfl hl.1 rfl (Nat.le_of_ble_eq_true rfl) dL_law_709 ⟨(Nat.le_of_ble_eq_true rfl), (Nat.le_of_ble_eq_true rfl)⟩ (fun H2 locs hPM hk hS => ?_)
      replace hPC := keepW hPC rfl hk hdM
      refine lv_icmp_eq (tgt := 777) hx hb dL_law_712 (by decide) (fun _ => ?_) (fun hne => absurd rfl hne)
      exact hN _ _ _ _ _ _ _ _ _ _ _ _ _ _ _ _ _ _ _ _ _ _ _ _ _ _ _ _ _ _ _ _ _ _ _ _ _ _ _ _ _ _ _ _ _ hR2 _ _ hPC hPM hS ls hl
    by_cases hc21 : w = (21 : Int32)
    · refine lv_tableIn (tgt := 717) hx hb dL_law_32 (by rw [hc21]; decide) (by rw [hc21]; decide) (by rw [hc21]; rfl) (by decide) ?_
      obtain ⟨rv, zcBad, zmBad, hf1, hf2, hR2⟩ := op_answer  hR (xs (x3 + 1).toNatClampNeg)
      refine lv_aload_n hx hb dL_law_717 rfl (lv_at hl 1 rfl) ?_
      refine lv_aload_n hx hb dL_law_718 rfl (lv_at hl 0 rfl) ?_
      refine lv_iload_n hx hb dL_law_719 rfl (lv_at hl 3 rfl) ?_
      refine lv_iconst (v := 1) hx hb dL_law_720 (by decide) ?_
      refine lv_iadd hx hb dL_law_721 ?_
      refine va_sld hx hb hX hbl hbA hS hi1 dL_law_722 ?_
      refine lcV 0 7 (As := [.int (xs (x3 + 1).toNatClampNeg)]) (rest := []) ⟨hx, hb, hml, hown, hts⟩ (ctX8_answer l D cI cB cZ ad (AC ad 20) hAD cBad cFul cCnt cOpc cStp cTsz cRcn cPlc cFlt cVil cLsz cRts cLns cOpn cGps cTrl cWgt cRch cByt cWds cFst cSnd cSgn (xs (x3 + 1).toNatClampNeg) rv zcBad hf1) (cwV 1 hts gL_law_X8_answer rfl rfl rfl (by decide +kernel) ⟨(Nat.le_of_ble_eq_true rfl), (Nat.le_of_ble_eq_true rfl)⟩) hK hPC hS hA1 rfl rfl rfl hl.1 rfl (Nat.le_of_ble_eq_true rfl) dL_law_723 ⟨(Nat.le_of_ble_eq_true rfl), (Nat.le_of_ble_eq_true rfl)⟩ (fun H2 locs hPC hk hS => ?_)
      replace hPM := keepW hPM rfl hk hdC
      refine lv_aload_n hx hb dL_law_726 rfl (lv_at hl 2 rfl) ?_
      refine lv_aload_n hx hb dL_law_727 rfl (lv_at hl 0 rfl) ?_
      refine lv_iload_n hx hb dL_law_728 rfl (lv_at hl 3 rfl) ?_
      refine lv_iconst (v := 1) hx hb dL_law_729 (by decide) ?_
      refine lv_iadd hx hb dL_law_730 ?_
      refine va_sld hx hb hX hbl hbA hS hi1 dL_law_731 ?_
      refine lcV 0 8 (As := [.int (xs (x3 + 1).toNatClampNeg)]) (rest := [.int rv]) ⟨hx, hb, hml, hown, hts⟩ (ctX9_answer l D cI cB cZ bd (AC bd 9) hBD mVil mBad mFul mLen mSig mWay mLef mSpo mBeg mTok mVal mWor mNum mThe mRts mLns mOpn mTxt mAns mWys mSiz mNbs (xs (x3 + 1).toNatClampNeg) rv zmBad hf2) (cwV 1 hts gL_law_X9_answer rfl rfl rfl (by decide +kernel) ⟨(Nat.le_of_ble_eq_true rfl), (Nat.le_of_ble_eq_true rfl)⟩) hK hPM hS hB1 rfl rfl rfl hl.1 rfl (Nat.le_of_ble_eq_true rfl) dL_law_732 ⟨(Nat.le_of_ble_eq_true rfl), (Nat.le_of_ble_eq_true rfl)⟩ (fun H2 locs hPM hk hS => ?_)
      replace hPC := keepW hPC rfl hk hdM
      refine lv_icmp_eq (tgt := 777) hx hb dL_law_735 (by decide) (fun _ => ?_) (fun hne => absurd rfl hne)
      exact hN _ _ _ _ _ _ _ _ _ _ _ _ _ _ _ _ _ _ _ _ _ _ _ _ _ _ _ _ _ _ _ _ _ _ _ _ _ _ _ _ _ _ _ _ _ hR2 _ _ hPC hPM hS ls hl
    by_cases hc22 : w = (22 : Int32)
    · refine lv_tableIn (tgt := 740) hx hb dL_law_32 (by rw [hc22]; decide) (by rw [hc22]; decide) (by rw [hc22]; rfl) (by decide) ?_
      obtain ⟨rv, zcBad, zmBad, hf1, hf2, hR2⟩ := op_told  hR (xs (x3 + 1).toNatClampNeg)
      refine lv_aload_n hx hb dL_law_740 rfl (lv_at hl 1 rfl) ?_
      refine lv_aload_n hx hb dL_law_741 rfl (lv_at hl 0 rfl) ?_
      refine lv_iload_n hx hb dL_law_742 rfl (lv_at hl 3 rfl) ?_
      refine lv_iconst (v := 1) hx hb dL_law_743 (by decide) ?_
      refine lv_iadd hx hb dL_law_744 ?_
      refine va_sld hx hb hX hbl hbA hS hi1 dL_law_745 ?_
      refine lcV 0 7 (As := [.int (xs (x3 + 1).toNatClampNeg)]) (rest := []) ⟨hx, hb, hml, hown, hts⟩ (ctX8_told l D cI cB cZ ad (AC ad 20) hAD cBad cFul cCnt cOpc cStp cTsz cRcn cPlc cFlt cVil cLsz cRts cLns cOpn cGps cTrl cWgt cRch cByt cWds cFst cSnd cSgn (xs (x3 + 1).toNatClampNeg) rv zcBad hf1) (cwV 1 hts gL_law_X8_told rfl rfl rfl (by decide +kernel) ⟨(Nat.le_of_ble_eq_true rfl), (Nat.le_of_ble_eq_true rfl)⟩) hK hPC hS hA1 rfl rfl rfl hl.1 rfl (Nat.le_of_ble_eq_true rfl) dL_law_746 ⟨(Nat.le_of_ble_eq_true rfl), (Nat.le_of_ble_eq_true rfl)⟩ (fun H2 locs hPC hk hS => ?_)
      replace hPM := keepW hPM rfl hk hdC
      refine lv_aload_n hx hb dL_law_749 rfl (lv_at hl 2 rfl) ?_
      refine lv_aload_n hx hb dL_law_750 rfl (lv_at hl 0 rfl) ?_
      refine lv_iload_n hx hb dL_law_751 rfl (lv_at hl 3 rfl) ?_
      refine lv_iconst (v := 1) hx hb dL_law_752 (by decide) ?_
      refine lv_iadd hx hb dL_law_753 ?_
      refine va_sld hx hb hX hbl hbA hS hi1 dL_law_754 ?_
      refine lcV 0 8 (As := [.int (xs (x3 + 1).toNatClampNeg)]) (rest := [.int rv]) ⟨hx, hb, hml, hown, hts⟩ (ctX9_told l D cI cB cZ bd (AC bd 9) hBD mVil mBad mFul mLen mSig mWay mLef mSpo mBeg mTok mVal mWor mNum mThe mRts mLns mOpn mTxt mAns mWys mSiz mNbs (xs (x3 + 1).toNatClampNeg) rv zmBad hf2) (cwV 1 hts gL_law_X9_told rfl rfl rfl (by decide +kernel) ⟨(Nat.le_of_ble_eq_true rfl), (Nat.le_of_ble_eq_true rfl)⟩) hK hPM hS hB1 rfl rfl rfl hl.1 rfl (Nat.le_of_ble_eq_true rfl) dL_law_755 ⟨(Nat.le_of_ble_eq_true rfl), (Nat.le_of_ble_eq_true rfl)⟩ (fun H2 locs hPM hk hS => ?_)
      replace hPC := keepW hPC rfl hk hdM
      refine lv_icmp_eq (tgt := 777) hx hb dL_law_758 (by decide) (fun _ => ?_) (fun hne => absurd rfl hne)
      exact hN _ _ _ _ _ _ _ _ _ _ _ _ _ _ _ _ _ _ _ _ _ _ _ _ _ _ _ _ _ _ _ _ _ _ _ _ _ _ _ _ _ _ _ _ _ hR2 _ _ hPC hPM hS ls hl
    by_cases hc23 : w = (23 : Int32)
    · refine lv_tableIn (tgt := 763) hx hb dL_law_32 (by rw [hc23]; decide) (by rw [hc23]; decide) (by rw [hc23]; rfl) (by decide) ?_
      obtain ⟨rv, hf1, hf2, hR2⟩ := op_digest  hR
      refine lv_aload_n hx hb dL_law_763 rfl (lv_at hl 1 rfl) ?_
      refine rcVl 0 7 (As := []) (rest := []) ⟨hx, hb, hml, hown, hts⟩ (ctX8_digest l D cI cB cZ ad cBad cFul cCnt cOpc cStp cTsz cRcn cPlc cFlt cVil cLsz cRts cLns cOpn cGps cTrl cWgt cRch cByt cWds cFst cSnd cSgn  rv hf1) (cwV 0 hts gL_law_X8_digest rfl rfl rfl (by decide +kernel) ⟨(Nat.le_of_ble_eq_true rfl), (Nat.le_of_ble_eq_true rfl)⟩) hK hPC rfl rfl rfl hl.1 rfl (Nat.le_of_ble_eq_true rfl) dL_law_764 ⟨(Nat.le_of_ble_eq_true rfl), (Nat.le_of_ble_eq_true rfl)⟩ ?_
      refine lv_aload_n hx hb dL_law_767 rfl (lv_at hl 2 rfl) ?_
      refine rcVl 0 8 (As := []) (rest := [.long rv]) ⟨hx, hb, hml, hown, hts⟩ (ctX9_digest l D cI cB cZ bd mVil mBad mFul mLen mSig mWay mLef mSpo mBeg mTok mVal mWor mNum mThe mRts mLns mOpn mTxt mAns mWys mSiz mNbs  rv hf2) (cwV 0 hts gL_law_X9_digest rfl rfl rfl (by decide +kernel) ⟨(Nat.le_of_ble_eq_true rfl), (Nat.le_of_ble_eq_true rfl)⟩) hK hPM rfl rfl rfl hl.1 rfl (Nat.le_of_ble_eq_true rfl) dL_law_768 ⟨(Nat.le_of_ble_eq_true rfl), (Nat.le_of_ble_eq_true rfl)⟩ ?_
      refine W.lcmp hx hb dL_law_771 ?_
      refine lv_if_eq (tgt := 777) hx hb dL_law_772 (by decide) (fun _ => ?_) (fun hne => absurd (lg_cmp_self rv) hne)
      exact hN _ _ _ _ _ _ _ _ _ _ _ _ _ _ _ _ _ _ _ _ _ _ _ _ _ _ _ _ _ _ _ _ _ _ _ _ _ _ _ _ _ _ _ _ _ hR2 _ _ hPC hPM hS ls hl
    refine lv_tableOut (tgt := 777) hx hb dL_law_32 (by have e0 := ne_ti (z := 0) hc0 (by decide); have e1 := ne_ti (z := 1) hc1 (by decide); have e2 := ne_ti (z := 2) hc2 (by decide); have e3 := ne_ti (z := 3) hc3 (by decide); have e4 := ne_ti (z := 4) hc4 (by decide); have e5 := ne_ti (z := 5) hc5 (by decide); have e6 := ne_ti (z := 6) hc6 (by decide); have e7 := ne_ti (z := 7) hc7 (by decide); have e8 := ne_ti (z := 8) hc8 (by decide); have e9 := ne_ti (z := 9) hc9 (by decide); have e10 := ne_ti (z := 10) hc10 (by decide); have e11 := ne_ti (z := 11) hc11 (by decide); have e12 := ne_ti (z := 12) hc12 (by decide); have e13 := ne_ti (z := 13) hc13 (by decide); have e14 := ne_ti (z := 14) hc14 (by decide); have e15 := ne_ti (z := 15) hc15 (by decide); have e16 := ne_ti (z := 16) hc16 (by decide); have e17 := ne_ti (z := 17) hc17 (by decide); have e18 := ne_ti (z := 18) hc18 (by decide); have e19 := ne_ti (z := 19) hc19 (by decide); have e20 := ne_ti (z := 20) hc20 (by decide); have e21 := ne_ti (z := 21) hc21 (by decide); have e22 := ne_ti (z := 22) hc22 (by decide); have e23 := ne_ti (z := 23) hc23 (by decide); omega) (by decide) ?_
    exact hN cBad cFul cCnt cOpc cStp cTsz cRcn cPlc cFlt cVil cLsz cRts cLns cOpn cGps cTrl cWgt cRch cByt cWds cFst cSnd cSgn mVil mBad mFul mLen mSig mWay mLef mSpo mBeg mTok mVal mWor mNum mThe mRts mLns mOpn mTxt mAns mWys mSiz mNbs hR H locs hPC hPM hS ls hl
