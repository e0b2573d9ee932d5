def cntO (o : Nat → Int32) : Nat → Nat
  | 0 => 0
  | n + 1 => cntO o n + (if o n = 0 then 0 else 1)
/-- how far, over roots and lengths, with fuel -/
def dst (rt ln : Nat → Nat) : Nat → Nat → Nat → Nat
  | 0, _, _ => 0
  | f + 1, a, b => if a = b then 0 else if b < a then ln a + dst rt ln f (rt a) b else ln b + dst rt ln f a (rt b)
def dist (rt ln : Nat → Nat) (a b : Nat) : Nat := dst rt ln (a + b) a b
/-- the villages, as the class and the reference hold them -/
def LandR (n : Nat) (rt ln : Nat → Nat) (cCnt cOpc : Int32) (cRts cLns cOpn cGps : Nat → Int32) (mVil : Int32) (mRts mLns mOpn : Nat → Int32) : Prop :=
  1 ≤ n ∧ n ≤ 60 ∧ cCnt = nI n ∧ mVil = nI n ∧ (∀ v, 1 ≤ v → v < n → rt v < v ∧ cRts v = nI (rt v) ∧ mRts v = nI (rt v) ∧ 1 ≤ ln v ∧ ln v ≤ 99 ∧ cLns v = nI (ln v) ∧ mLns v = nI (ln v)) ∧
  cRts 0 = -1 ∧ mRts 0 = -1 ∧ cLns 0 = 0 ∧ (∀ v, v < n → (cOpn v = 0 ∨ cOpn v = 1) ∧ mOpn v = cOpn v) ∧ cOpc = nI (cntO cOpn n) ∧
  (∀ u v, u < n → v < n → cGps (u * 60 + v) = nI (dist rt ln u v)) ∧ ∀ v, v < 60 → cGps (v * 60 + v) = 0
/-- the text -/
def TextR (t : Nat) (cTsz : Int32) (cByt : Nat → Int32) (mLen : Int32) (mTxt : Nat → Int32) : Prop :=
  t ≤ 120 ∧ cTsz = nI t ∧ mLen = nI t ∧ ∀ i, i < t → ∃ x : Nat, x < 128 ∧ cByt i = nI x ∧ mTxt i = nI x
/-- the answer -/
def LineR (k : Nat) (cLsz : Int32) (cSgn : Nat → Int32) (mSig : Int32) (mAns : Nat → Int32) : Prop :=
  k ≤ 400 ∧ cLsz = nI k ∧ mSig = nI k ∧ ∀ i, i < k → ∃ x : Nat, x < 128 ∧ cSgn i = nI x ∧ mAns i = nI x
def Rel (cBad cFul cCnt cOpc cTsz cLsz : Int32) (cRts cLns cOpn cGps cByt cSgn : Nat → Int32) (mVil mBad mFul mLen mSig : Int32) (mRts mLns mOpn mTxt mAns : Nat → Int32) : Prop :=
  mBad = cBad ∧ mFul = cFul ∧ (∃ (n : Nat) (rt ln : Nat → Nat), LandR n rt ln cCnt cOpc cRts cLns cOpn cGps mVil mRts mLns mOpn) ∧ (∃ t : Nat, TextR t cTsz cByt mLen mTxt) ∧ ∃ k : Nat, LineR k cLsz cSgn mSig mAns
