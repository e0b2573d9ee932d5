/-! Tools: loops with a counter, numbers, guards. -/
def itr {S : Type} (g : Nat → S → S) : Nat → Nat → S → S
  | _, 0, s => s
  | i, k + 1, s => itr g (i + 1) k (g i s)
def itd {S : Type} (g : Nat → S → S) : Nat → S → S
  | 0, s => s
  | k + 1, s => itd g k (g k s)
theorem FU_lt {n : Nat} (h : n ≤ 900) : n < FU := by unfold FU; omega
/-- a loop that counts up to n -/
theorem lp_for {V Z S : Type} {F : (V → Option Z) → V → Option Z} (mk : Nat → S → V) (g : Nat → S → S) (Inv : Nat → S → Prop) (n : Nat) (E : S → Option Z) (hx : ∀ k s, Inv n s → F k (mk n s) = E s) (hs : ∀ k i s, i < n → Inv i s → F k (mk i s) = k (mk (i + 1) (g i s)) ∧ Inv (i + 1) (g i s)) :
    ∀ (m f i : Nat) (s : S), i + m = n → m < f → Inv i s → lp F f (mk i s) = E (itr g i m s) ∧ Inv n (itr g i m s) := by
  intro m
  induction m with
  | zero =>
    intro f i s hi hf h
    obtain rfl : i = n := by omega
    cases f with
    | zero => omega
    | succ f => exact ⟨hx _ s h, h⟩
  | succ m ih =>
    intro f i s hi hf h
    cases f with
    | zero => omega
    | succ f =>
      obtain ⟨h1, h2⟩ := hs (lp F f) i s (by omega) h
      obtain ⟨h3, h4⟩ := ih f (i + 1) (g i s) (by omega) (by omega) h2
      exact ⟨by show F (lp F f) (mk i s) = _; rw [h1, h3]; rfl, h4⟩
/-- a loop that counts down -/
theorem lp_down {V Z S : Type} {F : (V → Option Z) → V → Option Z} (mk : Nat → S → V) (g : Nat → S → S) (Inv : Nat → S → Prop) (n : Nat) (E : S → Option Z) (hx : ∀ k s, Inv 0 s → F k (mk 0 s) = E s) (hs : ∀ k i s, i < n → Inv (i + 1) s → F k (mk (i + 1) s) = k (mk i (g i s)) ∧ Inv i (g i s)) :
    ∀ (m f : Nat) (s : S), m ≤ n → m < f → Inv m s → lp F f (mk m s) = E (itd g m s) ∧ Inv 0 (itd g m s) := by
  intro m
  induction m with
  | zero =>
    intro f s hi hf h
    cases f with
    | zero => omega
    | succ f => exact ⟨hx _ s h, h⟩
  | succ m ih =>
    intro f s hi hf h
    cases f with
    | zero => omega
    | succ f =>
      obtain ⟨h1, h2⟩ := hs (lp F f) m s (by omega) h
      obtain ⟨h3, h4⟩ := ih f (g m s) (by omega) (by omega) h2
      exact ⟨by show F (lp F f) (mk (m + 1) s) = _; rw [h1, h3]; rfl, h4⟩
theorem gI_n {i n : Nat} (h : i < n) (hn : n < 2 ^ 31) : gI (nI i) n = true := by
  unfold gI
  rw [nI_clamp (by omega)]
  simp [h, nI_pos (show i < 2 ^ 31 by omega)]
theorem nI_lit (n : Nat) : (OfNat.ofNat n : Int32) = nI n := rfl
theorem upd_s {f : Nat → Int32} {k : Nat} {x : Int32} : upd f k x k = x := by simp [upd]
theorem upd_n {f : Nat → Int32} {k j : Nat} {x : Int32} (h : j ≠ k) : upd f k x j = f j := by simp [upd, h]
theorem nar_b0 : vp_nar .boolean (0 : Int32) = 0 := by decide
theorem nar_b1 : vp_nar .boolean (1 : Int32) = 1 := by decide
theorem nI_ofInt {p : Int32} {k : Int} (h : 0 ≤ p.toInt) (hk : p.toInt = k) : p = nI k.toNat := by
  subst hk
  have h2 : p.toInt < 2147483648 := Int32.toInt_lt p
  exact Int32.toInt_inj.mp (by rw [nI_toInt (by omega)]; omega)
theorem exN {p : Int32} {k : Nat} (h : 0 ≤ p.toInt) (hk : p.toInt < k) : ∃ v : Nat, v < k ∧ p = nI v := ⟨p.toInt.toNat, by omega, nI_ofInt h rfl⟩
theorem lt_i {a b : Int32} : a < b ↔ a.toInt < b.toInt := Int32.lt_iff_toInt_lt
theorem le_i {a b : Int32} : a ≤ b ↔ a.toInt ≤ b.toInt := Int32.le_iff_toInt_le
theorem lt_l {a b : Int64} : a < b ↔ a.toInt < b.toInt := Int64.lt_iff_toInt_lt
theorem le_l {a b : Int64} : a ≤ b ↔ a.toInt ≤ b.toInt := Int64.le_iff_toInt_le
theorem w_i (p : Int32) : p.toInt64.toInt = p.toInt := Int32.toInt_toInt64 p
/-- the tests of a call's numbers -/
theorem upto_e (p k : Int32) : fX8_isUpTo p k = some (if 0 ≤ p.toInt ∧ p.toInt ≤ k.toInt then 1 else 0) := by
  unfold fX8_isUpTo
  by_cases h1 : p < 0
  · rw [if_pos h1]
    rw [lt_i] at h1
    rw [if_neg (by simp at h1; omega)]
  · rw [if_neg h1]
    rw [lt_i] at h1
    by_cases h2 : k < p
    · rw [if_pos h2]
      rw [lt_i] at h2
      rw [if_neg (by omega)]
    · rw [if_neg h2]
      rw [lt_i] at h2
      rw [if_pos (by simp at h1; omega)]
theorem len_e (p : Int32) : fX8_isLength p = some (if 1 ≤ p.toInt ∧ p.toInt ≤ 99 then 1 else 0) := by
  unfold fX8_isLength
  have e1 : (1 : Int32).toInt = 1 := by decide
  have e2 : (99 : Int32).toInt = 99 := by decide
  by_cases h1 : p < 1
  · rw [if_pos h1]
    rw [lt_i, e1] at h1
    rw [if_neg (by omega)]
  · rw [if_neg h1]
    rw [lt_i, e1] at h1
    by_cases h2 : 99 < p
    · rw [if_pos h2]
      rw [lt_i, e2] at h2
      rw [if_neg (by omega)]
    · rw [if_neg h2]
      rw [lt_i, e2] at h2
      rw [if_pos (by omega)]
theorem has_e (c p : Int32) : fX1_has c p = some (if 0 ≤ p.toInt ∧ p.toInt < c.toInt then 1 else 0) := by
  unfold fX1_has
  by_cases h1 : p < 0
  · rw [if_pos h1]
    rw [lt_i] at h1
    rw [if_neg (by simp at h1; omega)]
  · rw [if_neg h1]
    rw [lt_i] at h1
    by_cases h2 : c ≤ p
    · rw [if_pos h2]
      rw [le_i] at h2
      rw [if_neg (by omega)]
    · rw [if_neg h2]
      rw [le_i] at h2
      rw [if_pos (by simp at h1; omega)]
theorem in_e (p a b : Int64) : fX9_in p a b = some (if a.toInt ≤ p.toInt ∧ p.toInt ≤ b.toInt then 1 else 0) := by
  unfold fX9_in
  by_cases h1 : lg_cmp p a < 0
  · rw [if_pos h1]
    rw [lg_cmp_lt, lt_l] at h1
    rw [if_neg (by omega)]
  · rw [if_neg h1]
    rw [lg_cmp_lt, lt_l] at h1
    by_cases h2 : 0 < lg_cmp p b
    · rw [if_pos h2]
      rw [lg_cmp_gt, lt_l] at h2
      rw [if_neg (by omega)]
    · rw [if_neg h2]
      rw [lg_cmp_gt, lt_l] at h2
      rw [if_pos (by omega)]
theorem in_l (p : Int32) (a b : Int64) {za zb : Int} (ha : a.toInt = za) (hb : b.toInt = zb) : fX9_in p.toInt64 a b = some (if za ≤ p.toInt ∧ p.toInt ≤ zb then 1 else 0) := by
  rw [in_e, w_i, ha, hb]
theorem isV_e {n : Nat} (h1 : 1 ≤ n) (hn : n ≤ 60) (p : Int32) : fX9_isVillage (nI n) p = some (if 0 ≤ p.toInt ∧ p.toInt < n then 1 else 0) := by
  unfold fX9_isVillage
  have e : (nI n - 1).toInt64.toInt = (n : Int) - 1 := by
    rw [w_i]
    exact pk_sub_toInt (a := n) (b := 1) (by omega) (by decide)
  rw [in_l p 0 _ (za := 0) (by decide) e]
  show some _ = some _
  by_cases h : 0 ≤ p.toInt ∧ p.toInt < (n : Int)
  · rw [if_pos h, if_pos (by omega)]
  · rw [if_neg h, if_neg (by omega)]
theorem has_n {n : Nat} (hn : n ≤ 60) (p : Int32) : fX1_has (nI n) p = some (if 0 ≤ p.toInt ∧ p.toInt < n then 1 else 0) := by
  rw [has_e, nI_toInt (by omega)]
theorem has_v {n v : Nat} (hn : n ≤ 60) (hv : v < n) : fX1_has (nI n) (nI v) = some 1 := by
  rw [has_n hn, nI_toInt (by omega), if_pos (by omega)]
theorem bd_s {α β : Type} (a : α) (f : α → Option β) : (some a).bind f = f a := rfl
theorem i1_0 : ¬ (1 : Int32) = 0 := by decide
/-- an index of the table -/
theorem ix60 {u v : Nat} : nI u * 60 + nI v = nI (u * 60 + v) := by
  rw [show (60 : Int32) = nI 60 from rfl, pk_mul, nI_add]
theorem gap_e {g : Nat → Int32} {u v : Nat} (hu : u < 60) (hv : v < 60) : fX1_gap g (nI u) (nI v) = some (g (u * 60 + v)) := by
  unfold fX1_gap
  rw [ix60, if_neg (show ¬ nI (u * 60 + v) < 0 from nI_nlt (b := 0) (Nat.zero_le _) (by omega)), if_neg (show ¬ (3600 : Int32) ≤ nI (u * 60 + v) from nI_ge (b := 3600) (by omega) (by decide)), gI_n (by omega) (by decide), nI_clamp (by omega)]
  rfl
theorem nar_byte' : ∀ x, x < 128 → vp_nar .byte ((nI x).toInt8.toInt32) = nI x := by decide +kernel
theorem nar_byte {x : Nat} (h : x < 128) : vp_nar .byte ((nI x).toInt8.toInt32) = nI x := nar_byte' x h
theorem pr2 {α β : Type} {a a' : α} {b b' : β} (h1 : a = a') (h2 : b = b') : (a, b) = (a', b') := by rw [h1, h2]
theorem pr3 {α β γ : Type} {a a' : α} {b b' : β} {c c' : γ} (h1 : a = a') (h2 : b = b') (h3 : c = c') : (a, b, c) = (a', b', c') := by rw [h1, h2, h3]
/-- sums -/
def smf (h : Nat → Nat) : Nat → Nat → Nat
  | _, 0 => 0
  | i, k + 1 => h i + smf h (i + 1) k
theorem smf_snoc (h : Nat → Nat) : ∀ k i, smf h i (k + 1) = smf h i k + h (i + k) := by
  intro k
  induction k with
  | zero => intro i; simp [smf]
  | succ k ih =>
    intro i
    rw [smf, ih (i + 1), smf, show i + 1 + k = i + (k + 1) by omega]
    omega
theorem itr_add (h : Nat → Nat) : ∀ k i s, itr (fun i s => s + h i) i k s = s + smf h i k := by
  intro k
  induction k with
  | zero => intro i s; rfl
  | succ k ih =>
    intro i s
    rw [itr, ih, smf]
    omega
theorem smf_le (h : Nat → Nat) (c : Nat) (hc : ∀ i, h i ≤ c) : ∀ k i, smf h i k ≤ c * k := by
  intro k
  induction k with
  | zero => intro i; simp [smf]
  | succ k ih =>
    intro i
    rw [smf]
    have := ih (i + 1)
    have := hc i
    rw [Nat.mul_succ]
    omega
theorem cntO_sm (o : Nat → Int32) : ∀ n, cntO o n = smf (fun i => if o i = 0 then 0 else 1) 0 n := by
  intro n
  induction n with
  | zero => rfl
  | succ n ih => rw [smf_snoc, cntO, ih, Nat.zero_add]
theorem cntO_le (o : Nat → Int32) : ∀ n, cntO o n ≤ n := by
  intro n
  induction n with
  | zero => exact Nat.le_refl _
  | succ n ih =>
    rw [cntO]
    split <;> omega
theorem cntO_cg {o o' : Nat → Int32} : ∀ n, (∀ v, v < n → o' v = o v) → cntO o' n = cntO o n := by
  intro n
  induction n with
  | zero => intro _; rfl
  | succ n ih =>
    intro h
    rw [cntO, cntO, h n (by omega), ih (fun v hv => h v (by omega))]
theorem openM_e {n : Nat} (hn : n ≤ 60) (o : Nat → Int32) : fX9_openMany (nI n) o = some (nI (cntO o n)) := by
  have h := lp_for (F := fX9_openMany_L4 (nI n) o) (fun i s => (nI s, nI i)) (fun i s => s + (if o i = 0 then 0 else 1)) (fun i s => s ≤ i) n (fun s => some (nI s, nI n)) (fun k s hs => by
      dsimp only [fX9_openMany_L4]
      rw [if_pos (Int32.le_refl _)]) (fun k i s hi hs => by
      refine ⟨?_, by split <;> omega⟩
      dsimp only [fX9_openMany_L4, fX9_openMany_J27]
      rw [if_neg (nI_ge hi (by omega)), if_pos (gI_n (by omega) (by decide)), nI_clamp (by omega)]
      by_cases e : o i = 0
      · rw [if_pos e, if_pos e]
        exact congrArg k (pr2 (nI_add s 0) (nI_1 i))
      · rw [if_neg e, if_neg e]
        exact congrArg k (pr2 (nI_add s 1) (nI_1 i))) n FU 0 0 (by omega) (FU_lt (by omega)) (Nat.le_refl _)
  unfold fX9_openMany
  rw [show ((0 : Int32), (0 : Int32)) = (nI 0, nI 0) from rfl, h.1, itr_add, Nat.zero_add, cntO_sm]
  rfl
