/-! Before, ranked, served. -/
def srch (P : Nat → Bool) : Nat → Nat → Option Nat
  | _, 0 => none
  | i, k + 1 => if P i = true then some i else srch P (i + 1) k
theorem srch_lt (P : Nat → Bool) : ∀ k i j, srch P i k = some j → j < i + k ∧ P j = true := by
  intro k
  induction k with
  | zero => intro i j h; cases h
  | succ k ih =>
    intro i j h
    unfold srch at h
    by_cases e : P i = true
    · rw [if_pos e] at h
      cases h
      exact ⟨by omega, e⟩
    · rw [if_neg e] at h
      obtain ⟨h1, h2⟩ := ih (i + 1) j h
      exact ⟨by omega, h2⟩
theorem lp_find {Z : Type} {F : (Int32 → Option Z) → Int32 → Option Z} (P : Nat → Bool) (n : Nat) (E : Option Nat → Option Z) (hx : ∀ k, F k (nI n) = E none) (hs : ∀ k i, i < n → P i = true → F k (nI i) = E (some i)) (hn : ∀ k i, i < n → ¬ P i = true → F k (nI i) = k (nI (i + 1))) : ∀ m f i, i + m = n → m < f → lp F f (nI i) = E (srch P i m) := by
  intro m
  induction m with
  | zero =>
    intro f i hi hf
    obtain rfl : i = n := by omega
    cases f with
    | zero => omega
    | succ f => exact hx _
  | succ m ih =>
    intro f i hi hf
    cases f with
    | zero => omega
    | succ f =>
      show F (lp F f) (nI i) = _
      unfold srch
      by_cases e : P i = true
      · rw [hs _ i (by omega) e, if_pos e]
      · rw [hn _ i (by omega) e, if_neg e, ih f (i + 1) (by omega) (by omega)]
def bef (f : Nat → Nat) (u i : Nat) : Prop := f i < f u ∨ (f i = f u ∧ i < u)
def befh (o : Nat → Int32) (f : Nat → Nat) (u i : Nat) : Nat := if o i = 0 then 0 else if f i < f u then 1 else if f i = f u then (if i < u then 1 else 0) else 0
def cbN (o : Nat → Int32) (f : Nat → Nat) (u n : Nat) : Nat := itr (fun i s => s + befh o f u i) 0 n 0
theorem befh_le (o : Nat → Int32) (f : Nat → Nat) (u i : Nat) : befh o f u i ≤ 1 := by
  unfold befh
  split
  · omega
  · split
    · omega
    · split
      · split <;> omega
      · omega
theorem befh_0 {o : Nat → Int32} {f : Nat → Nat} {u i : Nat} : befh o f u i = 0 ↔ (¬ o i = 0 → f u < f i ∨ (f u = f i ∧ u ≤ i)) := by
  unfold befh
  by_cases e : o i = 0
  · simp [e]
  · simp only [if_neg e]
    by_cases a : f i < f u
    · simp only [if_pos a]
      constructor
      · intro h; omega
      · intro h; have := h e; omega
    · simp only [if_neg a]
      by_cases b : f i = f u
      · simp only [if_pos b]
        by_cases c : i < u
        · simp only [if_pos c]
          constructor
          · intro h; omega
          · intro h; have := h e; omega
        · simp only [if_neg c]
          constructor
          · intro _ _; omega
          · intro _; trivial
      · simp only [if_neg b]
        constructor
        · intro _ _; omega
        · intro _; trivial
theorem smf_0 (h : Nat → Nat) : ∀ k i, smf h i k = 0 ↔ ∀ j, i ≤ j → j < i + k → h j = 0 := by
  intro k
  induction k with
  | zero => intro i; simp [smf]; intro j h1 h2; omega
  | succ k ih =>
    intro i
    rw [smf]
    constructor
    · intro h j h1 h2
      by_cases q : j = i
      · rw [q]; omega
      · exact (ih (i + 1)).mp (by omega) j (by omega) (by omega)
    · intro h
      have h1 := h i (by omega) (by omega)
      have h2 := (ih (i + 1)).mpr (fun j a b => h j (by omega) (by omega))
      omega
theorem cbN_le (o : Nat → Int32) (f : Nat → Nat) (u n : Nat) : cbN o f u n ≤ n := by
  unfold cbN
  rw [itr_add]
  have := smf_le (befh o f u) 1 (befh_le o f u) n 0
  omega
theorem cbN_0 {o : Nat → Int32} {f : Nat → Nat} {u n : Nat} : cbN o f u n = 0 ↔ ∀ i, i < n → ¬ o i = 0 → f u < f i ∨ (f u = f i ∧ u ≤ i) := by
  unfold cbN
  rw [itr_add, Nat.zero_add, smf_0]
  constructor
  · intro h i hi e
    exact befh_0.mp (h i (by omega) (by omega)) e
  · intro h j _ hj
    exact befh_0.mpr (h j (by omega))
theorem before_e {n : Nat} {d : Nat → Nat → Nat} {g R Ls o : Nat → Int32} (E : EnvD n d g R Ls) {v u : Nat} (hv : v < n) (hu : u < n) : fX0_countBefore (nI n) o g (nI v) (nI u) = some (nI (cbN o (d v) u n)) := by
  obtain ⟨n1, h60, eg, ef, sy, le⟩ := E
  have hdu := le v u hv hu
  have c1 := lp_for (F := fX0_countBefore_L16 (nI n) o g (nI v) (nI u) (nI (d v u))) (fun i s => (nI s, nI i)) (fun i s => s + befh o (d v) u i) (fun _ _ => True) n (fun s => some (nI s, nI n)) (fun k s _ => by
      dsimp only [fX0_countBefore_L16]
      rw [if_pos (Int32.le_refl _)]) (fun k i s hi hs => by
      have hd := le v i hv hi
      refine ⟨?_, trivial⟩
      dsimp only [fX0_countBefore_L16, fX0_countBefore_J76, fX0_countBefore_J73]
      unfold befh
      rw [if_neg (nI_ge hi (by omega)), eg v i hv hi, bd_s, if_pos (gI_n (by omega) (by decide)), nI_clamp (by omega)]
      by_cases e : o i = 0
      · rw [if_pos e, if_pos e, nI_1]
        rfl
      · rw [if_neg e, if_neg e]
        by_cases a : d v i < d v u
        · rw [if_pos (nI_lt a (by omega)), if_pos a, nI_1, nI_1]
        · rw [if_neg (nI_nlt (by omega) (by omega)), if_neg a]
          by_cases b : d v i = d v u
          · rw [if_pos (by rw [b]), if_pos b]
            by_cases c : i < u
            · rw [if_neg (nI_ge c (by omega)), if_pos c, nI_1, nI_1]
            · rw [if_pos (nI_le (by omega) (by omega)), if_neg c, nI_1]
              rfl
          · rw [if_neg (by rw [nI_eq (by omega) (by omega)]; exact b), if_neg b, nI_1]
            rfl) n FU 0 0 (by omega) (FU_lt (by omega)) trivial
  unfold fX0_countBefore
  rw [eg v u hv hu, bd_s, show ((0 : Int32), (0 : Int32)) = (nI 0, nI 0) from rfl, c1.1]
  rfl
theorem sub_lt0 {a b : Nat} (ha : a < 2 ^ 30) (hb : b < 2 ^ 30) : (nI a - nI b < 0) ↔ a < b := by
  rw [lt_i, pk_sub_toInt ha hb, show (0 : Int32).toInt = 0 from rfl]
  omega
theorem sub_eq0 {a b : Nat} (ha : a < 2 ^ 30) (hb : b < 2 ^ 30) : (nI a - nI b = 0) ↔ a = b := by
  rw [← Int32.toInt_inj, pk_sub_toInt ha hb, show (0 : Int32).toInt = 0 from rfl]
  omega
theorem turnIn_e {n : Nat} {d : Nat → Nat → Nat} {g R Ls o mo : Nat → Int32} (E : EnvD n d g R Ls) (ho : ∀ v, v < n → mo v = o v) {v u : Nat} (hv : v < n) (hu : u < n) : (¬ o u = 0 → lp (fX9_turn_L45 (nI n) R Ls mo (nI v) (nI u)) FU ((0 : Int32), (0 : Int32)) = some (nI (cbN o (d v) u n), nI n)) ∧ (o u = 0 → lp (fX9_turn_L45 (nI n) R Ls mo (nI v) (nI u)) FU ((0 : Int32), (0 : Int32)) = some (0, 0)) := by
  obtain ⟨n1, h60, eg, ef, sy, le⟩ := E
  have hdu := le v u hv hu
  refine ⟨fun hou => ?_, fun hou => ?_⟩
  · have c1 := lp_for (F := fX9_turn_L45 (nI n) R Ls mo (nI v) (nI u)) (fun i s => (nI s, nI i)) (fun i s => s + befh o (d v) u i) (fun _ _ => True) n (fun s => some (nI s, nI n)) (fun k s _ => by
      dsimp only [fX9_turn_L45]
      rw [if_pos (Int32.le_refl _)]) (fun k i s hi hs => by
      have hd := le v i hv hi
      refine ⟨?_, trivial⟩
      dsimp only [fX9_turn_L45, fX9_turn_J114, fX9_turn_J110, fX9_turn_J115]
      unfold befh
      rw [if_neg (nI_ge hi (by omega)), if_pos (gI_n (show u < 60 by omega) (by decide)), nI_clamp (show u < 2 ^ 31 by omega), ho u hu, if_neg hou, ef i v hi hv, bd_s, ef u v hu hv, bd_s, if_pos (gI_n (show i < 60 by omega) (by decide)), nI_clamp (show i < 2 ^ 31 by omega), ho i hi, sy i v hi hv, sy u v hu hv]
      by_cases e : o i = 0
      · rw [if_pos e, if_pos e]
        exact congrArg k (pr2 (nI_add s 0) (nI_1 i))
      · rw [if_neg e, if_neg e]
        by_cases a : d v i < d v u
        · rw [if_pos ((sub_lt0 (by omega) (by omega)).mpr a), if_pos a]
          exact congrArg k (pr2 (nI_add s 1) (nI_1 i))
        · rw [if_neg (fun q => a ((sub_lt0 (by omega) (by omega)).mp q)), if_neg a]
          by_cases b : d v i = d v u
          · rw [if_pos ((sub_eq0 (by omega) (by omega)).mpr b), if_pos b]
            by_cases c : i < u
            · rw [if_neg (nI_ge c (by omega)), if_pos c]
              exact congrArg k (pr2 (nI_add s 1) (nI_1 i))
            · rw [if_pos (nI_le (by omega) (by omega)), if_neg c]
              exact congrArg k (pr2 (nI_add s 0) (nI_1 i))
          · rw [if_neg (fun q => b ((sub_eq0 (by omega) (by omega)).mp q)), if_neg b]
            exact congrArg k (pr2 (nI_add s 0) (nI_1 i))) n FU 0 0 (by omega) (FU_lt (by omega)) trivial
    rw [show ((0 : Int32), (0 : Int32)) = (nI 0, nI 0) from rfl, c1.1]
    rfl
  · rw [show FU = 999 + 1 from rfl]
    show fX9_turn_L45 (nI n) R Ls mo (nI v) (nI u) (lp _ 999) (0, 0) = _
    dsimp only [fX9_turn_L45]
    rw [if_neg (show ¬ nI n ≤ (0 : Int32) from nI_nle n1 (by omega)), if_pos (gI_n (show u < 60 by omega) (by decide)), nI_clamp (show u < 2 ^ 31 by omega), ho u hu, if_pos hou]
/-- which depot is the k-th -/
def rkP (o : Nat → Int32) (f : Nat → Nat) (n : Nat) (p : Int32) (i : Nat) : Bool := !(decide (o i = 0)) && decide (nI (cbN o f i n) = p)
theorem rkP_t {o : Nat → Int32} {f : Nat → Nat} {n i : Nat} {p : Int32} : rkP o f n p i = true ↔ ¬ o i = 0 ∧ nI (cbN o f i n) = p := by
  unfold rkP
  simp
theorem ranked_e {n : Nat} {d : Nat → Nat → Nat} {g R Ls o : Nat → Int32} (E : EnvD n d g R Ls) {v : Nat} (hv : v < n) (p : Int32) : fX0_ranked (nI n) o g (nI v) p = some (enc (srch (rkP o (d v) n p) 0 n)) := by
  have h60 := E.2.1
  unfold fX0_ranked
  refine lp_find (rkP o (d v) n p) n (fun x => some (enc x)) (fun k => ?_) (fun k i hi hp => ?_) (fun k i hi hp => ?_) n FU 0 (by omega) (FU_lt (by omega))
  · dsimp only [fX0_ranked_L2]
    rw [if_pos (Int32.le_refl _)]
    rfl
  · obtain ⟨h1, h2⟩ := rkP_t.mp hp
    dsimp only [fX0_ranked_L2]
    rw [if_neg (nI_ge hi (by omega)), if_pos (gI_n (by omega) (by decide)), nI_clamp (by omega), if_neg h1, before_e E hv hi, bd_s, if_pos h2]
    rfl
  · dsimp only [fX0_ranked_L2, fX0_ranked_J37]
    rw [if_neg (nI_ge hi (by omega)), if_pos (gI_n (by omega) (by decide)), nI_clamp (by omega), nI_1]
    by_cases e : o i = 0
    · rw [if_pos e]
    · rw [if_neg e, before_e E hv hi, bd_s, if_neg (fun q => hp (rkP_t.mpr ⟨e, q⟩))]
