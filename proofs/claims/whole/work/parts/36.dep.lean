/-! Depots: within, sum, nearest, before. d: how far; o: open depots as the class has them; mo: as the reference has them. -/
/-- what is known of distances: the class's table and the reference's loop answer d -/
def EnvD (n : Nat) (d : Nat → Nat → Nat) (g R Ls : Nat → Int32) : Prop := 1 ≤ n ∧ n ≤ 60 ∧ (∀ u v, u < n → v < n → fX1_gap g (nI u) (nI v) = some (nI (d u v))) ∧ (∀ u v, u < n → v < n → fX9_farFrom R Ls (nI u) (nI v) = some (nI (d u v))) ∧ (∀ u v, u < n → v < n → d u v = d v u) ∧ ∀ u v, u < n → v < n → d u v ≤ 11682
theorem LandR.env {n : Nat} {rt ln : Nat → Nat} {cCnt cOpc : Int32} {cRts cLns cOpn cGps : Nat → Int32} {mVil : Int32} {mRts mLns mOpn : Nat → Int32} (h : LandR n rt ln cCnt cOpc cRts cLns cOpn cGps mVil mRts mLns mOpn) : EnvD n (dist rt ln) cGps mRts mLns :=
  ⟨h.1, h.2.1, fun u v hu hv => h.gap hu hv, fun u v hu hv => far_e h.treeM hu hv, fun u v hu hv => dist_sym h.treeC.r hu hv, fun u v hu hv => h.treeC.dle hu hv⟩
theorem within_e {n : Nat} {d : Nat → Nat → Nat} {g R Ls o mo : Nat → Int32} (E : EnvD n d g R Ls) (ho : ∀ v, v < n → mo v = o v) {v : Nat} (hv : v < n) (p : Int32) : ∃ s : Nat, s ≤ n ∧ fX0_countWithin (nI n) o g (nI v) p = some (nI s) ∧ fX9_manyWithin (nI n) R Ls mo (nI v) p = some (nI s) := by
  obtain ⟨n1, h60, eg, ef, sy, le⟩ := E
  have c1 := lp_for (F := fX0_countWithin_L5 (nI n) o g (nI v) p) (fun i s => (nI s, nI i)) (fun i s => s + (if o i = 0 then 0 else if p < nI (d v i) then 0 else 1)) (fun i s => s ≤ i) n (fun s => some (nI s, nI n)) (fun k s _ => by
      dsimp only [fX0_countWithin_L5]
      rw [if_pos (Int32.le_refl _)]) (fun k i s hi hs => by
      refine ⟨?_, by split <;> (try split) <;> omega⟩
      dsimp only [fX0_countWithin_L5, fX0_countWithin_J47]
      rw [if_neg (nI_ge hi (by omega)), if_pos (gI_n (by omega) (by decide)), nI_clamp (by omega)]
      by_cases e : o i = 0
      · rw [if_pos e, if_pos e, nI_1]
        rfl
      · rw [if_neg e, if_neg e, eg v i hv hi, bd_s]
        by_cases q : p < nI (d v i)
        · rw [if_pos q, if_pos q, nI_1]
          rfl
        · rw [if_neg q, if_neg q, nI_1, nI_1]) n FU 0 0 (by omega) (FU_lt (by omega)) (Nat.le_refl _)
  have c2 := lp_for (F := fX9_manyWithin_L5 (nI n) R Ls mo (nI v) p) (fun i s => (nI s, nI i)) (fun i s => s + (if o i = 0 then 0 else if p < nI (d v i) then 0 else 1)) (fun i s => s ≤ i) n (fun s => some (nI s, nI n)) (fun k s _ => by
      dsimp only [fX9_manyWithin_L5]
      rw [if_pos (Int32.le_refl _)]) (fun k i s hi hs => by
      refine ⟨?_, by split <;> (try split) <;> omega⟩
      dsimp only [fX9_manyWithin_L5, fX9_manyWithin_J40, fX9_manyWithin_J41]
      rw [if_neg (nI_ge hi (by omega)), if_pos (gI_n (by omega) (by decide)), nI_clamp (by omega), ho i hi]
      by_cases e : o i = 0
      · rw [if_pos e, if_pos e]
        exact congrArg k (pr2 (nI_add s 0) (nI_1 i))
      · rw [if_neg e, if_neg e, ef i v hi hv, bd_s, sy i v hi hv]
        by_cases q : p < nI (d v i)
        · rw [if_pos q, if_pos q]
          exact congrArg k (pr2 (nI_add s 0) (nI_1 i))
        · rw [if_neg q, if_neg q]
          exact congrArg k (pr2 (nI_add s 1) (nI_1 i))) n FU 0 0 (by omega) (FU_lt (by omega)) (Nat.le_refl _)
  refine ⟨_, c1.2, ?_, ?_⟩
  · unfold fX0_countWithin
    rw [show ((0 : Int32), (0 : Int32)) = (nI 0, nI 0) from rfl, c1.1]
    rfl
  · unfold fX9_manyWithin
    rw [show ((0 : Int32), (0 : Int32)) = (nI 0, nI 0) from rfl, c2.1]
    rfl
theorem sum_e {n : Nat} {d : Nat → Nat → Nat} {g R Ls o mo : Nat → Int32} (E : EnvD n d g R Ls) (ho : ∀ v, v < n → mo v = o v) {v : Nat} (hv : v < n) : ∃ s : Nat, s ≤ 11682 * n ∧ fX0_total (nI n) o g (nI v) = some (nI s) ∧ fX9_sumOfOpen (nI n) R Ls mo (nI v) = some (nI s) := by
  obtain ⟨n1, h60, eg, ef, sy, le⟩ := E
  have c1 := lp_for (F := fX0_total_L4 (nI n) o g (nI v)) (fun i s => (nI s, nI i)) (fun i s => s + (if o i = 0 then 0 else d v i)) (fun i s => s ≤ 11682 * i) n (fun s => some (nI s, nI n)) (fun k s _ => by
      dsimp only [fX0_total_L4]
      rw [if_pos (Int32.le_refl _)]) (fun k i s hi hs => by
      have hd := le v i hv hi
      refine ⟨?_, by split <;> omega⟩
      dsimp only [fX0_total_L4, fX0_total_J39]
      rw [if_neg (nI_ge hi (by omega)), if_pos (gI_n (by omega) (by decide)), nI_clamp (by omega)]
      by_cases e : o i = 0
      · rw [if_pos e, if_pos e, nI_1]
        rfl
      · rw [if_neg e, if_neg e, eg v i hv hi, bd_s, nI_1, nI_add]) n FU 0 0 (by omega) (FU_lt (by omega)) (Nat.le_refl _)
  have c2 := lp_for (F := fX9_sumOfOpen_L4 (nI n) R Ls mo (nI v)) (fun i s => (nI s, nI i)) (fun i s => s + (if o i = 0 then 0 else d v i)) (fun i s => s ≤ 11682 * i) n (fun s => some (nI s, nI n)) (fun k s _ => by
      dsimp only [fX9_sumOfOpen_L4]
      rw [if_pos (Int32.le_refl _)]) (fun k i s hi hs => by
      have hd := le v i hv hi
      refine ⟨?_, by split <;> omega⟩
      dsimp only [fX9_sumOfOpen_L4, fX9_sumOfOpen_J32]
      rw [if_neg (nI_ge hi (by omega)), if_pos (gI_n (by omega) (by decide)), nI_clamp (by omega), ho i hi]
      by_cases e : o i = 0
      · rw [if_pos e, if_pos e]
        exact congrArg k (pr2 (nI_add s 0) (nI_1 i))
      · rw [if_neg e, if_neg e, ef i v hi hv, bd_s, sy i v hi hv, nI_1, nI_add]) n FU 0 0 (by omega) (FU_lt (by omega)) (Nat.le_refl _)
  refine ⟨_, c1.2, ?_, ?_⟩
  · unfold fX0_total
    rw [show ((0 : Int32), (0 : Int32)) = (nI 0, nI 0) from rfl, c1.1]
    rfl
  · unfold fX9_sumOfOpen
    rw [show ((0 : Int32), (0 : Int32)) = (nI 0, nI 0) from rfl, c2.1]
    rfl
/-- the nearest of those from a to b: none, or the least of the least far -/
def Near (a b : Nat) (op : Nat → Prop) (f : Nat → Nat) : Option Nat → Prop
  | none => ∀ i, a ≤ i → i < b → ¬ op i
  | some x => a ≤ x ∧ x < b ∧ op x ∧ ∀ i, a ≤ i → i < b → op i → f x < f i ∨ (f x = f i ∧ x ≤ i)
theorem Near.uniq {a b : Nat} {op : Nat → Prop} {f : Nat → Nat} {x y : Option Nat} (hx : Near a b op f x) (hy : Near a b op f y) : x = y := by
  cases x with
  | none =>
    cases y with
    | none => rfl
    | some y => exact absurd hy.2.2.1 (hx y hy.1 hy.2.1)
  | some x =>
    cases y with
    | none => exact absurd hx.2.2.1 (hy x hx.1 hx.2.1)
    | some y =>
      have h1 := hx.2.2.2 y hy.1 hy.2.1 hy.2.2.1
      have h2 := hy.2.2.2 x hx.1 hx.2.1 hx.2.2.1
      exact congrArg some (by omega)
def enc : Option Nat → Int32
  | none => -1
  | some b => nI b
def encF (f : Nat → Nat) : Option Nat → Int32
  | none => 1000000
  | some b => nI (f b)
theorem nI_nm1 {b : Nat} (h : b < 2 ^ 31) : ¬ nI b = -1 := by
  intro e
  have := congrArg Int32.toInt e
  rw [nI_toInt h, show (-1 : Int32).toInt = -1 by decide] at this
  omega
theorem Near.get {a b x : Nat} {op : Nat → Prop} {f : Nat → Nat} (h : Near a b op f (some x)) : a ≤ x ∧ x < b ∧ op x ∧ ∀ i, a ≤ i → i < b → op i → f x < f i ∨ (f x = f i ∧ x ≤ i) := h
theorem Near.put {a b x : Nat} {op : Nat → Prop} {f : Nat → Nat} (h : a ≤ x ∧ x < b ∧ op x ∧ ∀ i, a ≤ i → i < b → op i → f x < f i ∨ (f x = f i ∧ x ≤ i)) : Near a b op f (some x) := h
theorem Near.get0 {a b : Nat} {op : Nat → Prop} {f : Nat → Nat} (h : Near a b op f none) : ∀ i, a ≤ i → i < b → ¬ op i := h
theorem Near.put0 {a b : Nat} {op : Nat → Prop} {f : Nat → Nat} (h : ∀ i, a ≤ i → i < b → ¬ op i) : Near a b op f none := h
def nu (f : Nat → Nat) (i : Nat) : Option Nat → Option Nat
  | none => some i
  | some b => if f b ≤ f i then some b else some i
def nd (f : Nat → Nat) (i : Nat) : Option Nat → Option Nat
  | none => some i
  | some b => if f b < f i then some b else some i
theorem Near.skip {i : Nat} {op : Nat → Prop} {f : Nat → Nat} {s : Option Nat} (h : Near 0 i op f s) (e : ¬ op i) : Near 0 (i + 1) op f s := by
  cases s with
  | none =>
    refine Near.put0 (fun j h1 h2 => ?_)
    by_cases q : j = i
    · rw [q]; exact e
    · exact h.get0 j h1 (by omega)
  | some b =>
    obtain ⟨z1, z2, z3, z4⟩ := h.get
    refine Near.put ⟨z1, by omega, z3, fun j h1 h2 h3 => ?_⟩
    by_cases q : j = i
    · rw [q] at h3; exact absurd h3 e
    · exact z4 j h1 (by omega) h3
theorem Near.take {i : Nat} {op : Nat → Prop} {f : Nat → Nat} {s : Option Nat} (h : Near 0 i op f s) (e : op i) : Near 0 (i + 1) op f (nu f i s) := by
  cases s with
  | none =>
    refine Near.put ⟨by omega, by omega, e, fun j h1 h2 h3 => ?_⟩
    by_cases q : j = i
    · rw [q]; omega
    · exact absurd h3 (h.get0 j h1 (by omega))
  | some b =>
    obtain ⟨z1, z2, z3, z4⟩ := h.get
    unfold nu
    by_cases q : f b ≤ f i
    · simp only [if_pos q]
      refine Near.put ⟨z1, by omega, z3, fun j h1 h2 h3 => ?_⟩
      by_cases q2 : j = i
      · rw [q2]; omega
      · exact z4 j h1 (by omega) h3
    · simp only [if_neg q]
      refine Near.put ⟨by omega, by omega, e, fun j h1 h2 h3 => ?_⟩
      by_cases q2 : j = i
      · rw [q2]; omega
      · have := z4 j h1 (by omega) h3
        omega
theorem Near.skipD {i n : Nat} {op : Nat → Prop} {f : Nat → Nat} {s : Option Nat} (h : Near (i + 1) n op f s) (e : ¬ op i) : Near i n op f s := by
  cases s with
  | none =>
    refine Near.put0 (fun j h1 h2 => ?_)
    by_cases q : j = i
    · rw [q]; exact e
    · exact h.get0 j (by omega) h2
  | some b =>
    obtain ⟨z1, z2, z3, z4⟩ := h.get
    refine Near.put ⟨by omega, z2, z3, fun j h1 h2 h3 => ?_⟩
    by_cases q : j = i
    · rw [q] at h3; exact absurd h3 e
    · exact z4 j (by omega) h2 h3
theorem Near.takeD {i n : Nat} {op : Nat → Prop} {f : Nat → Nat} {s : Option Nat} (h : Near (i + 1) n op f s) (hi : i < n) (e : op i) : Near i n op f (nd f i s) := by
  cases s with
  | none =>
    refine Near.put ⟨by omega, hi, e, fun j h1 h2 h3 => ?_⟩
    by_cases q : j = i
    · rw [q]; omega
    · exact absurd h3 (h.get0 j (by omega) h2)
  | some b =>
    obtain ⟨z1, z2, z3, z4⟩ := h.get
    unfold nd
    by_cases q : f b < f i
    · simp only [if_pos q]
      refine Near.put ⟨by omega, z2, z3, fun j h1 h2 h3 => ?_⟩
      by_cases q2 : j = i
      · rw [q2]; omega
      · exact z4 j (by omega) h2 h3
    · simp only [if_neg q]
      refine Near.put ⟨by omega, hi, e, fun j h1 h2 h3 => ?_⟩
      by_cases q2 : j = i
      · rw [q2]; omega
      · have := z4 j (by omega) h2 h3
        omega
theorem closest_e {n : Nat} {d : Nat → Nat → Nat} {g R Ls o : Nat → Int32} (E : EnvD n d g R Ls) {v : Nat} (hv : v < n) : ∃ x, fX0_closest (nI n) o g (nI v) = some (enc x) ∧ Near 0 n (fun i => ¬ o i = 0) (d v) x := by
  obtain ⟨n1, h60, eg, ef, sy, le⟩ := E
  have c1 := lp_for (F := fX0_closest_L8 (nI n) o g (nI v)) (fun i s => (enc s, encF (d v) s, nI i)) (fun i s => if o i = 0 then s else nu (d v) i s) (fun i s => Near 0 i (fun i => ¬ o i = 0) (d v) s) n (fun s => some (enc s, encF (d v) s, nI n)) (fun k s _ => by
      dsimp only [fX0_closest_L8]
      rw [if_pos (Int32.le_refl _)]) (fun k i s hi hs => by
      have hd := le v i hv hi
      dsimp only [fX0_closest_L8, fX0_closest_J61]
      rw [if_neg (nI_ge hi (by omega)), if_pos (gI_n (by omega) (by decide)), nI_clamp (by omega)]
      by_cases e : o i = 0
      · rw [if_pos e, if_pos e, nI_1]
        exact ⟨rfl, hs.skip (fun h => h e)⟩
      · rw [if_neg e, if_neg e, eg v i hv hi, bd_s]
        refine ⟨?_, hs.take e⟩
        cases s with
        | none => rw [if_neg (show ¬ encF (d v) none ≤ nI (d v i) from nI_ge (a := d v i) (b := 1000000) (by omega) (by decide)), bd_s, nI_1]; rfl
        | some b =>
          have hdb := le v b hv (by have := hs.get.2.1; omega)
          unfold nu
          by_cases q : d v b ≤ d v i
          · rw [if_pos (show encF (d v) (some b) ≤ nI (d v i) from nI_le q (by omega)), nI_1]
            simp only [if_pos q]
          · rw [if_neg (show ¬ encF (d v) (some b) ≤ nI (d v i) from nI_ge (by omega) (by omega)), bd_s, nI_1]
            simp only [if_neg q]
            rfl) n FU 0 none (by omega) (FU_lt (by omega)) (Near.put0 (fun j _ h => absurd h (by omega)))
  refine ⟨_, ?_, c1.2⟩
  unfold fX0_closest
  rw [show ((-1 : Int32), (1000000 : Int32), (0 : Int32)) = (enc none, encF (d v) none, nI 0) from rfl, c1.1]
  rfl
theorem nearestOf_e {n : Nat} {d : Nat → Nat → Nat} {g R Ls mo : Nat → Int32} (E : EnvD n d g R Ls) {v : Nat} (hv : v < n) : ∃ x, fX9_nearestOf (nI n) R Ls mo (nI v) = some (enc x) ∧ Near 0 n (fun i => ¬ mo i = 0) (d v) x := by
  obtain ⟨n1, h60, eg, ef, sy, le⟩ := E
  have c1 := lp_down (F := fX9_nearestOf_L9 R Ls mo (nI v)) (fun i s => (enc s, nI i + (-1))) (fun i s => if mo i = 0 then s else nd (d v) i s) (fun i s => Near i n (fun i => ¬ mo i = 0) (d v) s) n (fun s => some (enc s, nI 0 + (-1))) (fun k s _ => by
      dsimp only [fX9_nearestOf_L9]
      rw [if_pos (by decide)]) (fun k i s hi hs => by
      have hd := le v i hv hi
      dsimp only [fX9_nearestOf_L9, fX9_nearestOf_J46, fX9_nearestOf_J47, fX9_nearestOf_J42]
      rw [pk_m1, if_neg (nI_pos (by omega)), if_pos (gI_n (by omega) (by decide)), nI_clamp (by omega)]
      by_cases e : mo i = 0
      · rw [if_pos e, if_pos e]
        exact ⟨rfl, hs.skipD (fun h => h e)⟩
      · rw [if_neg e, if_neg e]
        refine ⟨?_, hs.takeD hi e⟩
        cases s with
        | none => rw [if_pos (show enc none = -1 from rfl)]; rfl
        | some b =>
          have hb : b < n := hs.get.2.1
          have hdb := le v b hv hb
          rw [if_neg (show ¬ enc (some b) = -1 from nI_nm1 (by omega)), ef i v hi hv, bd_s, show fX9_farFrom R Ls (enc (some b)) (nI v) = _ from ef b v hb hv, bd_s, sy i v hi hv, sy b v hb hv]
          unfold nd
          by_cases q : d v b < d v i
          · rw [if_pos (nI_lt q (by omega))]
            simp only [if_pos q]
          · rw [if_neg (nI_nlt (by omega) (by omega))]
            simp only [if_neg q]
            rfl) n FU none (Nat.le_refl _) (FU_lt (by omega)) (Near.put0 (fun j h1 h2 => absurd h1 (by omega)))
  refine ⟨_, ?_, c1.2⟩
  unfold fX9_nearestOf
  rw [show ((-1 : Int32), nI n - (1 : Int32)) = (enc none, nI n + (-1)) from pr2 rfl (Int32.sub_eq_add_neg _ _), c1.1]
  rfl
theorem Near.cg {a b : Nat} {op op' : Nat → Prop} {f : Nat → Nat} {x : Option Nat} (h : Near a b op f x) (e : ∀ i, a ≤ i → i < b → (op' i ↔ op i)) : Near a b op' f x := by
  cases x with
  | none => exact fun i h1 h2 q => h i h1 h2 ((e i h1 h2).mp q)
  | some x => exact ⟨h.1, h.2.1, (e x h.1 h.2.1).mpr h.2.2.1, fun i h1 h2 q => h.2.2.2 i h1 h2 ((e i h1 h2).mp q)⟩
/-- both find the same nearest -/
theorem near_e {n : Nat} {d : Nat → Nat → Nat} {g R Ls o mo : Nat → Int32} (E : EnvD n d g R Ls) (ho : ∀ v, v < n → mo v = o v) {v : Nat} (hv : v < n) : ∃ x, fX0_closest (nI n) o g (nI v) = some (enc x) ∧ fX9_nearestOf (nI n) R Ls mo (nI v) = some (enc x) ∧ Near 0 n (fun i => ¬ o i = 0) (d v) x := by
  obtain ⟨x, h1, h2⟩ := closest_e (o := o) E hv
  obtain ⟨y, h3, h4⟩ := nearestOf_e (mo := mo) E hv
  obtain rfl := h2.uniq (h4.cg (op' := fun i => ¬ o i = 0) (fun i _ hi => by rw [ho i hi]))
  exact ⟨x, h1, h3, h2⟩
