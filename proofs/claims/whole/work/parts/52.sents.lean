/-! A sentence, whole. -/
theorem pass_n {f : Nat} (hf : f < 2 ^ 31) (T P V : Int32) (B : Nat → Int32) (need : Int32) : fX3_readNumber T P (nI f) V B need = some (0, P, nI f) := by
  unfold fX3_readNumber
  rw [if_neg (nI_nm1 hf)]
theorem pass_e {f : Nat} (hf : f < 2 ^ 31) (T P : Int32) (B : Nat → Int32) : fX3_readEnd T P (nI f) B = some (P, nI f) := by
  unfold fX3_readEnd
  rw [if_neg (nI_nm1 hf)]
theorem none_n (T P V : Int32) (B : Nat → Int32) {need : Int32} (h : need = 0) : fX3_readNumber T P (-1) V B need = some (nI 0, P, -1) := by
  unfold fX3_readNumber
  rw [if_pos rfl, if_pos h]
  rfl
theorem tF_8 : tF 8 = 0 := rfl
theorem tF_n : ∀ w, w < 10 → w ≠ 8 → ¬ tF w = 0 := by decide +kernel
theorem tS_n : ∀ w, w < 10 → (w = 0 ∨ w = 3 ∨ w = 5 ∨ w = 6 ∨ w = 7) → ¬ tS w = 0 := by decide +kernel
theorem tS_0 : ∀ w, w < 10 → ¬ (w = 0 ∨ w = 3 ∨ w = 5 ∨ w = 6 ∨ w = 7) → tS w = 0 := by decide +kernel
theorem many2 : ∀ w, w < 10 → (w = 0 ∨ w = 3 ∨ w = 5 ∨ w = 6 ∨ w = 7) → manyW w = 2 := by decide +kernel
theorem many1 : ∀ w, w < 10 → ¬ (w = 0 ∨ w = 3 ∨ w = 5 ∨ w = 6 ∨ w = 7) → w ≠ 8 → manyW w = 1 := by decide +kernel
theorem vd2 {w a b th : Nat} (h2 : two w) (h1 : ok1 w th a) (hb : ok2 w th b) (hadd : w = 0 → th < 60) : Vd w a b th := by
  unfold Vd
  unfold ok1 at h1
  unfold ok2 at hb
  unfold two at h2
  omega
theorem vd1 {w a th : Nat} (hw : w < 10) (h2 : ¬ two w) (h8 : w ≠ 8) (h1 : ok1 w th a) : Vd w a 0 th := by
  unfold Vd
  unfold ok1 at h1
  unfold two at h2
  omega
section SENTS
variable {t : Nat} {X : Nat → Nat} {B M : Nat → Int32}
def FltC (t : Nat) (X : Nat → Nat) (B : Nat → Int32) (q th f : Nat) : Prop := ∀ p, Sk t X p q → ∀ k W F S, ∃ p', p' ≤ t ∧ fX3_readSentence (nI t) k (nI p) (-1) (nI th) B W F S = some (k, nI p', nI f, nI th, W, F, S)
def FltM (t : Nat) (X : Nat → Nat) (M : Nat → Int32) (q th f : Nat) : Prop := ∀ p, Sk t X p q → ∀ j1 j2 j3 j4 N, ∃ s k v o g N', fX9_isSentence (nI t) (nI p) j1 j2 j3 j4 (nI th) M N = some (0, s, nI f, k, v, o, g, N')
def SenC (t : Nat) (X : Nat → Nat) (B : Nat → Int32) (q th w a b p' : Nat) : Prop := ∀ p, Sk t X p q → ∀ k W F S, k < 30 → fX3_readSentence (nI t) (nI k) (nI p) (-1) (nI th) B W F S = some (nI (k + 1), nI p', -1, nI (nx w th), upd W k (nI w), upd F k (nI a), upd S k (nI b))
def SenM (t : Nat) (X : Nat → Nat) (M : Nat → Int32) (q th w a b p' : Nat) : Prop := ∀ p, Sk t X p q → ∀ j1 j2 j3 j4 N, ∃ s1 s2 s3 N', fX9_isSentence (nI t) (nI p) j1 j2 j3 j4 (nI th) M N = some (1, nI p', s1, s2, s3, nI (wcd w), nI (nx w th), N') ∧ (w ≠ 8 → N' 0 = nI a) ∧ (two w → N' 1 = nI b)
theorem rs_ok {w a b th p' k : Nat} {P R R1 R2 : Int32} (hw : w < 10) (hk : k < 30) (h0 : fX3_readWord (nI t) P (-1) (nI th) B = some (nI w, R, -1)) (h1 : fX3_readNumber (nI t) R (-1) (nI th) B (tF w) = some (nI a, R1, -1)) (h2 : fX3_readNumber (nI t) R1 (-1) (nI th) B (tS w) = some (nI b, R2, -1)) (h3 : fX3_readEnd (nI t) R2 (-1) B = some (nI p', -1)) (W F S : Nat → Int32) :
    fX3_readSentence (nI t) (nI k) P (-1) (nI th) B W F S = some (nI (k + 1), nI p', -1, nI (nx w th), upd W k (nI w), upd F k (nI a), upd S k (nI b)) := by
  unfold fX3_readSentence
  rw [h0, bd_s]
  dsimp only
  rw [need1_e w hw, bd_s, h1, bd_s]
  dsimp only
  rw [need2_e w hw, bd_s, h2, bd_s]
  dsimp only
  rw [h3, bd_s]
  dsimp only
  rw [if_pos rfl]
  unfold fX3_keep fX3_keep_J49
  have g30 := gI_n (i := k) (n := 30) hk (by decide)
  rw [if_neg (show ¬ (30 : Int32) ≤ nI k from nI_ge (b := 30) hk (by decide)), if_pos g30, if_pos g30, if_pos g30, nI_clamp (by omega), nI_1]
  unfold nx
  by_cases e : w = 0
  · rw [if_pos (by rw [e]; rfl), if_pos e, nI_1]
    rfl
  · rw [if_neg (nI_ne0 (by omega) (by omega)), if_neg e]
    rfl
theorem rs_flt {th p' f : Nat} {k P P1 P2 P3 w' f1 f2 f3 d1 d2 v1 v2 : Int32} (hf : f < 2 ^ 31) (h0 : fX3_readWord (nI t) P (-1) (nI th) B = some (w', P1, f1)) (n1 : fX7_firstNeed w' = some d1) (h1 : fX3_readNumber (nI t) P1 f1 (nI th) B d1 = some (v1, P2, f2)) (n2 : fX7_secondNeed w' = some d2) (h2 : fX3_readNumber (nI t) P2 f2 (nI th) B d2 = some (v2, P3, f3)) (h3 : fX3_readEnd (nI t) P3 f3 B = some (nI p', nI f)) (W F S : Nat → Int32) :
    fX3_readSentence (nI t) k P (-1) (nI th) B W F S = some (k, nI p', nI f, nI th, W, F, S) := by
  unfold fX3_readSentence
  rw [h0, bd_s]
  dsimp only
  rw [n1, bd_s, h1, bd_s]
  dsimp only
  rw [n2, bd_s, h2, bd_s]
  dsimp only
  rw [h3, bd_s]
  dsimp only
  rw [if_neg (nI_nm1 hf)]
theorem mL_ok {c m : Int32} {i s r q a th f : Nat} (hm : ¬ m ≤ nI i) (hi : i < 2) (hn : ∀ j1 j2 j3, fX9_next (nI t) (nI s) j1 j2 j3 M = some (nI r, nI q, 2, nI a)) (hb : fX9_mayBe c (nI th) (nI i) (nI a) = some 1) (j1 j2 j3 : Int32) (N : Nat → Int32) :
    lp (fX9_isSentence_L60 (nI t) (nI th) M c m) (f + 1) (nI i, nI s, j1, j2, j3, N) = lp (fX9_isSentence_L60 (nI t) (nI th) M c m) f (nI (i + 1), nI r, nI q, 2, nI a, upd N i (nI a)) := by
  show fX9_isSentence_L60 (nI t) (nI th) M c m (lp _ f) (nI i, nI s, j1, j2, j3, N) = _
  dsimp only [fX9_isSentence_L60]
  rw [if_neg hm, hn, bd_s]
  dsimp only
  rw [if_pos rfl, hb, bd_s, if_neg i1_0, if_pos (gI_n hi (by decide)), nI_clamp (by omega), nI_1]
theorem mL_flt {c m : Int32} {i s q th f : Nat} (hm : ¬ m ≤ nI i) (j1 j2 j3 : Int32) (hn : ∃ s' k v, fX9_next (nI t) (nI s) j1 j2 j3 M = some (s', nI q, k, v) ∧ (k = 2 → fX9_mayBe c (nI th) (nI i) v = some 0)) (N : Nat → Int32) :
    ∃ s' k v, lp (fX9_isSentence_L60 (nI t) (nI th) M c m) (f + 1) (nI i, nI s, j1, j2, j3, N) = some (0, s', nI q, k, v, c, nI th, N) := by
  obtain ⟨s', k, v, h1, h2⟩ := hn
  refine ⟨s', k, v, ?_⟩
  show fX9_isSentence_L60 (nI t) (nI th) M c m (lp _ f) (nI i, nI s, j1, j2, j3, N) = _
  dsimp only [fX9_isSentence_L60]
  rw [if_neg hm, h1, bd_s]
  dsimp only
  by_cases e : k = 2
  · rw [if_pos e, h2 e, bd_s, if_pos rfl]
  · rw [if_neg e]
theorem mL_eok {m : Int32} {w i s q th f : Nat} (hw : w < 10) (hm : m ≤ nI i) (j1 j2 j3 : Int32) (hn : fX9_next (nI t) (nI s) j1 j2 j3 M = some (nI (q + 1), nI q, 3, 0)) (N : Nat → Int32) :
    lp (fX9_isSentence_L60 (nI t) (nI th) M (nI (wcd w)) m) (f + 1) (nI i, nI s, j1, j2, j3, N) = some (1, nI (q + 1), nI q, 3, 0, nI (wcd w), nI (nx w th), N) := by
  show fX9_isSentence_L60 (nI t) (nI th) M (nI (wcd w)) m (lp _ f) (nI i, nI s, j1, j2, j3, N) = _
  dsimp only [fX9_isSentence_L60, fX9_isSentence_J131]
  rw [if_pos hm, hn, bd_s]
  dsimp only
  unfold nx
  by_cases e : w = 0
  · rw [if_pos (by rw [e]; rfl), if_pos rfl, nI_1, if_pos e]
  · rw [if_neg (wcd0 w hw e), if_pos rfl, i_a0, if_neg e]
theorem mL_efl {c m : Int32} {i s q th f : Nat} (hm : m ≤ nI i) (j1 j2 j3 : Int32) (hn : ∃ s' k v, fX9_next (nI t) (nI s) j1 j2 j3 M = some (s', nI q, k, v) ∧ ¬ k = 3) (N : Nat → Int32) :
    ∃ s' k v g, lp (fX9_isSentence_L60 (nI t) (nI th) M c m) (f + 1) (nI i, nI s, j1, j2, j3, N) = some (0, s', nI q, k, v, c, g, N) := by
  obtain ⟨s', k, v, h1, h2⟩ := hn
  by_cases e : c = 1156
  · refine ⟨s', k, v, nI th + 1, ?_⟩
    show fX9_isSentence_L60 (nI t) (nI th) M c m (lp _ f) (nI i, nI s, j1, j2, j3, N) = _
    dsimp only [fX9_isSentence_L60, fX9_isSentence_J131]
    rw [if_pos hm, h1, bd_s]
    dsimp only
    rw [if_pos e, if_neg h2]
  · refine ⟨s', k, v, nI th + 0, ?_⟩
    show fX9_isSentence_L60 (nI t) (nI th) M c m (lp _ f) (nI i, nI s, j1, j2, j3, N) = _
    dsimp only [fX9_isSentence_L60, fX9_isSentence_J131]
    rw [if_pos hm, h1, bd_s]
    dsimp only
    rw [if_neg e, if_neg h2]
theorem sent_e (hX : TX t X B M) {q th : Nat} (hq : q ≤ t) (h1 : 1 ≤ th) (h60 : th ≤ 60) :
    (∃ f, f ≤ t ∧ FltC t X B q th f ∧ FltM t X M q th f) ∨ (∃ w a b p', Vd w a b th ∧ q + 4 ≤ p' ∧ p' ≤ t ∧ SenC t X B q th w a b p' ∧ SenM t X M q th w a b p') := by
  have ht := hX.1
  rcases word_e hX hq h60 (th := th) with ⟨w', r, hw', hrt, hC, hM⟩ | ⟨w, r, hw, hadd, hr3, hrt, hC, hM⟩
  · refine Or.inl ⟨q, hq, fun p h k W F S => ⟨r, hrt, ?_⟩, hM⟩
    have hqb : q < 2 ^ 31 := by omega
    rcases hw' with rfl | rfl
    · exact rs_flt hqb (hC p h) (d1 := 0) (by decide) (pass_n hqb _ _ _ _ _) (d2 := 0) (by decide) (pass_n hqb _ _ _ _ _) (pass_e hqb _ _ _) W F S
    · exact rs_flt hqb (hC p h) (d1 := 1) (by decide) (pass_n hqb _ _ _ _ _) (d2 := 3) (by decide) (pass_n hqb _ _ _ _ _) (pass_e hqb _ _ _) W F S
  · by_cases h8 : w = 8
    · subst h8
      obtain ⟨q3, h3⟩ := run_at (t := t) (P := fun i => X i = 32) (p := r) hrt
      have hq3 := h3.1
      have hq3t := h3.2.1
      have hm : nI (manyW 8) ≤ nI 0 := by decide
      rcases end_e hX h3 with ⟨e1, e2, e3⟩ | ⟨e2, e3⟩
      · refine Or.inr ⟨8, 0, 0, q3 + 1, by unfold Vd; omega, by omega, by omega, fun p h k W F S hk => ?_, fun p h j1 j2 j3 j4 N => ?_⟩
        · exact rs_ok hw hk (hC p h) (none_n _ _ _ _ rfl) (none_n _ _ _ _ rfl) e2 W F S
        · refine ⟨nI q3, 3, 0, N, ?_, fun z => absurd rfl z, fun z => by unfold two at z; omega⟩
          rw [hM p h]
          exact mL_eok (f := 999) hw hm _ _ _ (e3 _ _ _) N
      · refine Or.inl ⟨q3, hq3t, fun p h k W F S => ⟨q3, hq3t, ?_⟩, fun p h j1 j2 j3 j4 N => ?_⟩
        · exact rs_flt (by omega) (hC p h) (need1_e 8 hw) (none_n _ _ _ _ rfl) (need2_e 8 hw) (none_n _ _ _ _ rfl) e2 W F S
        · obtain ⟨s', k, v, g, hh⟩ := mL_efl (f := 999) (th := th) (c := nI (wcd 8)) hm (nI q) 1 (nI (wcd 8)) (e3 _ _ _) N
          refine ⟨s', k, v, nI (wcd 8), g, N, ?_⟩
          rw [hM p h]
          exact hh
    · obtain ⟨q1, g1⟩ := run_at (t := t) (P := fun i => X i = 32) (p := r) hrt
      have hq1 := g1.1
      have hq1t := g1.2.1
      have hm0 : ¬ nI (manyW w) ≤ nI 0 := by
        by_cases z : two w
        · rw [many2 w hw z]; decide
        · rw [many1 w hw z h8]; decide
      rcases numb_e hX g1 (th := th) (tF w) (tF_n w hw h8) (ok1 w th) (fun z => by unfold ok1 at z; omega) (fun x hx => suits1 hw h8 hx h60) with ⟨v, p', hp', c1, c2⟩ | ⟨a, r1, hoa, ha, hr1, hr1t, c1, c2⟩
      · refine Or.inl ⟨q1, hq1t, fun p h k W F S => ⟨p', hp', ?_⟩, fun p h j1 j2 j3 j4 N => ?_⟩
        · have hb : q1 < 2 ^ 31 := by omega
          exact rs_flt hb (hC p h) (need1_e w hw) c1 (need2_e w hw) (pass_n hb _ _ _ _ _) (pass_e hb _ _ _) W F S
        · obtain ⟨s', k, v, hh⟩ := mL_flt (f := 999) (th := th) (c := nI (wcd w)) (s := r) (q := q1) hm0 (nI q) 1 (nI (wcd w)) (by
            obtain ⟨s', k, v, y1, y2⟩ := c2 (nI q) 1 (nI (wcd w))
            refine ⟨s', k, v, y1, fun z => ?_⟩
            obtain ⟨x, x1, x2, rfl⟩ := y2 z
            exact (may1 hw x1 h1 h60).2 x2) N
          refine ⟨s', k, v, nI (wcd w), nI th, N, ?_⟩
          rw [hM p h]
          exact hh
      · have hma := (may1 hw (show a ≤ 1000 by omega) h1 h60).1 hoa
        by_cases h2 : two w
        · obtain ⟨q2, g2⟩ := run_at (t := t) (P := fun i => X i = 32) (p := r1) hr1t
          have hq2 := g2.1
          have hq2t := g2.2.1
          have hm1 : ¬ nI (manyW w) ≤ nI (0 + 1) := by rw [many2 w hw h2]; decide
          rcases numb_e hX g2 (th := th) (tS w) (tS_n w hw h2) (ok2 w th) (fun z => by unfold ok2 at z; unfold two at h2; omega) (fun x hx => suits2 h2 hx h60) with ⟨v, p', hp', d1, d2⟩ | ⟨b, r2, hob, hb, hr2, hr2t, d1, d2⟩
          · refine Or.inl ⟨q2, hq2t, fun p h k W F S => ⟨p', hp', ?_⟩, fun p h j1 j2 j3 j4 N => ?_⟩
            · have hb : q2 < 2 ^ 31 := by omega
              exact rs_flt hb (hC p h) (need1_e w hw) c1 (need2_e w hw) d1 (pass_e hb _ _ _) W F S
            · obtain ⟨s', k, v, hh⟩ := mL_flt (f := 998) (th := th) (c := nI (wcd w)) (s := r1) (q := q2) hm1 (nI q1) 2 (nI a) (by
                obtain ⟨s', k, v, y1, y2⟩ := d2 (nI q1) 2 (nI a)
                refine ⟨s', k, v, y1, fun z => ?_⟩
                obtain ⟨x, x1, x2, rfl⟩ := y2 z
                exact (may2 hw h2 x1 h1 h60).2 x2) (upd N 0 (nI a))
              refine ⟨s', k, v, nI (wcd w), nI th, upd N 0 (nI a), ?_⟩
              rw [hM p h]
              exact (mL_ok (f := 999) hm0 (by decide) c2 hma _ _ _ N).trans hh
          · have hmb := (may2 hw h2 (show b ≤ 1000 by omega) h1 h60).1 hob
            obtain ⟨q3, g3⟩ := run_at (t := t) (P := fun i => X i = 32) (p := r2) hr2t
            have hq3 := g3.1
            have hq3t := g3.2.1
            have hm2 : nI (manyW w) ≤ nI (0 + 1 + 1) := by rw [many2 w hw h2]; decide
            have e12 : ∀ N, lp (fX9_isSentence_L60 (nI t) (nI th) M (nI (wcd w)) (nI (manyW w))) (999 + 1) (nI 0, nI r, nI q, 1, nI (wcd w), N) = lp (fX9_isSentence_L60 (nI t) (nI th) M (nI (wcd w)) (nI (manyW w))) (997 + 1) (nI (0 + 1 + 1), nI r2, nI q2, 2, nI b, upd (upd N 0 (nI a)) (0 + 1) (nI b)) := fun N => (mL_ok (f := 999) hm0 (by decide) c2 hma _ _ _ N).trans (mL_ok (f := 998) hm1 (by decide) d2 hmb _ _ _ _)
            rcases end_e hX g3 with ⟨e1, e2, e3⟩ | ⟨e2, e3⟩
            · refine Or.inr ⟨w, a, b, q3 + 1, vd2 h2 hoa hob hadd, by omega, by omega, fun p h k W F S hk => ?_, fun p h j1 j2 j3 j4 N => ?_⟩
              · exact rs_ok hw hk (hC p h) c1 d1 e2 W F S
              · refine ⟨nI q3, 3, 0, upd (upd N 0 (nI a)) (0 + 1) (nI b), ?_, fun z => (upd_n (by decide)).trans upd_s, fun z => upd_s⟩
                · rw [hM p h]
                  exact (e12 N).trans (mL_eok (f := 997) hw hm2 _ _ _ (e3 _ _ _) _)
            · refine Or.inl ⟨q3, hq3t, fun p h k W F S => ⟨q3, hq3t, ?_⟩, fun p h j1 j2 j3 j4 N => ?_⟩
              · exact rs_flt (by omega) (hC p h) (need1_e w hw) c1 (need2_e w hw) d1 e2 W F S
              · obtain ⟨s', k, v, g, hh⟩ := mL_efl (f := 997) (th := th) (c := nI (wcd w)) hm2 (nI q2) 2 (nI b) (e3 _ _ _) (upd (upd N 0 (nI a)) (0 + 1) (nI b))
                refine ⟨s', k, v, nI (wcd w), g, upd (upd N 0 (nI a)) (0 + 1) (nI b), ?_⟩
                rw [hM p h]
                exact (e12 N).trans hh
        · obtain ⟨q3, g3⟩ := run_at (t := t) (P := fun i => X i = 32) (p := r1) hr1t
          have hq3 := g3.1
          have hq3t := g3.2.1
          have hm1 : nI (manyW w) ≤ nI (0 + 1) := by rw [many1 w hw h2 h8]; decide
          have e11 : ∀ N, lp (fX9_isSentence_L60 (nI t) (nI th) M (nI (wcd w)) (nI (manyW w))) (999 + 1) (nI 0, nI r, nI q, 1, nI (wcd w), N) = lp (fX9_isSentence_L60 (nI t) (nI th) M (nI (wcd w)) (nI (manyW w))) (998 + 1) (nI (0 + 1), nI r1, nI q1, 2, nI a, upd N 0 (nI a)) := fun N => mL_ok (f := 999) hm0 (by decide) c2 hma _ _ _ N
          rcases end_e hX g3 with ⟨e1, e2, e3⟩ | ⟨e2, e3⟩
          · refine Or.inr ⟨w, a, 0, q3 + 1, vd1 hw h2 h8 hoa, by omega, by omega, fun p h k W F S hk => ?_, fun p h j1 j2 j3 j4 N => ?_⟩
            · exact rs_ok hw hk (hC p h) c1 (none_n _ _ _ _ (tS_0 w hw h2)) e2 W F S
            · refine ⟨nI q3, 3, 0, upd N 0 (nI a), ?_, fun z => upd_s, fun z => absurd z h2⟩
              · rw [hM p h]
                exact (e11 N).trans (mL_eok (f := 998) hw hm1 _ _ _ (e3 _ _ _) _)
          · refine Or.inl ⟨q3, hq3t, fun p h k W F S => ⟨q3, hq3t, ?_⟩, fun p h j1 j2 j3 j4 N => ?_⟩
            · exact rs_flt (by omega) (hC p h) (need1_e w hw) c1 (need2_e w hw) (none_n _ _ _ _ (tS_0 w hw h2)) e2 W F S
            · obtain ⟨s', k, v, g, hh⟩ := mL_efl (f := 998) (th := th) (c := nI (wcd w)) hm1 (nI q1) 2 (nI a) (e3 _ _ _) (upd N 0 (nI a))
              refine ⟨s', k, v, nI (wcd w), g, upd N 0 (nI a), ?_⟩
              rw [hM p h]
              exact (e11 N).trans hh
end SENTS
