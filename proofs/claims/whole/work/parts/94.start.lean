def fl : List Cond := flatC (Jvm.Cond.and given_1 narrow_1)
theorem fl_F : ∀ j, j < 10 → Cond.eq (.elem (.static RX7 "FIRST" "[I") (.int (Int32.ofNat j))) (.int (tF j)) ∈ flatC (Jvm.Cond.and given_1 narrow_1) := by decide +kernel
theorem fl_S : ∀ j, j < 10 → Cond.eq (.elem (.static RX7 "SECOND" "[I") (.int (Int32.ofNat j))) (.int (tS j)) ∈ flatC (Jvm.Cond.and given_1 narrow_1) := by decide +kernel
theorem fl_1 : ∀ i, i < 10 → Cond.exactly (.string RX7 (poolS i)) "java/lang/String" ∈ flatC (Jvm.Cond.and given_1 narrow_1) := by decide +kernel
theorem fl_2 : ∀ i, i < 10 → Cond.eq (.field (.string RX7 (poolS i)) "java/lang/String" "coder" "B") (.int 0) ∈ flatC (Jvm.Cond.and given_1 narrow_1) := by decide +kernel
theorem fl_3 : ∀ i, i < 10 → Cond.arrayOf (.field (.string RX7 (poolS i)) "java/lang/String" "value" "[B") .byte ∈ flatC (Jvm.Cond.and given_1 narrow_1) := by decide +kernel
theorem fl_4 : ∀ i, i < 10 → Cond.eq (.length (.field (.string RX7 (poolS i)) "java/lang/String" "value" "[B")) (.int (Int32.ofNat (lenS.getD i 0))) ∈ flatC (Jvm.Cond.and given_1 narrow_1) := by decide +kernel
theorem fl_5 : ∀ i, i < 10 → ∀ j, j < lenS.getD i 0 → Cond.eq (.elem (.field (.string RX7 (poolS i)) "java/lang/String" "value" "[B") (.int (Int32.ofNat j))) (.int ((bytS.getD i []).getD j 0)) ∈ flatC (Jvm.Cond.and given_1 narrow_1) := by decide +kernel
theorem fl_6 : ∀ i, i < 10 → ∀ j, j < 10 → i ≠ j → Cond.not (Cond.eq (.string RX7 (poolS i)) (.string RX7 (poolS j))) ∈ flatC (Jvm.Cond.and given_1 narrow_1) ∨ Cond.not (Cond.eq (.string RX7 (poolS j)) (.string RX7 (poolS i))) ∈ flatC (Jvm.Cond.and given_1 narrow_1) := by decide +kernel
theorem sref_of {b : Nat} {s : State} (hts0 : ∀ w ∈ lw_tbl, w.before #[Value.ref b] s = true) : ∀ i, i < 10 → (Cond.stringRef RX7 (poolS i) (txtS i)).before #[Value.ref b] s = true := by
  intro i hi
  match i, hi with
  | 0, _ => exact hts0 (.stringRef RX7 32 "add") (mt3 (List.mem_of_getElem? (i := 17) rfl))
  | 1, _ => exact hts0 (.stringRef RX7 34 "open") (mt3 (List.mem_of_getElem? (i := 18) rfl))
  | 2, _ => exact hts0 (.stringRef RX7 36 "shut") (mt3 (List.mem_of_getElem? (i := 19) rfl))
  | 3, _ => exact hts0 (.stringRef RX7 38 "road") (mt3 (List.mem_of_getElem? (i := 20) rfl))
  | 4, _ => exact hts0 (.stringRef RX7 40 "near") (mt3 (List.mem_of_getElem? (i := 21) rfl))
  | 5, _ => exact hts0 (.stringRef RX7 42 "far") (mt3 (List.mem_of_getElem? (i := 22) rfl))
  | 6, _ => exact hts0 (.stringRef RX7 44 "way") (mt3 (List.mem_of_getElem? (i := 23) rfl))
  | 7, _ => exact hts0 (.stringRef RX7 46 "within") (mt3 (List.mem_of_getElem? (i := 24) rfl))
  | 8, _ => exact hts0 (.stringRef RX7 48 "all") (mt3 (List.mem_of_getElem? (i := 25) rfl))
  | 9, _ => exact hts0 (.stringRef RX7 50 "sum") (mt3 (List.mem_of_getElem? (i := 26) rfl))
  | i + 10, hi => exact absurd hi (by omega)
set_option maxRecDepth 100000 in
set_option maxHeartbeats 4000000 in
theorem SF_of {b : Nat} {s : State} (hts0 : ∀ w ∈ lw_tbl, w.before #[Value.ref b] s = true) (hgv : (Jvm.Cond.and given_1 narrow_1).before #[Value.ref b] s = true) (hnA : ∀ a : Nat, a < s.heap.size → ¬ (fun q : Nat => s.heap.size ≤ q) a) : ∃ (zF zS : Nat) (adK adV : Nat → Nat), SF zF zS adK adV (fun q : Nat => s.heap.size ≤ q) s s.heap := by
  have hs := flat_of_before _ hgv
  obtain ⟨zF, e1, hT1⟩ := va_Tof (A := (fun q : Nat => s.heap.size ≤ q)) (tm := .static RX7 "FIRST" "[I") (ty := .int) (N := 10) (f := fun j => .int (tF j)) (by decide) (hs _ (by decide +kernel)) (va_eqt (hs _ (by decide +kernel))) (fun j hj => va_eqt (hs _ (fl_F j hj))) hnA
  obtain ⟨zS, e2, hT2⟩ := va_Tof (A := (fun q : Nat => s.heap.size ≤ q)) (tm := .static RX7 "SECOND" "[I") (ty := .int) (N := 10) (f := fun j => .int (tS j)) (by decide) (hs _ (by decide +kernel)) (va_eqt (hs _ (by decide +kernel))) (fun j hj => va_eqt (hs _ (fl_S j hj))) hnA
  obtain ⟨adK, adV, hV, hE⟩ := vk_Sof (A := (fun q : Nat => s.heap.size ≤ q)) (N := 10) (tm := fun i => .string RX7 (poolS i)) (len := lenS) (byt := bytS) (by decide) (fun i hi => hs _ (fl_1 i hi)) (fun i hi => hs _ (fl_2 i hi)) (fun i hi => hs _ (fl_3 i hi)) (fun i hi => hs _ (fl_4 i hi)) (fun i hi j hj => hs _ (fl_5 i hi j hj)) (fun i j hi hj hij => (fl_6 i hi j hj hij).imp (hs _) (hs _)) hnA
  exact ⟨zF, zS, adK, adV, va_Nw.of rfl (hts0 _ (mt3 (List.mem_of_getElem? (i := 95) rfl))), va_Zof (hts0 _ (mt3 (List.mem_of_getElem? (i := 83) rfl))) (hts0 _ (mt1 (List.mem_of_getElem? (i := 11) rfl))) e1 hnA, hT1, va_Zof (hts0 _ (mt3 (List.mem_of_getElem? (i := 100) rfl))) (hts0 _ (mt1 (List.mem_of_getElem? (i := 11) rfl))) e2 hnA, hT2, fun i hi => vk_R.of (A := #[Value.ref b]) (sref_of hts0 i hi) (hE i hi), hV, va_Zof (hts0 _ (mt3 (List.mem_of_getElem? (i := 40) rfl))) (hts0 _ (mt1 (List.mem_of_getElem? (i := 12) rfl))) (va_eqi (hs _ (by decide +kernel))) hnA, va_Zqof (hts0 _ (mt3 (List.mem_of_getElem? (i := 56) rfl))) (hts0 _ (mt1 (List.mem_of_getElem? (i := 14) rfl))) (hs _ (by decide +kernel)) hnA⟩
theorem rel_0 : Rel 0 0 1 0 0 0 (upd z0 (0 : Int32).toNatClampNeg (-1)) (upd z0 (0 : Int32).toNatClampNeg 0) (upd z0 (0 : Int32).toNatClampNeg (vp_nar .boolean 0)) z0 z0 z0 (1 : Int32) 0 0 0 0 (upd z0 (0 : Int32).toNatClampNeg (-1 : Int32)) z0 z0 z0 z0 := by
  refine ⟨rfl, rfl, ⟨1, fun _ => 0, fun _ => 0, by decide, by decide, by decide, by decide, fun v h1 h2 => absurd h2 (by omega), by decide, by decide, by decide, fun v hv => ?_, by decide, fun u v hu hv => ?_, fun v _ => rfl⟩, ⟨0, by decide, by decide, by decide, fun i hi => absurd hi (by omega)⟩, ⟨0, by decide, by decide, by decide, fun i hi => absurd hi (by omega)⟩⟩
  · obtain rfl : v = 0 := by omega
    exact ⟨Or.inl (by decide), by decide⟩
  · obtain rfl : u = 0 := by omega
    obtain rfl : v = 0 := by omega
    decide
set_option maxRecDepth 100000 in
set_option maxHeartbeats 8000000 in
theorem whole_start {p : Program} {e : Env} {s : State} {m : MethodId} {below : List Frame} {meth : Method} {c : Code} (l : Launch) (hflags : l.flags = flags0) {b L : Nat} {xs : Nat → Int32} (hL : L ≤ 2048) (C0 : lw_At p s m meth c b L xs) : W p l e room_1 s m #[Value.ref b] below meth c s.heap [] 0 0 (lw_Z below #[Value.ref b] s) (entryFrame m ([Value.ref b] : List Value).toArray 4) := by
  obtain ⟨hx, hb, hr, hml, hown, hts0, hX, hbl, hlocks, hgv⟩ := id C0
  have hts := fun w h => hts0 w (wsL_law_in w h)
  have hA : ∀ q : Nat, s.heap.size ≤ q → (fun q : Nat => s.heap.size ≤ q) q := fun _ h => h
  have hnA : ∀ a : Nat, a < s.heap.size → ¬ (fun q : Nat => s.heap.size ≤ q) a := fun a h => Nat.not_le.mpr h
  obtain ⟨c0, iS0, hKn0⟩ := u_known (C := RX0) (T := TX0) (N := 2) (n := 2) hts0 inX0 (hts0 _ (mt1 (List.mem_of_getElem? (i := 89) rfl)))
  obtain ⟨c1, iS1, hKn1⟩ := u_known (C := RX1) (T := TX1) (N := 6) (n := 6) hts0 inX1 (hts0 _ (mt1 (List.mem_of_getElem? (i := 25) rfl)))
  obtain ⟨c2, iS2, hKn2⟩ := u_known (C := RX2) (T := TX2) (N := 2) (n := 2) hts0 inX2 (hts0 _ (mt1 (List.mem_of_getElem? (i := 153) rfl)))
  obtain ⟨c3, iS3, hKn3⟩ := u_known (C := RX3) (T := TX3) (N := 8) (n := 8) hts0 inX3 (hts0 _ (mt1 (List.mem_of_getElem? (i := 118) rfl)))
  obtain ⟨c4, iS4, hKn4⟩ := u_known (C := RX4) (T := TX4) (N := 4) (n := 4) hts0 inX4 (hts0 _ (mt1 (List.mem_of_getElem? (i := 168) rfl)))
  obtain ⟨c5, iS5, hKn5⟩ := u_known (C := RX5) (T := TX5) (N := 2) (n := 2) hts0 inX5 (hts0 _ (mt1 (List.mem_of_getElem? (i := 102) rfl)))
  obtain ⟨c6, iS6, hKn6⟩ := u_known (C := RX6) (T := TX6) (N := 4) (n := 4) hts0 inX6 (hts0 _ (mt1 (List.mem_of_getElem? (i := 66) rfl)))
  obtain ⟨c7, iS7, hKn7⟩ := u_known (C := RX8) (T := TX8) (N := 9) (n := 9) hts0 inX8 (hts0 _ (mt1 (List.mem_of_getElem? (i := 17) rfl)))
  obtain ⟨c8, iS8, hKn8⟩ := u_known (C := RX9) (T := TX9) (N := 22) (n := 22) hts0 inX9 (hts0 _ (mt3 (List.mem_of_getElem? (i := 166) rfl)))
  obtain ⟨dC, dI, hKc⟩ : ∃ (dC : Nat → ClassId) (dI : Nat → Nat → Nat), ∀ (k : Nat) (q : vw_C), vwCl[k]? = some q → u_Kn s q.1 q.2.1 q.2.2 (dC k) (dI k) := by
    refine ⟨fun k => if k = 0 then c0 else if k = 1 then c1 else if k = 2 then c2 else if k = 3 then c3 else if k = 4 then c4 else if k = 5 then c5 else if k = 6 then c6 else if k = 7 then c7 else c8, fun k => if k = 0 then iS0 else if k = 1 then iS1 else if k = 2 then iS2 else if k = 3 then iS3 else if k = 4 then iS4 else if k = 5 then iS5 else if k = 6 then iS6 else if k = 7 then iS7 else iS8, ?_⟩
    intro k q hq
    match k, hq with
    | 0, hq => cases hq; exact hKn0
    | 1, hq => cases hq; exact hKn1
    | 2, hq => cases hq; exact hKn2
    | 3, hq => cases hq; exact hKn3
    | 4, hq => cases hq; exact hKn4
    | 5, hq => cases hq; exact hKn5
    | 6, hq => cases hq; exact hKn6
    | 7, hq => cases hq; exact hKn7
    | 8, hq => cases hq; exact hKn8
    | k + 9, hq => simp [vwCl] at hq
  obtain ⟨cI, kI, mI, f1I, f2I, f3I⟩ := Cond.arrayClass_spec (hts0 _ (mt1 (List.mem_of_getElem? (i := 63) rfl)))
  have hArI : ArrOfT s cI .int := fun n z => ⟨fun k h => (by cases h), kI, f2I, mI, f3I⟩
  obtain ⟨cB, kB, mB, f1B, f2B, f3B⟩ := Cond.arrayClass_spec (hts0 _ (mt1 (List.mem_of_getElem? (i := 116) rfl)))
  have hArB : ArrOfT s cB .byte := fun n z => ⟨fun k h => (by cases h), kB, f2B, mB, f3B⟩
  obtain ⟨cZ, kZ, mZ, f1Z, f2Z, f3Z⟩ := Cond.arrayClass_spec (hts0 _ (mt1 (List.mem_of_getElem? (i := 64) rfl)))
  have hArZ : ArrOfT s cZ .boolean := fun n z => ⟨fun k h => (by cases h), kZ, f2Z, mZ, f3Z⟩
  have hK : va_K (dC, dI) vwCl (tyL cI cB cZ) s := by
    refine ⟨hKc, fun k q hq => ?_⟩
    match k, hq with
    | 0, hq => cases hq; exact ⟨hArI, f1I⟩
    | 1, hq => cases hq; exact ⟨hArB, f1B⟩
    | 2, hq => cases hq; exact ⟨hArZ, f1Z⟩
    | k + 3, hq => simp [tyL] at hq
  have hF := SF_of hts0 hgv hnA
  obtain ⟨zF, zS, adK, adV, hF⟩ := hF
  generalize (dC, dI) = D at hK
  have hS : va_S (fun q : Nat => s.heap.size ≤ q) s.heap s.heap [] := va_S.rf
  have hP : va_P D vwCl [] s.heap := fun k q h => by simp at h
  have hD : va_D (fun q : Nat => s.heap.size ≤ q) [] := ⟨fun i j p q h => by simp at h, fun k q h => by simp at h⟩
  have hl := lv_entry ([.ref b]) (n := 4) (Nat.le_of_ble_eq_true rfl)
  rw [lg_entry_eq]
  generalize (lg_sl ([.ref b]) ++ List.replicate (4 - (lg_sl ([.ref b])).length) Slot.unset).toArray = ls at hl ⊢
  have hl : lv_has ls 4 [(0, .ref b)] := hl
  refine va_new (ci := 7) (fs := [.null, .null, .null, .null, .null, .null, .null, .int 0, .int 0]) (C := RX8) (T := TX8) (N := 9) hx hb hts0 inX8 tyX8 tyX8_ok hown (hts0 _ (mt1 (List.mem_of_getElem? (i := 16) rfl))) (hts0 _ (mt1 (List.mem_of_getElem? (i := 17) rfl))) (hts0 _ (mt1 (List.mem_of_getElem? (i := 1) rfl))) hK hP hD hS hA rfl (fun j hj => by rcases (show j = 0 ∨ j = 1 ∨ j = 2 ∨ j = 3 ∨ j = 4 ∨ j = 5 ∨ j = 6 ∨ j = 7 ∨ j = 8 by omega) with rfl | rfl | rfl | rfl | rfl | rfl | rfl | rfl | rfl <;> rfl) (Nat.le_of_ble_eq_true rfl) (Nat.le_of_ble_eq_true rfl) dL_law_0 (fun g0 H hP hD hS => ?_)
  have hP : va_P D vwCl [(g0, .inr (7, [.null, .null, .null, .null, .null, .null, .null, .int 0, .int 0]))] H := hP
  have hD : va_D (fun q : Nat => s.heap.size ≤ q) [(g0, .inr (7, [.null, .null, .null, .null, .null, .null, .null, .int 0, .int 0]))] := hD
  refine lv_dup hx hb dL_law_3 rfl ?_
  have hPc := hP.sub (ws' := [(g0, .inr (7, [.null, .null, .null, .null, .null, .null, .null, .int 0, .int 0]))]) [0] rfl
  have hDc := hD.sub (ws' := [(g0, .inr (7, [.null, .null, .null, .null, .null, .null, .null, .int 0, .int 0]))]) [0] (by decide) rfl
  have hFc := va_free (wc := [(g0, .inr (7, [.null, .null, .null, .null, .null, .null, .null, .int 0, .int 0]))]) hD hS hA [0] rfl
  refine va_callv (va_runI (As := []) (rest := [.ref g0]) ⟨hx, hb, hml, hown, hts⟩ (ciX8 l D cI cB cZ g0 H.size) (cwI 0 hts gL_law_X8_init rfl rfl rfl (hts0 _ (mt1 (List.mem_of_getElem? (i := 1) rfl))) (hts0 _ (mt1 (List.mem_of_getElem? (i := 18) rfl))) (hts0 _ (mt1 (List.mem_of_getElem? (i := 19) rfl))) rfl (by decide +kernel) ⟨(Nat.le_of_ble_eq_true rfl), (Nat.le_of_ble_eq_true rfl)⟩) ⟨PC_fb, fun U hU hW => ⟨rfl, by rw [hU], by rw [hU]; exact hPc, va_K.moved hW.alike hK, hDc.weaken (fun _ _ _ _ => trivial)⟩⟩ rfl rfl hl.1 rfl (lv_room (Nat.le_of_ble_eq_true rfl)) dL_law_4 ⟨(Nat.le_of_ble_eq_true rfl), (Nat.le_of_ble_eq_true rfl)⟩) hS (fun q _ h => hFc q h) hFc (fun u t H1 locs ht hvm _ hB hz1 hk1 hS => ?_)
  obtain ⟨hP1, hD1⟩ := hB
  rw [ht] at hP1
  generalize u = ua at hP1 hD1
  replace hP1 : va_P D vwCl [(g0, .inr (7, [.ref (ua 0), .ref (ua 5), .ref (ua 8), .ref (ua 10), .ref (ua 12), .ref (ua 16), .ref (ua 18), .int 0, .int 0])), ((ua 0), .inr (1, [.ref (ua 1), .ref (ua 2), .ref (ua 3), .ref (ua 4), .int 1, .int 0])), ((ua 1), .inl (cI, 60, .inl (upd z0 (0 : Int32).toNatClampNeg (-1)))), ((ua 2), .inl (cI, 60, .inl (upd z0 (0 : Int32).toNatClampNeg 0))), ((ua 3), .inl (cZ, 60, .inl (upd z0 (0 : Int32).toNatClampNeg (vp_nar .boolean 0)))), ((ua 4), .inl (cI, 3600, .inl z0)), ((ua 5), .inr (6, [.ref (ua 0), .ref (ua 6), .int 0, .ref (ua 7)])), ((ua 6), .inl (cI, 60, .inl z0)), ((ua 7), .inl (cI, 60, .inl z0)), ((ua 8), .inr (0, [.ref (ua 0), .ref (ua 9)])), ((ua 9), .inl (cI, 60, .inl z0)), ((ua 10), .inr (5, [.ref (ua 11), .int (0 : Int32)])), ((ua 11), .inl (cB, 120, .inl z0)), ((ua 12), .inr (3, [.ref (ua 13), .ref (ua 14), .ref (ua 15), .int 0, .ref (ua 10), .int 0, .int 0, .int 0])), ((ua 13), .inl (cI, 30, .inl z0)), ((ua 14), .inl (cI, 30, .inl z0)), ((ua 15), .inl (cI, 30, .inl z0)), ((ua 16), .inr (2, [.ref (ua 17), .int (0 : Int32)])), ((ua 17), .inl (cB, 400, .inl z0)), ((ua 18), .inr (4, [.ref (ua 0), .ref (ua 5), .ref (ua 8), .ref (ua 16)]))] H1 := hP1
  replace hD1 : va_D (va_A [(g0, .inr (7, [.null, .null, .null, .null, .null, .null, .null, .int 0, .int 0]))] H.size) [(g0, .inr (7, [.ref (ua 0), .ref (ua 5), .ref (ua 8), .ref (ua 10), .ref (ua 12), .ref (ua 16), .ref (ua 18), .int 0, .int 0])), ((ua 0), .inr (1, [.ref (ua 1), .ref (ua 2), .ref (ua 3), .ref (ua 4), .int 1, .int 0])), ((ua 1), .inl (cI, 60, .inl (upd z0 (0 : Int32).toNatClampNeg (-1)))), ((ua 2), .inl (cI, 60, .inl (upd z0 (0 : Int32).toNatClampNeg 0))), ((ua 3), .inl (cZ, 60, .inl (upd z0 (0 : Int32).toNatClampNeg (vp_nar .boolean 0)))), ((ua 4), .inl (cI, 3600, .inl z0)), ((ua 5), .inr (6, [.ref (ua 0), .ref (ua 6), .int 0, .ref (ua 7)])), ((ua 6), .inl (cI, 60, .inl z0)), ((ua 7), .inl (cI, 60, .inl z0)), ((ua 8), .inr (0, [.ref (ua 0), .ref (ua 9)])), ((ua 9), .inl (cI, 60, .inl z0)), ((ua 10), .inr (5, [.ref (ua 11), .int (0 : Int32)])), ((ua 11), .inl (cB, 120, .inl z0)), ((ua 12), .inr (3, [.ref (ua 13), .ref (ua 14), .ref (ua 15), .int 0, .ref (ua 10), .int 0, .int 0, .int 0])), ((ua 13), .inl (cI, 30, .inl z0)), ((ua 14), .inl (cI, 30, .inl z0)), ((ua 15), .inl (cI, 30, .inl z0)), ((ua 16), .inr (2, [.ref (ua 17), .int (0 : Int32)])), ((ua 17), .inl (cB, 400, .inl z0)), ((ua 18), .inr (4, [.ref (ua 0), .ref (ua 5), .ref (ua 8), .ref (ua 16)]))] := hD1
  obtain ⟨hP, hD⟩ := va_join (wr := []) (w1 := [(g0, .inr (7, [.ref (ua 0), .ref (ua 5), .ref (ua 8), .ref (ua 10), .ref (ua 12), .ref (ua 16), .ref (ua 18), .int 0, .int 0])), ((ua 0), .inr (1, [.ref (ua 1), .ref (ua 2), .ref (ua 3), .ref (ua 4), .int 1, .int 0])), ((ua 1), .inl (cI, 60, .inl (upd z0 (0 : Int32).toNatClampNeg (-1)))), ((ua 2), .inl (cI, 60, .inl (upd z0 (0 : Int32).toNatClampNeg 0))), ((ua 3), .inl (cZ, 60, .inl (upd z0 (0 : Int32).toNatClampNeg (vp_nar .boolean 0)))), ((ua 4), .inl (cI, 3600, .inl z0)), ((ua 5), .inr (6, [.ref (ua 0), .ref (ua 6), .int 0, .ref (ua 7)])), ((ua 6), .inl (cI, 60, .inl z0)), ((ua 7), .inl (cI, 60, .inl z0)), ((ua 8), .inr (0, [.ref (ua 0), .ref (ua 9)])), ((ua 9), .inl (cI, 60, .inl z0)), ((ua 10), .inr (5, [.ref (ua 11), .int (0 : Int32)])), ((ua 11), .inl (cB, 120, .inl z0)), ((ua 12), .inr (3, [.ref (ua 13), .ref (ua 14), .ref (ua 15), .int 0, .ref (ua 10), .int 0, .int 0, .int 0])), ((ua 13), .inl (cI, 30, .inl z0)), ((ua 14), .inl (cI, 30, .inl z0)), ((ua 15), .inl (cI, 30, .inl z0)), ((ua 16), .inr (2, [.ref (ua 17), .int (0 : Int32)])), ((ua 17), .inl (cB, 400, .inl z0)), ((ua 18), .inr (4, [.ref (ua 0), .ref (ua 5), .ref (ua 8), .ref (ua 16)]))]) hP hD [0] [] rfl rfl (by decide) (by decide) hk1 hFc hP1 hD1
  generalize H1 = H at hP hS ⊢
  have hP : va_P D vwCl [(g0, .inr (7, [.ref (ua 0), .ref (ua 5), .ref (ua 8), .ref (ua 10), .ref (ua 12), .ref (ua 16), .ref (ua 18), .int 0, .int 0])), ((ua 0), .inr (1, [.ref (ua 1), .ref (ua 2), .ref (ua 3), .ref (ua 4), .int 1, .int 0])), ((ua 1), .inl (cI, 60, .inl (upd z0 (0 : Int32).toNatClampNeg (-1)))), ((ua 2), .inl (cI, 60, .inl (upd z0 (0 : Int32).toNatClampNeg 0))), ((ua 3), .inl (cZ, 60, .inl (upd z0 (0 : Int32).toNatClampNeg (vp_nar .boolean 0)))), ((ua 4), .inl (cI, 3600, .inl z0)), ((ua 5), .inr (6, [.ref (ua 0), .ref (ua 6), .int 0, .ref (ua 7)])), ((ua 6), .inl (cI, 60, .inl z0)), ((ua 7), .inl (cI, 60, .inl z0)), ((ua 8), .inr (0, [.ref (ua 0), .ref (ua 9)])), ((ua 9), .inl (cI, 60, .inl z0)), ((ua 10), .inr (5, [.ref (ua 11), .int (0 : Int32)])), ((ua 11), .inl (cB, 120, .inl z0)), ((ua 12), .inr (3, [.ref (ua 13), .ref (ua 14), .ref (ua 15), .int 0, .ref (ua 10), .int 0, .int 0, .int 0])), ((ua 13), .inl (cI, 30, .inl z0)), ((ua 14), .inl (cI, 30, .inl z0)), ((ua 15), .inl (cI, 30, .inl z0)), ((ua 16), .inr (2, [.ref (ua 17), .int (0 : Int32)])), ((ua 17), .inl (cB, 400, .inl z0)), ((ua 18), .inr (4, [.ref (ua 0), .ref (ua 5), .ref (ua 8), .ref (ua 16)]))] H := hP
  have hD : va_D (fun q : Nat => s.heap.size ≤ q) [(g0, .inr (7, [.ref (ua 0), .ref (ua 5), .ref (ua 8), .ref (ua 10), .ref (ua 12), .ref (ua 16), .ref (ua 18), .int 0, .int 0])), ((ua 0), .inr (1, [.ref (ua 1), .ref (ua 2), .ref (ua 3), .ref (ua 4), .int 1, .int 0])), ((ua 1), .inl (cI, 60, .inl (upd z0 (0 : Int32).toNatClampNeg (-1)))), ((ua 2), .inl (cI, 60, .inl (upd z0 (0 : Int32).toNatClampNeg 0))), ((ua 3), .inl (cZ, 60, .inl (upd z0 (0 : Int32).toNatClampNeg (vp_nar .boolean 0)))), ((ua 4), .inl (cI, 3600, .inl z0)), ((ua 5), .inr (6, [.ref (ua 0), .ref (ua 6), .int 0, .ref (ua 7)])), ((ua 6), .inl (cI, 60, .inl z0)), ((ua 7), .inl (cI, 60, .inl z0)), ((ua 8), .inr (0, [.ref (ua 0), .ref (ua 9)])), ((ua 9), .inl (cI, 60, .inl z0)), ((ua 10), .inr (5, [.ref (ua 11), .int (0 : Int32)])), ((ua 11), .inl (cB, 120, .inl z0)), ((ua 12), .inr (3, [.ref (ua 13), .ref (ua 14), .ref (ua 15), .int 0, .ref (ua 10), .int 0, .int 0, .int 0])), ((ua 13), .inl (cI, 30, .inl z0)), ((ua 14), .inl (cI, 30, .inl z0)), ((ua 15), .inl (cI, 30, .inl z0)), ((ua 16), .inr (2, [.ref (ua 17), .int (0 : Int32)])), ((ua 17), .inl (cB, 400, .inl z0)), ((ua 18), .inr (4, [.ref (ua 0), .ref (ua 5), .ref (ua 8), .ref (ua 16)]))] := hD
  refine lv_astore_n (lv' := [(1, .ref g0), (0, .ref b)]) hx hb dL_law_7 rfl hl (by decide) rfl (fun ls hl => ?_)
  refine va_new (ci := 8) (fs := [.int 0, .null, .null, .null, .int 0, .int 0, .int 0, .null, .int 0, .null, .int 0, .null, .null, .int 0, .int 0, .int 0, .int 0, .int 0, .int 0, .int 0, .null, .int 0]) (C := RX9) (T := TX9) (N := 22) hx hb hts0 inX9 tyX9 tyX9_ok hown (hts0 _ (mt3 (List.mem_of_getElem? (i := 165) rfl))) (hts0 _ (mt3 (List.mem_of_getElem? (i := 166) rfl))) (hts0 _ (mt1 (List.mem_of_getElem? (i := 9) rfl))) hK hP hD hS hA rfl (fun j hj => by rcases (show j = 0 ∨ j = 1 ∨ j = 2 ∨ j = 3 ∨ j = 4 ∨ j = 5 ∨ j = 6 ∨ j = 7 ∨ j = 8 ∨ j = 9 ∨ j = 10 ∨ j = 11 ∨ j = 12 ∨ j = 13 ∨ j = 14 ∨ j = 15 ∨ j = 16 ∨ j = 17 ∨ j = 18 ∨ j = 19 ∨ j = 20 ∨ j = 21 by omega) with rfl | rfl | rfl | rfl | rfl | rfl | rfl | rfl | rfl | rfl | rfl | rfl | rfl | rfl | rfl | rfl | rfl | rfl | rfl | rfl | rfl | rfl <;> rfl) (Nat.le_of_ble_eq_true rfl) (Nat.le_of_ble_eq_true rfl) dL_law_8 (fun g1 H hP hD hS => ?_)
  have hP : va_P D vwCl [(g0, .inr (7, [.ref (ua 0), .ref (ua 5), .ref (ua 8), .ref (ua 10), .ref (ua 12), .ref (ua 16), .ref (ua 18), .int 0, .int 0])), ((ua 0), .inr (1, [.ref (ua 1), .ref (ua 2), .ref (ua 3), .ref (ua 4), .int 1, .int 0])), ((ua 1), .inl (cI, 60, .inl (upd z0 (0 : Int32).toNatClampNeg (-1)))), ((ua 2), .inl (cI, 60, .inl (upd z0 (0 : Int32).toNatClampNeg 0))), ((ua 3), .inl (cZ, 60, .inl (upd z0 (0 : Int32).toNatClampNeg (vp_nar .boolean 0)))), ((ua 4), .inl (cI, 3600, .inl z0)), ((ua 5), .inr (6, [.ref (ua 0), .ref (ua 6), .int 0, .ref (ua 7)])), ((ua 6), .inl (cI, 60, .inl z0)), ((ua 7), .inl (cI, 60, .inl z0)), ((ua 8), .inr (0, [.ref (ua 0), .ref (ua 9)])), ((ua 9), .inl (cI, 60, .inl z0)), ((ua 10), .inr (5, [.ref (ua 11), .int (0 : Int32)])), ((ua 11), .inl (cB, 120, .inl z0)), ((ua 12), .inr (3, [.ref (ua 13), .ref (ua 14), .ref (ua 15), .int 0, .ref (ua 10), .int 0, .int 0, .int 0])), ((ua 13), .inl (cI, 30, .inl z0)), ((ua 14), .inl (cI, 30, .inl z0)), ((ua 15), .inl (cI, 30, .inl z0)), ((ua 16), .inr (2, [.ref (ua 17), .int (0 : Int32)])), ((ua 17), .inl (cB, 400, .inl z0)), ((ua 18), .inr (4, [.ref (ua 0), .ref (ua 5), .ref (ua 8), .ref (ua 16)])), (g1, .inr (8, [.int 0, .null, .null, .null, .int 0, .int 0, .int 0, .null, .int 0, .null, .int 0, .null, .null, .int 0, .int 0, .int 0, .int 0, .int 0, .int 0, .int 0, .null, .int 0]))] H := hP
  have hD : va_D (fun q : Nat => s.heap.size ≤ q) [(g0, .inr (7, [.ref (ua 0), .ref (ua 5), .ref (ua 8), .ref (ua 10), .ref (ua 12), .ref (ua 16), .ref (ua 18), .int 0, .int 0])), ((ua 0), .inr (1, [.ref (ua 1), .ref (ua 2), .ref (ua 3), .ref (ua 4), .int 1, .int 0])), ((ua 1), .inl (cI, 60, .inl (upd z0 (0 : Int32).toNatClampNeg (-1)))), ((ua 2), .inl (cI, 60, .inl (upd z0 (0 : Int32).toNatClampNeg 0))), ((ua 3), .inl (cZ, 60, .inl (upd z0 (0 : Int32).toNatClampNeg (vp_nar .boolean 0)))), ((ua 4), .inl (cI, 3600, .inl z0)), ((ua 5), .inr (6, [.ref (ua 0), .ref (ua 6), .int 0, .ref (ua 7)])), ((ua 6), .inl (cI, 60, .inl z0)), ((ua 7), .inl (cI, 60, .inl z0)), ((ua 8), .inr (0, [.ref (ua 0), .ref (ua 9)])), ((ua 9), .inl (cI, 60, .inl z0)), ((ua 10), .inr (5, [.ref (ua 11), .int (0 : Int32)])), ((ua 11), .inl (cB, 120, .inl z0)), ((ua 12), .inr (3, [.ref (ua 13), .ref (ua 14), .ref (ua 15), .int 0, .ref (ua 10), .int 0, .int 0, .int 0])), ((ua 13), .inl (cI, 30, .inl z0)), ((ua 14), .inl (cI, 30, .inl z0)), ((ua 15), .inl (cI, 30, .inl z0)), ((ua 16), .inr (2, [.ref (ua 17), .int (0 : Int32)])), ((ua 17), .inl (cB, 400, .inl z0)), ((ua 18), .inr (4, [.ref (ua 0), .ref (ua 5), .ref (ua 8), .ref (ua 16)])), (g1, .inr (8, [.int 0, .null, .null, .null, .int 0, .int 0, .int 0, .null, .int 0, .null, .int 0, .null, .null, .int 0, .int 0, .int 0, .int 0, .int 0, .int 0, .int 0, .null, .int 0]))] := hD
  refine lv_dup hx hb dL_law_11 rfl ?_
  have hPc := hP.sub (ws' := [(g1, .inr (8, [.int 0, .null, .null, .null, .int 0, .int 0, .int 0, .null, .int 0, .null, .int 0, .null, .null, .int 0, .int 0, .int 0, .int 0, .int 0, .int 0, .int 0, .null, .int 0]))]) [20] rfl
  have hDc := hD.sub (ws' := [(g1, .inr (8, [.int 0, .null, .null, .null, .int 0, .int 0, .int 0, .null, .int 0, .null, .int 0, .null, .null, .int 0, .int 0, .int 0, .int 0, .int 0, .int 0, .int 0, .null, .int 0]))]) [20] (by decide) rfl
  have hFc := va_free (wc := [(g1, .inr (8, [.int 0, .null, .null, .null, .int 0, .int 0, .int 0, .null, .int 0, .null, .int 0, .null, .null, .int 0, .int 0, .int 0, .int 0, .int 0, .int 0, .int 0, .null, .int 0]))]) hD hS hA [20] rfl
  refine va_callv (va_runI (As := []) (rest := [.ref g1]) ⟨hx, hb, hml, hown, hts⟩ (ciX9 l D cI cB cZ g1 H.size) (cwI 0 hts gL_law_X9_init rfl rfl rfl (hts0 _ (mt1 (List.mem_of_getElem? (i := 9) rfl))) (hts0 _ (mt3 (List.mem_of_getElem? (i := 167) rfl))) (hts0 _ (mt3 (List.mem_of_getElem? (i := 168) rfl))) rfl (by decide +kernel) ⟨(Nat.le_of_ble_eq_true rfl), (Nat.le_of_ble_eq_true rfl)⟩) ⟨PC_fb, fun U hU hW => ⟨rfl, by rw [hU], by rw [hU]; exact hPc, va_K.moved hW.alike hK, hDc.weaken (fun _ _ _ _ => trivial)⟩⟩ rfl rfl hl.1 rfl (lv_room (Nat.le_of_ble_eq_true rfl)) dL_law_12 ⟨(Nat.le_of_ble_eq_true rfl), (Nat.le_of_ble_eq_true rfl)⟩) hS (fun q _ h => hFc q h) hFc (fun u t H1 locs ht hvm _ hB hz1 hk1 hS => ?_)
  obtain ⟨hP1, hD1⟩ := hB
  rw [ht] at hP1
  generalize u = ub at hP1 hD1
  replace hP1 : va_P D vwCl [(g1, .inr (8, [.int (1 : Int32), .ref (ub 0), .ref (ub 1), .ref (ub 2), .int 0, .int 0, .int 0, .ref (ub 3), .int 0, .ref (ub 4), .int 0, .ref (ub 5), .ref (ub 6), .int 0, .int 0, .int 0, .int 0, .int 0, .int 0, .int 0, .ref (ub 7), .int 0])), ((ub 0), .inl (cI, 60, .inl (upd z0 (0 : Int32).toNatClampNeg (-1 : Int32)))), ((ub 1), .inl (cI, 60, .inl z0)), ((ub 2), .inl (cZ, 60, .inl z0)), ((ub 3), .inl (cI, 120, .inl z0)), ((ub 4), .inl (cI, 400, .inl z0)), ((ub 5), .inl (cI, 60, .inl z0)), ((ub 6), .inl (cI, 60, .inl z0)), ((ub 7), .inl (cI, 2, .inl z0))] H1 := hP1
  replace hD1 : va_D (va_A [(g1, .inr (8, [.int 0, .null, .null, .null, .int 0, .int 0, .int 0, .null, .int 0, .null, .int 0, .null, .null, .int 0, .int 0, .int 0, .int 0, .int 0, .int 0, .int 0, .null, .int 0]))] H.size) [(g1, .inr (8, [.int (1 : Int32), .ref (ub 0), .ref (ub 1), .ref (ub 2), .int 0, .int 0, .int 0, .ref (ub 3), .int 0, .ref (ub 4), .int 0, .ref (ub 5), .ref (ub 6), .int 0, .int 0, .int 0, .int 0, .int 0, .int 0, .int 0, .ref (ub 7), .int 0])), ((ub 0), .inl (cI, 60, .inl (upd z0 (0 : Int32).toNatClampNeg (-1 : Int32)))), ((ub 1), .inl (cI, 60, .inl z0)), ((ub 2), .inl (cZ, 60, .inl z0)), ((ub 3), .inl (cI, 120, .inl z0)), ((ub 4), .inl (cI, 400, .inl z0)), ((ub 5), .inl (cI, 60, .inl z0)), ((ub 6), .inl (cI, 60, .inl z0)), ((ub 7), .inl (cI, 2, .inl z0))] := hD1
  obtain ⟨hP, hD⟩ := va_join (wr := [(g0, .inr (7, [.ref (ua 0), .ref (ua 5), .ref (ua 8), .ref (ua 10), .ref (ua 12), .ref (ua 16), .ref (ua 18), .int 0, .int 0])), ((ua 0), .inr (1, [.ref (ua 1), .ref (ua 2), .ref (ua 3), .ref (ua 4), .int 1, .int 0])), ((ua 1), .inl (cI, 60, .inl (upd z0 (0 : Int32).toNatClampNeg (-1)))), ((ua 2), .inl (cI, 60, .inl (upd z0 (0 : Int32).toNatClampNeg 0))), ((ua 3), .inl (cZ, 60, .inl (upd z0 (0 : Int32).toNatClampNeg (vp_nar .boolean 0)))), ((ua 4), .inl (cI, 3600, .inl z0)), ((ua 5), .inr (6, [.ref (ua 0), .ref (ua 6), .int 0, .ref (ua 7)])), ((ua 6), .inl (cI, 60, .inl z0)), ((ua 7), .inl (cI, 60, .inl z0)), ((ua 8), .inr (0, [.ref (ua 0), .ref (ua 9)])), ((ua 9), .inl (cI, 60, .inl z0)), ((ua 10), .inr (5, [.ref (ua 11), .int (0 : Int32)])), ((ua 11), .inl (cB, 120, .inl z0)), ((ua 12), .inr (3, [.ref (ua 13), .ref (ua 14), .ref (ua 15), .int 0, .ref (ua 10), .int 0, .int 0, .int 0])), ((ua 13), .inl (cI, 30, .inl z0)), ((ua 14), .inl (cI, 30, .inl z0)), ((ua 15), .inl (cI, 30, .inl z0)), ((ua 16), .inr (2, [.ref (ua 17), .int (0 : Int32)])), ((ua 17), .inl (cB, 400, .inl z0)), ((ua 18), .inr (4, [.ref (ua 0), .ref (ua 5), .ref (ua 8), .ref (ua 16)]))]) (w1 := [(g1, .inr (8, [.int (1 : Int32), .ref (ub 0), .ref (ub 1), .ref (ub 2), .int 0, .int 0, .int 0, .ref (ub 3), .int 0, .ref (ub 4), .int 0, .ref (ub 5), .ref (ub 6), .int 0, .int 0, .int 0, .int 0, .int 0, .int 0, .int 0, .ref (ub 7), .int 0])), ((ub 0), .inl (cI, 60, .inl (upd z0 (0 : Int32).toNatClampNeg (-1 : Int32)))), ((ub 1), .inl (cI, 60, .inl z0)), ((ub 2), .inl (cZ, 60, .inl z0)), ((ub 3), .inl (cI, 120, .inl z0)), ((ub 4), .inl (cI, 400, .inl z0)), ((ub 5), .inl (cI, 60, .inl z0)), ((ub 6), .inl (cI, 60, .inl z0)), ((ub 7), .inl (cI, 2, .inl z0))]) hP hD [20] [0, 1, 2, 3, 4, 5, 6, 7, 8, 9, 10, 11, 12, 13, 14, 15, 16, 17, 18, 19] rfl rfl (by decide) (by decide) hk1 hFc hP1 hD1
  generalize H1 = H at hP hS ⊢
  have hP : va_P D vwCl [(g0, .inr (7, [.ref (ua 0), .ref (ua 5), .ref (ua 8), .ref (ua 10), .ref (ua 12), .ref (ua 16), .ref (ua 18), .int 0, .int 0])), ((ua 0), .inr (1, [.ref (ua 1), .ref (ua 2), .ref (ua 3), .ref (ua 4), .int 1, .int 0])), ((ua 1), .inl (cI, 60, .inl (upd z0 (0 : Int32).toNatClampNeg (-1)))), ((ua 2), .inl (cI, 60, .inl (upd z0 (0 : Int32).toNatClampNeg 0))), ((ua 3), .inl (cZ, 60, .inl (upd z0 (0 : Int32).toNatClampNeg (vp_nar .boolean 0)))), ((ua 4), .inl (cI, 3600, .inl z0)), ((ua 5), .inr (6, [.ref (ua 0), .ref (ua 6), .int 0, .ref (ua 7)])), ((ua 6), .inl (cI, 60, .inl z0)), ((ua 7), .inl (cI, 60, .inl z0)), ((ua 8), .inr (0, [.ref (ua 0), .ref (ua 9)])), ((ua 9), .inl (cI, 60, .inl z0)), ((ua 10), .inr (5, [.ref (ua 11), .int (0 : Int32)])), ((ua 11), .inl (cB, 120, .inl z0)), ((ua 12), .inr (3, [.ref (ua 13), .ref (ua 14), .ref (ua 15), .int 0, .ref (ua 10), .int 0, .int 0, .int 0])), ((ua 13), .inl (cI, 30, .inl z0)), ((ua 14), .inl (cI, 30, .inl z0)), ((ua 15), .inl (cI, 30, .inl z0)), ((ua 16), .inr (2, [.ref (ua 17), .int (0 : Int32)])), ((ua 17), .inl (cB, 400, .inl z0)), ((ua 18), .inr (4, [.ref (ua 0), .ref (ua 5), .ref (ua 8), .ref (ua 16)])), (g1, .inr (8, [.int (1 : Int32), .ref (ub 0), .ref (ub 1), .ref (ub 2), .int 0, .int 0, .int 0, .ref (ub 3), .int 0, .ref (ub 4), .int 0, .ref (ub 5), .ref (ub 6), .int 0, .int 0, .int 0, .int 0, .int 0, .int 0, .int 0, .ref (ub 7), .int 0])), ((ub 0), .inl (cI, 60, .inl (upd z0 (0 : Int32).toNatClampNeg (-1 : Int32)))), ((ub 1), .inl (cI, 60, .inl z0)), ((ub 2), .inl (cZ, 60, .inl z0)), ((ub 3), .inl (cI, 120, .inl z0)), ((ub 4), .inl (cI, 400, .inl z0)), ((ub 5), .inl (cI, 60, .inl z0)), ((ub 6), .inl (cI, 60, .inl z0)), ((ub 7), .inl (cI, 2, .inl z0))] H := hP
  have hD : va_D (fun q : Nat => s.heap.size ≤ q) [(g0, .inr (7, [.ref (ua 0), .ref (ua 5), .ref (ua 8), .ref (ua 10), .ref (ua 12), .ref (ua 16), .ref (ua 18), .int 0, .int 0])), ((ua 0), .inr (1, [.ref (ua 1), .ref (ua 2), .ref (ua 3), .ref (ua 4), .int 1, .int 0])), ((ua 1), .inl (cI, 60, .inl (upd z0 (0 : Int32).toNatClampNeg (-1)))), ((ua 2), .inl (cI, 60, .inl (upd z0 (0 : Int32).toNatClampNeg 0))), ((ua 3), .inl (cZ, 60, .inl (upd z0 (0 : Int32).toNatClampNeg (vp_nar .boolean 0)))), ((ua 4), .inl (cI, 3600, .inl z0)), ((ua 5), .inr (6, [.ref (ua 0), .ref (ua 6), .int 0, .ref (ua 7)])), ((ua 6), .inl (cI, 60, .inl z0)), ((ua 7), .inl (cI, 60, .inl z0)), ((ua 8), .inr (0, [.ref (ua 0), .ref (ua 9)])), ((ua 9), .inl (cI, 60, .inl z0)), ((ua 10), .inr (5, [.ref (ua 11), .int (0 : Int32)])), ((ua 11), .inl (cB, 120, .inl z0)), ((ua 12), .inr (3, [.ref (ua 13), .ref (ua 14), .ref (ua 15), .int 0, .ref (ua 10), .int 0, .int 0, .int 0])), ((ua 13), .inl (cI, 30, .inl z0)), ((ua 14), .inl (cI, 30, .inl z0)), ((ua 15), .inl (cI, 30, .inl z0)), ((ua 16), .inr (2, [.ref (ua 17), .int (0 : Int32)])), ((ua 17), .inl (cB, 400, .inl z0)), ((ua 18), .inr (4, [.ref (ua 0), .ref (ua 5), .ref (ua 8), .ref (ua 16)])), (g1, .inr (8, [.int (1 : Int32), .ref (ub 0), .ref (ub 1), .ref (ub 2), .int 0, .int 0, .int 0, .ref (ub 3), .int 0, .ref (ub 4), .int 0, .ref (ub 5), .ref (ub 6), .int 0, .int 0, .int 0, .int 0, .int 0, .int 0, .int 0, .ref (ub 7), .int 0])), ((ub 0), .inl (cI, 60, .inl (upd z0 (0 : Int32).toNatClampNeg (-1 : Int32)))), ((ub 1), .inl (cI, 60, .inl z0)), ((ub 2), .inl (cZ, 60, .inl z0)), ((ub 3), .inl (cI, 120, .inl z0)), ((ub 4), .inl (cI, 400, .inl z0)), ((ub 5), .inl (cI, 60, .inl z0)), ((ub 6), .inl (cI, 60, .inl z0)), ((ub 7), .inl (cI, 2, .inl z0))] := hD
  refine lv_astore_n (lv' := [(2, .ref g1), (1, .ref g0), (0, .ref b)]) hx hb dL_law_15 rfl hl (by decide) rfl (fun ls hl => ?_)
  refine lv_iconst (v := 0) hx hb dL_law_16 (by decide) ?_
  refine lv_istore_n (lv' := [(3, .int 0), (2, .ref g1), (1, .ref g0), (0, .ref b)]) hx hb dL_law_17 rfl hl (by decide) rfl (fun ls hl => ?_)
  have hPC : va_P D vwCl (wC cI cB cZ (fun i => [g0, (ua 0), (ua 1), (ua 2), (ua 3), (ua 4), (ua 5), (ua 6), (ua 7), (ua 8), (ua 9), (ua 10), (ua 11), (ua 12), (ua 13), (ua 14), (ua 15), (ua 16), (ua 17), (ua 18)].getD i 0) 0 0 1 0 0 0 0 0 0 0 0 (upd z0 (0 : Int32).toNatClampNeg (-1)) (upd z0 (0 : Int32).toNatClampNeg 0) (upd z0 (0 : Int32).toNatClampNeg (vp_nar .boolean 0)) z0 z0 z0 z0 z0 z0 z0 z0 z0) H := hP.sub [0, 1, 2, 3, 4, 5, 6, 7, 8, 9, 10, 11, 12, 13, 14, 15, 16, 17, 18, 19] rfl
  have hPM : va_P D vwCl (wM cI cB cZ (fun i => [g1, (ub 0), (ub 1), (ub 2), (ub 3), (ub 4), (ub 5), (ub 6), (ub 7)].getD i 0) (1 : Int32) 0 0 0 0 0 0 0 0 0 0 0 0 0 (upd z0 (0 : Int32).toNatClampNeg (-1 : Int32)) z0 z0 z0 z0 z0 z0 z0) H := hP.sub [20, 21, 22, 23, 24, 25, 26, 27, 28] rfl
  have hDC : va_D (fun q : Nat => s.heap.size ≤ q) (wC cI cB cZ (fun i => [g0, (ua 0), (ua 1), (ua 2), (ua 3), (ua 4), (ua 5), (ua 6), (ua 7), (ua 8), (ua 9), (ua 10), (ua 11), (ua 12), (ua 13), (ua 14), (ua 15), (ua 16), (ua 17), (ua 18)].getD i 0) 0 0 1 0 0 0 0 0 0 0 0 (upd z0 (0 : Int32).toNatClampNeg (-1)) (upd z0 (0 : Int32).toNatClampNeg 0) (upd z0 (0 : Int32).toNatClampNeg (vp_nar .boolean 0)) z0 z0 z0 z0 z0 z0 z0 z0 z0) := hD.sub [0, 1, 2, 3, 4, 5, 6, 7, 8, 9, 10, 11, 12, 13, 14, 15, 16, 17, 18, 19] (by decide) rfl
  have hDM : va_D (fun q : Nat => s.heap.size ≤ q) (wM cI cB cZ (fun i => [g1, (ub 0), (ub 1), (ub 2), (ub 3), (ub 4), (ub 5), (ub 6), (ub 7)].getD i 0) (1 : Int32) 0 0 0 0 0 0 0 0 0 0 0 0 0 (upd z0 (0 : Int32).toNatClampNeg (-1 : Int32)) z0 z0 z0 z0 z0 z0 z0) := hD.sub [20, 21, 22, 23, 24, 25, 26, 27, 28] (by decide) rfl
  have hDD : va_D (fun q : Nat => s.heap.size ≤ q) (wC cI cB cZ (fun i => [g0, (ua 0), (ua 1), (ua 2), (ua 3), (ua 4), (ua 5), (ua 6), (ua 7), (ua 8), (ua 9), (ua 10), (ua 11), (ua 12), (ua 13), (ua 14), (ua 15), (ua 16), (ua 17), (ua 18)].getD i 0) 0 0 1 0 0 0 0 0 0 0 0 (upd z0 (0 : Int32).toNatClampNeg (-1)) (upd z0 (0 : Int32).toNatClampNeg 0) (upd z0 (0 : Int32).toNatClampNeg (vp_nar .boolean 0)) z0 z0 z0 z0 z0 z0 z0 z0 z0 ++ wM cI cB cZ (fun i => [g1, (ub 0), (ub 1), (ub 2), (ub 3), (ub 4), (ub 5), (ub 6), (ub 7)].getD i 0) (1 : Int32) 0 0 0 0 0 0 0 0 0 0 0 0 0 (upd z0 (0 : Int32).toNatClampNeg (-1 : Int32)) z0 z0 z0 z0 z0 z0 z0) := hD.sub [0, 1, 2, 3, 4, 5, 6, 7, 8, 9, 10, 11, 12, 13, 14, 15, 16, 17, 18, 19, 20, 21, 22, 23, 24, 25, 26, 27, 28] (by decide) rfl
  have hAD := D_AD hDC (ad := (fun i => [g0, (ua 0), (ua 1), (ua 2), (ua 3), (ua 4), (ua 5), (ua 6), (ua 7), (ua 8), (ua 9), (ua 10), (ua 11), (ua 12), (ua 13), (ua 14), (ua 15), (ua 16), (ua 17), (ua 18)].getD i 0)) (n := 20) rfl
  have hBD := D_AD hDM (ad := (fun i => [g1, (ub 0), (ub 1), (ub 2), (ub 3), (ub 4), (ub 5), (ub 6), (ub 7)].getD i 0)) (n := 9) rfl
  have hcat := D_AD hDD (ad := fun i => if i < 20 then (fun i => [g0, (ua 0), (ua 1), (ua 2), (ua 3), (ua 4), (ua 5), (ua 6), (ua 7), (ua 8), (ua 9), (ua 10), (ua 11), (ua 12), (ua 13), (ua 14), (ua 15), (ua 16), (ua 17), (ua 18)].getD i 0) i else (fun i => [g1, (ub 0), (ub 1), (ub 2), (ub 3), (ub 4), (ub 5), (ub 6), (ub 7)].getD i 0) (i - 20)) (n := 29) rfl
  obtain ⟨ad, ead⟩ : ∃ ad : Nat → Nat, ad = (fun i => [g0, (ua 0), (ua 1), (ua 2), (ua 3), (ua 4), (ua 5), (ua 6), (ua 7), (ua 8), (ua 9), (ua 10), (ua 11), (ua 12), (ua 13), (ua 14), (ua 15), (ua 16), (ua 17), (ua 18)].getD i 0) := ⟨_, rfl⟩
  obtain ⟨bd, ebd⟩ : ∃ bd : Nat → Nat, bd = (fun i => [g1, (ub 0), (ub 1), (ub 2), (ub 3), (ub 4), (ub 5), (ub 6), (ub 7)].getD i 0) := ⟨_, rfl⟩
  rw [← ead] at hPC hAD hcat
  rw [← ebd] at hPM hBD hcat
  have e0 : g0 = ad 0 := by rw [ead]; rfl
  have e1 : g1 = bd 0 := by rw [ebd]; rfl
  have hdis : ∀ i j : Nat, i < 20 → j < 9 → ad i ≠ bd j := by
    intro i j hi hj he
    have h9 := hcat.1 i (20 + j) (by omega) (by omega) (by show (if i < 20 then ad i else bd (i - 20)) = (if 20 + j < 20 then ad (20 + j) else bd (20 + j - 20)); rw [if_pos hi, if_neg (by omega), Nat.add_sub_cancel_left]; exact he)
    omega
  subst e0
  subst e1
  exact law_loop (ad := ad) (bd := bd) hL C0 hK ⟨hAD.1, fun i hi => ⟨i, hi, rfl⟩⟩ ⟨hBD.1, fun i hi => ⟨i, hi, rfl⟩⟩ hdis (fun q h => by obtain ⟨i, hi, rfl⟩ := h; exact hAD.2 i hi) (fun q h => by obtain ⟨i, hi, rfl⟩ := h; exact hBD.2 i hi) hF (L + 4) 0 0 (by omega) (by omega) nI_0.symm 0 0 1 0 0 0 0 0 0 0 0 (upd z0 (0 : Int32).toNatClampNeg (-1)) (upd z0 (0 : Int32).toNatClampNeg 0) (upd z0 (0 : Int32).toNatClampNeg (vp_nar .boolean 0)) z0 z0 z0 z0 z0 z0 z0 z0 z0 (1 : Int32) 0 0 0 0 0 0 0 0 0 0 0 0 0 (upd z0 (0 : Int32).toNatClampNeg (-1 : Int32)) z0 z0 z0 z0 z0 z0 z0 rel_0 H locs hPC hPM hS ls (lv_sub hl [3, 2, 1, 0] rfl)
-- ===== YOUR PART ENDS =====
set_option maxHeartbeats 4000000 in
theorem lw_walk (l : Launch) (hflags : l.flags = flags0) (b : Addr) (xs : List Int32) : MetFree l x (headSpec (Jvm.Cond.code x code maxLocals ret :: tables_1) room_1) (lw_P b xs) (fun _ _ _ _ _ => True) lw_Q := by
  refine MetFree.of_bodyS (code := code) (maxLocals := maxLocals) (ret := ret) (by decide) ?_ ?_
  · intro args s m h hn
    obtain ⟨meth, c, h1, h2, h3, h4, h5, h6, -, -⟩ := Cond.code_spec hn (atoms_spec (ws := Jvm.Cond.code x code maxLocals ret :: tables_1) h _ List.mem_cons_self)
    exact ⟨meth, c, h1, h2, h3, h4, h5, h6⟩
  · intro p e s m args below meth c s₁ B hml0 hP _
    obtain ⟨rfl, hx, hbd, hgv⟩ := hP
    obtain ⟨scr, harrAt, hlist, hof, hsmall⟩ := hx
    obtain ⟨hcb, hkn, -, -⟩ := State.arrayAt?_spec harrAt
    have hown : s.vm.findClass R_law = some m.cls := findClass_of_methodNamed B.named
    have hts0 : ∀ c ∈ (Jvm.Cond.code x code maxLocals ret :: tables_1), c.before #[Value.ref b] s = true := atoms_spec (ws := Jvm.Cond.code x code maxLocals ret :: tables_1) B.pre
    have hts : ∀ w ∈ lw_tbl, w.before #[Value.ref b] s = true := k2_hts_sels lw_privs (fun w hw => hts0 w (List.mem_cons_of_mem _ hw)) lw_privs_ok
    have hml : c.maxLocals = 4 := B.maxLocals_eq (hts0 _ List.mem_cons_self)
    have X₀ : Stand p l e room_1 s m #[Value.ref b] below meth c s₁ [] 0 0 := Stand.of_body B
    have hh0 : s₁.heap = s.heap := by rw [B.state]; rfl
    have hsz : scr.slots.size = xs.length := by rw [← Array.length_toList, hlist, List.length_map]
    have hval : ∀ j : Nat, j < xs.length → scr.slots[j]? = some (.int (xs.getD j 0)) := fun j hj => by
      rw [← Array.getElem?_toList, hlist]
      simp [hj]
    have hbl : b < s.heap.size := (Array.getElem?_eq_some_iff.mp hcb).1
    have hX : va_X b xs.length (fun j => xs.getD j 0) s s.heap := ⟨scr, hcb, hof, hkn, hsz, hval⟩
    have K : W p l e room_1 s m #[Value.ref b] below meth c s₁.heap [] 0 0 (lw_Z below #[Value.ref b] s) (entryFrame m ([Value.ref b] : List Value).toArray 4) := by
      rw [hh0]
      exact whole_start l hflags hbd ⟨B.exec, B.bytes, B.returns, hml, hown, hts, hX, hbl, B.notSynchronized, hgv⟩
    obtain ⟨t, a1, o, b1, b2, b3⟩ := K s₁ rfl X₀
    exact ⟨t, o, a1, b1, b2, b3⟩
theorem lw_pre_spec {args : Array Value} {s : State} (h : (Jvm.Cond.and given_1 narrow_1).before args s = true) (hr : rest_1_c.before args s = true) : ∃ (b : Addr) (xs : List Int32), lw_P b xs args s := by
  have hs := flat_of_before _ h
  have hq := flat_of_before _ hr
  have hc : (Cond.count 1).before args s = true := hs _ (by decide +kernel)
  have harr : (Cond.arrayOf (.arg 0) .int).before args s = true := hs _ (by decide +kernel)
  have hle : (Cond.le (.length (.arg 0)) (.int 2048)).before args s = true := hs _ (by decide +kernel)
  have hlen : (Cond.isInt (.length (.arg 0))).before args s = true := hq _ (by decide +kernel)
  have hall : (Cond.all (.arg 0) (.isInt (.elem (.arg 0) (.index 0)))).before args s = true := hq _ (by decide +kernel)
  obtain ⟨b, xs, hb, hx⟩ := State.ints_of_pre rfl harr hlen hall
  have hsm : xs.length < 2 ^ 31 := hx.choose_spec.2.2.2
  have hev : (Term.length (.arg 0)).eval args s none [] s = some (.int xs.length.toInt32) := hx.length_eval hb
  have hv := Cond.le_ints hev (show (Term.int 2048).eval args s none [] s = some (.int 2048) from rfl)
  have hd : xs.length.toInt32 ≤ 2048 := by
    simpa [Cond.before, Cond.holds, hv] using hle
  have hN : xs.length ≤ 2048 := (Int32.ofNat_le_ofNat hsm (by decide)).mp (show Int32.ofNat xs.length ≤ Int32.ofNat 2048 from hd)
  exact ⟨b, xs, Cond.one_arg hc (show args[0]? = some (.ref b) from hb), hx, hN, h⟩
theorem lw_comes (l : Launch) (hflags : l.flags = flags0) : Comes l x (Jvm.Cond.code x code maxLocals ret :: tables_1) room_1 (fun tb e args s => Calls_1 tb e args s ∧ rest_1 tb e args s ∧ Pre_1 tb e args s)
    (fun _ _ args s o t => lw_Q args s o t) := by
  intro p e ha hc hk s m args below hf hfit hheap happ hpre
  obtain ⟨b, xs, hP⟩ := lw_pre_spec hpre.2.2 hpre.2.1
  obtain ⟨k, o, h1, h2, h3, hQ⟩ := lw_walk l hflags b xs p e ha hc hk s m args below hf ((Spec.applies_iff_loose hf).mp happ).1 hP trivial
  exact ⟨k, o, h1, h2, h3, hQ⟩
theorem lw_frame {s t : State} {o : Outcome} {args : Array Value} (h : Framed s o t [] 29 5451) :
    Framed s o t (fieldLocs frame_1_writes args s ++ arrayLocs frame_1_arrays args s ++ staticLocs frame_1_statics s) 29 5451 := h
theorem lw_limb (L : Cond) (hL : ∀ (args : Array Value) (s t : State), L.after args s (.returned (some (.int 1))) t = true) :
    ArmFor flags0 classFile x code maxLocals ret World_1 tables_1 room_1 Calls_1 rest_1 Pre_1
      (fun tb e a s o t => postC L tb e a s o t ∧ Framed s o t (fieldLocs frame_1_writes a s ++ arrayLocs frame_1_arrays a s ++ staticLocs frame_1_statics s) 29 5451) := by
  intro l hflags _ _ p e ha hc hk s m args below hf hfit hheap happ hpre
  obtain ⟨k, o, h1, h2, h3, rfl, hF⟩ := lw_comes l hflags p e ha hc hk s m args below hf hfit hheap happ hpre
  exact ⟨k, _, h1, h2, h3, hL args s _, lw_frame hF⟩
theorem i_vc : Claimed_1_1 ∧ Claimed_1_2 := ⟨lw_limb limb_1_1 (fun args s t => by simp [limb_1_1, Cond.after, Cond.holds, Cond.value]), lw_limb limb_1_2 (fun args s t => Cond.after_iff.mpr (by
  first | (rw [show limb_1_2 = Cond.eq .result (.int 1) from rfl, Cond.eq_ints (x := 1) (y := 1) rfl rfl]; simp; done) | (simp [limb_1_2, Cond.value, Term.eval]; done)))⟩
