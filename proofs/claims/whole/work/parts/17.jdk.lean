/-! What is given of statics: the two rows of needs, the ten words as String constants, the JDK's own; and String.length, charAt over them. -/
def tF (j : Nat) : Int32 := ([1, 1, 1, 2, 1, 1, 1, 1, 0, 1] : List Int32).getD j 0
def tS (j : Nat) : Int32 := ([3, 0, 0, 3, 0, 1, 1, 4, 0, 0] : List Int32).getD j 0
def lenS : List Nat := [3, 4, 4, 4, 4, 3, 3, 6, 3, 3]
def bytS : List (List Int32) := [[97, 100, 100], [111, 112, 101, 110], [115, 104, 117, 116], [114, 111, 97, 100], [110, 101, 97, 114], [102, 97, 114], [119, 97, 121], [119, 105, 116, 104, 105, 110], [97, 108, 108], [115, 117, 109]]
def poolS (i : Nat) : Nat := 32 + 2 * i
def txtS (i : Nat) : String := (["add", "open", "shut", "road", "near", "far", "way", "within", "all", "sum"] : List String).getD i ""
abbrev nestW : Cond := .methodLinkNest RX7 28 yX8_isLength "RoadDepots"
def SF (zF zS : Nat) (adK adV : Nat → Nat) (A : Nat → Prop) (U : State) (H : Heap) : Prop :=
  va_Nw nestW U ∧ va_Z RX7 "FIRST" "[I" (.ref zF) A U H ∧ va_T .int zF 10 (fun j => .int (tF j)) A U H ∧ va_Z RX7 "SECOND" "[I" (.ref zS) A U H ∧ va_T .int zS 10 (fun j => .int (tS j)) A U H ∧
  (∀ i : Nat, i < 10 → vk_R RX7 (poolS i) (txtS i) (adK i) U) ∧ vk_S 10 lenS bytS adK adV A U H ∧ va_Z RJ0 "COMPACT_STRINGS" "Z" (.int 1) A U H ∧ va_Zq RJ3 "SIOOBE_FORMATTER" "Ljava/util/function/BiFunction;" A U H
theorem SF.go {zF zS : Nat} {adK adV : Nat → Nat} {A : Nat → Prop} {s U : State} {H : Heap} {locs : List Loc} (h : SF zF zS adK adV A s s.heap) (hS : va_S A s.heap H locs) (hW : s.WarmedH U.vm) : SF zF zS adK adV A U H := by
  obtain ⟨h1, h2, h3, h4, h5, h6, h7, h8, h9⟩ := h
  exact ⟨va_Nw.warmM hW h1, (h2.kept hS.2.1).moved hW.alike, (h3.kept hS.2.1).moved hW.alike, (h4.kept hS.2.1).moved hW.alike, (h5.kept hS.2.1).moved hW.alike, fun i hi => vk_R.warm hW (h6 i hi), (h7.kept hS.2.1).moved hW.alike, (h8.kept hS.2.1).moved hW.alike, (h9.kept hS.2.1).moved hW.alike⟩
theorem SF.to {zF zS : Nat} {adK adV : Nat → Nat} {A : Nat → Prop} {s U : State} {H : Heap} {locs : List Loc} (h : SF zF zS adK adV A s s.heap) (hS : va_S A s.heap H locs) (hU : U.heap = H) (hW : s.WarmedH U.vm) : SF zF zS adK adV A U U.heap := by
  rw [hU]
  exact h.go hS hW
theorem SF.narrow {zF zS : Nat} {adK adV : Nat → Nat} {A B : Nat → Prop} {s : State} {H : Heap} (h : SF zF zS adK adV A s H) (hAB : ∀ q, B q → A q) : SF zF zS adK adV B s H := by
  obtain ⟨h1, h2, h3, h4, h5, h6, h7, h8, h9⟩ := h
  exact ⟨h1, h2.narrow hAB, h3.narrow hAB, h4.narrow hAB, h5.narrow hAB, h6, h7.narrow hAB, h8.narrow hAB, h9.narrow hAB⟩
theorem SF.fb {zF zS : Nat} {adK adV : Nat → Nat} {A : Nat → Prop} {U : State} {g : JFrame} {mk : MethodId} {a : Array Value} (h : SF zF zS adK adV A U U.heap) : SF zF zS adK adV A (U.calling g mk a) (U.calling g mk a).heap := by
  obtain ⟨h1, h2, h3, h4, h5, h6, h7, h8, h9⟩ := h
  have e : U.vm.Alike (U.calling g mk a).vm := Vm.Alike.refl U.vm
  exact ⟨va_Nw.same rfl rfl h1, h2.moved e, h3.moved e, h4.moved e, h5.moved e, fun i hi => vk_R.same rfl (h6 i hi), h7.moved e, h8.moved e, h9.moved e⟩
/-- the contracts' beginnings: statics alone; statics and cells -/
def PJ (zF zS : Nat) (adK adV : Nat → Nat) (A : Nat → Prop) (av : List Value) : Array Value → State → Prop := va_Pc av (fun U => SF zF zS adK adV A U U.heap)
def PF (D : va_G) (tys : List (ClassId × FieldType)) (ws : va_W) (zF zS : Nat) (adK adV : Nat → Nat) (A : Nat → Prop) (av : List Value) : Array Value → State → Prop := va_Pc av (fun U => va_P D vwCl ws U.heap ∧ va_K D vwCl tys U ∧ SF zF zS adK adV A U U.heap)
theorem PJ_fb {zF zS : Nat} {adK adV : Nat → Nat} {A : Nat → Prop} {av : List Value} : FrameBlind (PJ zF zS adK adV A av) := fun a U g mk q => ⟨q.1, SF.fb q.2⟩
theorem PF_fb {D : va_G} {tys : List (ClassId × FieldType)} {ws : va_W} {zF zS : Nat} {adK adV : Nat → Nat} {A : Nat → Prop} {av : List Value} : FrameBlind (PF D tys ws zF zS adK adV A av) := fun a U g mk q => by
  obtain ⟨q0, qP, qK, qS⟩ := q
  exact ⟨q0, qP, va_K.moved (u := U) (U := U.calling g mk a) (Vm.Alike.refl U.vm) qK, SF.fb qS⟩
section FB
variable {p : Program} {l : Launch} {e : Env} {R : Room} {s : State} {m : MethodId} {args : Array Value} {below : List Frame} {meth : Method} {c : Code} {H : Heap} {locs : List Loc} {cells slots : Nat} {Q : State → Prop}
variable {D : va_G} {tys : List (ClassId × FieldType)} {wsw wsw' : va_W} {A : Nat → Prop} {H0 : Heap} {zF zS : Nat} {adK adV : Nat → Nat}
variable {y : MethodName} {bytes cc : ByteArray} {maxL nL n index pc : Nat} {ret : Option FieldType} {ws : List Cond} {rm : Room} {Ts : List Cond} {own C : String} {b : Addr} {As rest st : List Value} {ls : Array Slot}
theorem re_t {ty : FieldType} {v val : Int32} (hx : p.tables.exec = Jvm.exec) (hb : c.code = cc) (hr : meth.sig.returnType = some ty) (hlocks : meth.locks = false) (hn : narrow ty (.int v) = .int v) (hdg : decode cc pc = .ok (.ireturn, 1)) (hv : v = val) : W p l e R s m args below meth c s.heap [] 0 0 (MQ below (SI val) args s 0 0 (fun _ => False)) (F0 m pc ls [.int v]) :=
  W.zret hx hb hr hn (fun t ht _ => ⟨v, rfl, hv, ht⟩) (fun q h => absurd h List.not_mem_nil) hdg hlocks
theorem re_v (hx : p.tables.exec = Jvm.exec) (hb : c.code = cc) (hr : meth.sig.returnType = none) (hlocks : meth.locks = false) (hdg : decode cc pc = .ok (.return_, 1)) : W p l e R s m args below meth c s.heap [] 0 0 (MQ below (va_Sv (fun _ => True)) args s 0 0 (fun _ => False)) (F0 m pc ls []) :=
  W.vret hx hb hr (fun t ht _ => ⟨rfl, trivial, ht⟩) (fun q h => absurd h List.not_mem_nil) hdg hlocks
/-- a String's method is called: the String is one of the constants -/
theorem jcV {val : Int32} {k : Nat} (hk : k < 10) (S : CallFix p m c cc nL s args Ts own) (hM : Met l y ws rm (PJ zF zS adK adV A (.ref (adK k) :: As)) (SI val) 0 0 (fun _ => False)) (cw : CallW R s args own RJ0 index y bytes maxL ret ws rm 0 0 n) (hF : SF zF zS adK adV A s s.heap) (hS : va_S A s.heap H locs)
    (hn : As.length = n) (hsize : ls.size = nL) (hstack : st = As.reverse ++ .ref (adK k) :: rest) (hW : (rest.map fun v => v.category).sum ≤ 8) (hdg : decode cc pc = .ok (.invokevirtual index, 3)) (hf : cells + 0 ≤ R.cells ∧ slots + 0 ≤ R.slots)
    (kk : W p l e R s m args below meth c H locs cells slots Q (F0 m (pc + 3) ls (.int val :: rest))) : W p l e R s m args below meth c H locs cells slots Q (F0 m pc ls st) := by
  subst hstack
  exact vp_callSi (W.runV (As := As) (rest := rest) S hM cw ⟨PJ_fb, vk_recv hF.2.2.2.2.2.2.1 hk hS, fun U hU hW => ⟨rfl, hF.to hS hU hW⟩⟩ rfl hn hsize rfl (lv_room hW) hdg hf) (fun r hr => by rw [hr]; exact kk)
theorem jcS {val : Int32} (S : CallFix p m c cc nL s args Ts own) (hM : Met l y ws rm (PJ zF zS adK adV A As) (SI val) 0 0 (fun _ => False)) (cw : CallB R s args own index y bytes maxL ret ws rm 0 0 n ∧ (Cond.static y).before args s = true) (hF : SF zF zS adK adV A s s.heap) (hS : va_S A s.heap H locs)
    (hn : As.length = n) (hsize : ls.size = nL) (hstack : st = As.reverse ++ rest) (hW : (rest.map fun v => v.category).sum ≤ 8) (hdg : decode cc pc = .ok (.invokestatic index, 3)) (hf : cells + 0 ≤ R.cells ∧ slots + 0 ≤ R.slots)
    (kk : W p l e R s m args below meth c H locs cells slots Q (F0 m (pc + 3) ls (.int val :: rest))) : W p l e R s m args below meth c H locs cells slots Q (F0 m pc ls st) := by
  subst hstack
  exact vp_callSi (W.runS (As := As) (rest := rest) S hM cw ⟨PJ_fb, fun U hU hW => ⟨rfl, hF.to hS hU hW⟩⟩ rfl hn hsize rfl (lv_room hW) hdg hf) (fun r hr => by rw [hr]; exact kk)
theorem jcSv (S : CallFix p m c cc nL s args Ts own) (hM : Met l y ws rm (PJ zF zS adK adV A As) (va_Sv (fun _ => True)) 0 0 (fun _ => False)) (cw : CallB R s args own index y bytes maxL ret ws rm 0 0 n ∧ (Cond.static y).before args s = true) (hF : SF zF zS adK adV A s s.heap) (hS : va_S A s.heap H locs)
    (hn : As.length = n) (hsize : ls.size = nL) (hstack : st = As.reverse ++ rest) (hW : (rest.map fun v => v.category).sum ≤ 8) (hdg : decode cc pc = .ok (.invokestatic index, 3)) (hf : cells + 0 ≤ R.cells ∧ slots + 0 ≤ R.slots)
    (kk : W p l e R s m args below meth c H locs cells slots Q (F0 m (pc + 3) ls rest)) : W p l e R s m args below meth c H locs cells slots Q (F0 m pc ls st) := by
  subst hstack
  exact va_csv (W.runS (As := As) (rest := rest) S hM cw ⟨PJ_fb, fun U hU hW => ⟨rfl, hF.to hS hU hW⟩⟩ rfl hn hsize rfl (lv_room hW) hdg hf) (fun _ => kk)
theorem jcSk (hb0 : Nat → Value) {val : Nat} (S : CallFix p m c cc nL s args Ts own) (hM : Met l y ws rm (PJ zF zS adK adV A As) (va_Sr (fun k => k = val) hb0) 0 0 (fun _ => False)) (cw : CallB R s args own index y bytes maxL ret ws rm 0 0 n ∧ (Cond.static y).before args s = true) (hF : SF zF zS adK adV A s s.heap) (hS : va_S A s.heap H locs)
    (hn : As.length = n) (hsize : ls.size = nL) (hstack : st = As.reverse ++ rest) (hW : (rest.map fun v => v.category).sum ≤ 8) (hdg : decode cc pc = .ok (.invokestatic index, 3)) (hf : cells + 0 ≤ R.cells ∧ slots + 0 ≤ R.slots)
    (kk : W p l e R s m args below meth c H locs cells slots Q (F0 m (pc + 3) ls (hb0 val :: rest))) : W p l e R s m args below meth c H locs cells slots Q (F0 m pc ls st) := by
  subst hstack
  exact va_csr (W.runS (As := As) (rest := rest) S hM cw ⟨PJ_fb, fun U hU hW => ⟨rfl, hF.to hS hU hW⟩⟩ rfl hn hsize rfl (lv_room hW) hdg hf) (fun k hk => by rw [hk]; exact kk)
end FB
set_option maxRecDepth 100000 in
theorem ctJ_coder (l : Launch) (zF zS : Nat) (adK adV : Nat → Nat) (A : Nat → Prop) (k : Nat) (hk : k < 10) : Met l yJ0_coder_7d493 wsJ0_coder_7d493 (rmN 0 0) (PJ zF zS adK adV A [.ref (adK k)]) (SI 0) 0 0 (fun _ => False) := by
  refine mk_met cJ0_coder_7d493 1 (some .byte) (by decide) rfl (Nat.le_of_ble_eq_true rfl) ?_
  intro p e s m args below meth c ls hx hb hr hlk hml hown hts hF hl
  replace hl : lv_has ls 1 [(0, .ref (adK k))] := hl
  replace hown : s.vm.findClass RJ0 = some m.cls := hown
  have hS : va_S A s.heap s.heap [] := va_S.rf
  have hF0 := hF
  obtain ⟨-, -, -, -, -, -, h7, h8, h9⟩ := hF0
  refine va_gets hx hb h8 hS hown (hts _ (List.mem_of_getElem? (i := 1) rfl)) (fun _ h => h) dJ0_coder_7d493_0 ?_
  refine lv_if_eq (tgt := 13) hx hb dJ0_coder_7d493_3 (by decide) (fun hc => absurd hc (by decide)) (fun hc => ?_)
  refine lv_aload_n hx hb dJ0_coder_7d493_6 rfl (lv_at hl 0 rfl) ?_
  refine vk_getf hx hb (h7.1 k hk).2.1 hS hown (hts _ (List.mem_of_getElem? (i := 2) rfl)) (fun _ h => h) dJ0_coder_7d493_7 ?_
  refine lv_goto (tgt := 14) hx hb dJ0_coder_7d493_10 (by decide) ?_
  exact re_t hx hb hr hlk (by decide) dJ0_coder_7d493_14 rfl
set_option maxRecDepth 100000 in
theorem ctJ_isLatin1 (l : Launch) (zF zS : Nat) (adK adV : Nat → Nat) (A : Nat → Prop) (k : Nat) (hk : k < 10) : Met l yJ0_isLatin1_aae02 wsJ0_isLatin1_aae02 (rmN 0 0) (PJ zF zS adK adV A [.ref (adK k)]) (SI 1) 0 0 (fun _ => False) := by
  refine mk_met cJ0_isLatin1_aae02 1 (some .boolean) (by decide) rfl (Nat.le_of_ble_eq_true rfl) ?_
  intro p e s m args below meth c ls hx hb hr hlk hml hown hts hF hl
  replace hl : lv_has ls 1 [(0, .ref (adK k))] := hl
  replace hown : s.vm.findClass RJ0 = some m.cls := hown
  have hS : va_S A s.heap s.heap [] := va_S.rf
  have hF0 := hF
  obtain ⟨-, -, -, -, -, -, h7, h8, h9⟩ := hF0
  refine va_gets hx hb h8 hS hown (hts _ (List.mem_of_getElem? (i := 1) rfl)) (fun _ h => h) dJ0_isLatin1_aae02_0 ?_
  refine lv_if_eq (tgt := 17) hx hb dJ0_isLatin1_aae02_3 (by decide) (fun hc => absurd hc (by decide)) (fun hc => ?_)
  refine lv_aload_n hx hb dJ0_isLatin1_aae02_6 rfl (lv_at hl 0 rfl) ?_
  refine vk_getf hx hb (h7.1 k hk).2.1 hS hown (hts _ (List.mem_of_getElem? (i := 2) rfl)) (fun _ h => h) dJ0_isLatin1_aae02_7 ?_
  refine lv_if_ne (tgt := 17) hx hb dJ0_isLatin1_aae02_10 (by decide) (fun hc => absurd rfl hc) (fun hc => ?_)
  refine lv_iconst (v := 1) hx hb dJ0_isLatin1_aae02_13 (by decide) ?_
  refine lv_goto (tgt := 18) hx hb dJ0_isLatin1_aae02_14 (by decide) ?_
  exact re_t hx hb hr hlk (by decide) dJ0_isLatin1_aae02_18 rfl
def slen (k : Nat) : Int32 := Int32.ofNat (lenS.getD k 0)
theorem slen_sh : ∀ k, k < 10 → slen k >>> ((0 : Int32) &&& 31) = slen k := by decide
set_option maxRecDepth 100000 in
theorem ctJ_length (l : Launch) (zF zS : Nat) (adK adV : Nat → Nat) (A : Nat → Prop) (k : Nat) (hk : k < 10) : Met l yJ0_length_8abf5 wsJ0_length_8abf5 (rmN 1 20) (PJ zF zS adK adV A [.ref (adK k)]) (SI (slen k)) 0 0 (fun _ => False) := by
  refine mk_met cJ0_length_8abf5 1 (some .int) (by decide) rfl (Nat.le_of_ble_eq_true rfl) ?_
  intro p e s m args below meth c ls hx hb hr hlk hml hown hts hF hl
  replace hl : lv_has ls 1 [(0, .ref (adK k))] := hl
  replace hown : s.vm.findClass RJ0 = some m.cls := hown
  have hS : va_S A s.heap s.heap [] := va_S.rf
  have hF0 := hF
  obtain ⟨-, -, -, -, -, -, h7, h8, h9⟩ := hF0
  refine lv_aload_n hx hb dJ0_length_8abf5_0 rfl (lv_at hl 0 rfl) ?_
  refine vk_getf hx hb (h7.1 k hk).2.2.1 hS hown (hts _ (List.mem_of_getElem? (i := 1) rfl)) (fun _ h => h) dJ0_length_8abf5_1 ?_
  refine va_tlen hx hb (h7.1 k hk).2.2.2 hS (v := slen k) rfl dJ0_length_8abf5_4 ?_
  refine lv_aload_n hx hb dJ0_length_8abf5_5 rfl (lv_at hl 0 rfl) ?_
  refine jcV hk (As := []) (rest := [.int (slen k)]) ⟨hx, hb, hml, hown, hts⟩ (ctJ_coder l zF zS adK adV A k hk) (cwV 0 hts gJ0_length_8abf5_J0_coder_7d493 rfl rfl rfl (by decide +kernel) ⟨Nat.le_of_ble_eq_true rfl, Nat.le_of_ble_eq_true rfl⟩) hF hS rfl hl.1 rfl (Nat.le_of_ble_eq_true rfl) dJ0_length_8abf5_6 ⟨Nat.zero_le _, Nat.zero_le _⟩ ?_
  refine lv_ishr hx hb dJ0_length_8abf5_9 ?_
  exact re_t hx hb hr hlk rfl dJ0_length_8abf5_10 (slen_sh k hk)
set_option maxRecDepth 100000 in
theorem ctJ_check3 (l : Launch) (zF zS : Nat) (adK adV : Nat → Nat) (A : Nat → Prop) (i n : Int32) (r : Option Nat) (h0 : ¬ i < 0) (h1 : i < n) : Met l yJ3_checkIndex_8e157 wsJ3_checkIndex_8e157 (rmN 0 0) (PJ zF zS adK adV A [.int i, .int n, va_rf r]) (SI i) 0 0 (fun _ => False) := by
  refine mk_met cJ3_checkIndex_8e157 3 (some .int) (by decide) rfl (by cases r <;> exact Nat.le_of_ble_eq_true rfl) ?_
  intro p e s m args below meth c ls hx hb hr hlk hml hown hts hF hl
  replace hl : lv_has ls 3 [(0, .int i), (1, .int n), (2, va_rf r)] := by cases r <;> exact hl
  refine lv_iload_n hx hb dJ3_checkIndex_8e157_0 rfl (lv_at hl 0 rfl) ?_
  refine lv_if_lt (tgt := 9) hx hb dJ3_checkIndex_8e157_1 (by decide) (fun hc => absurd hc h0) (fun hc => ?_)
  refine lv_iload_n hx hb dJ3_checkIndex_8e157_4 rfl (lv_at hl 0 rfl) ?_
  refine lv_iload_n hx hb dJ3_checkIndex_8e157_5 rfl (lv_at hl 1 rfl) ?_
  refine lv_icmp_lt (tgt := 16) hx hb dJ3_checkIndex_8e157_6 (by decide) (fun hc => ?_) (fun hc => absurd h1 hc)
  refine lv_iload_n hx hb dJ3_checkIndex_8e157_16 rfl (lv_at hl 0 rfl) ?_
  exact re_i hx hb hr hlk dJ3_checkIndex_8e157_17 rfl
set_option maxRecDepth 100000 in
theorem ctJ_check0 (l : Launch) (zF zS : Nat) (adK adV : Nat → Nat) (A : Nat → Prop) (i n : Int32) (h0 : ¬ i < 0) (h1 : i < n) : Met l yJ0_checkIndex_df160 wsJ0_checkIndex_df160 (rmN 1 22) (PJ zF zS adK adV A [.int i, .int n]) (va_Sv (fun _ => True)) 0 0 (fun _ => False) := by
  refine mk_met cJ0_checkIndex_df160 2 none (by decide) rfl (Nat.le_of_ble_eq_true rfl) ?_
  intro p e s m args below meth c ls hx hb hr hlk hml hown hts hF hl
  replace hl : lv_has ls 2 [(0, .int i), (1, .int n)] := hl
  replace hown : s.vm.findClass RJ0 = some m.cls := hown
  have hS : va_S A s.heap s.heap [] := va_S.rf
  have hF0 := hF
  obtain ⟨-, -, -, -, -, -, h7, h8, h9⟩ := hF0
  refine lv_iload_n hx hb dJ0_checkIndex_df160_0 rfl (lv_at hl 0 rfl) ?_
  refine lv_iload_n hx hb dJ0_checkIndex_df160_1 rfl (lv_at hl 1 rfl) ?_
  rcases h9 with h9 | ⟨t, h9⟩
  · refine va_gets hx hb h9 hS hown (hts _ (List.mem_of_getElem? (i := 1) rfl)) (fun _ h => h) dJ0_checkIndex_df160_2 ?_
    refine jcS (As := [.int i, .int n, va_rf none]) (rest := []) ⟨hx, hb, hml, hown, hts⟩ (ctJ_check3 l zF zS adK adV A i n none h0 h1) (va_cwS 3 hts gJ0_checkIndex_df160_J3_checkIndex_8e157 rfl rfl rfl (by decide +kernel) ⟨Nat.le_of_ble_eq_true rfl, Nat.le_of_ble_eq_true rfl⟩) hF hS rfl hl.1 rfl (Nat.le_of_ble_eq_true rfl) dJ0_checkIndex_df160_5 ⟨Nat.zero_le _, Nat.zero_le _⟩ ?_
    refine lv_pop hx hb dJ0_checkIndex_df160_8 rfl ?_
    exact re_v hx hb hr hlk dJ0_checkIndex_df160_9
  · refine va_gets hx hb h9 hS hown (hts _ (List.mem_of_getElem? (i := 1) rfl)) (fun _ h => h) dJ0_checkIndex_df160_2 ?_
    refine jcS (As := [.int i, .int n, va_rf (some t)]) (rest := []) ⟨hx, hb, hml, hown, hts⟩ (ctJ_check3 l zF zS adK adV A i n (some t) h0 h1) (va_cwS 3 hts gJ0_checkIndex_df160_J3_checkIndex_8e157 rfl rfl rfl (by decide +kernel) ⟨Nat.le_of_ble_eq_true rfl, Nat.le_of_ble_eq_true rfl⟩) hF hS rfl hl.1 rfl (Nat.le_of_ble_eq_true rfl) dJ0_checkIndex_df160_5 ⟨Nat.zero_le _, Nat.zero_le _⟩ ?_
    refine lv_pop hx hb dJ0_checkIndex_df160_8 rfl ?_
    exact re_v hx hb hr hlk dJ0_checkIndex_df160_9
def cC (x : Int32) : Int32 := (x.toUInt32 % 65536).toInt32
def schr (k : Nat) (i : Int32) : Int32 := cC ((bytS.getD k []).getD i.toNatClampNeg 0 &&& 255)
theorem gI_lt {i : Int32} {n : Nat} (h : gI i n = true) (hn : n < 2 ^ 31) : ¬ i < 0 ∧ i < Int32.ofNat n := by
  obtain ⟨j, hj, rfl⟩ := vp_in_of (gI_in h) hn
  exact ⟨nI_pos (by omega), nI_lt hj hn⟩
theorem lenS_lt : ∀ k, k < 10 → lenS.getD k 0 < 2 ^ 31 := by decide
theorem cC_n (x : Int32) : narrow .char (.int (cC x)) = .int (cC x) := pk_nc x
set_option maxRecDepth 100000 in
theorem ctJ_charAt1 (l : Launch) (zF zS : Nat) (adK adV : Nat → Nat) (A : Nat → Prop) (k : Nat) (hk : k < 10) (i : Int32) (hi : gI i (lenS.getD k 0) = true) : Met l yJ1_charAt_3b067 wsJ1_charAt_3b067 (rmN 2 43) (PJ zF zS adK adV A [.ref (adV k), .int i]) (SI (schr k i)) 0 0 (fun _ => False) := by
  refine mk_met cJ1_charAt_3b067 2 (some .char) (by decide) rfl (Nat.le_of_ble_eq_true rfl) ?_
  intro p e s m args below meth c ls hx hb hr hlk hml hown hts hF hl
  replace hl : lv_has ls 2 [(0, .ref (adV k)), (1, .int i)] := hl
  replace hown : s.vm.findClass RJ1 = some m.cls := hown
  have hS : va_S A s.heap s.heap [] := va_S.rf
  have hF0 := hF
  obtain ⟨-, -, -, -, -, -, h7, h8, h9⟩ := hF0
  obtain ⟨g0, g1⟩ := gI_lt hi (lenS_lt k hk)
  refine lv_iload_n hx hb dJ1_charAt_3b067_0 rfl (lv_at hl 1 rfl) ?_
  refine lv_aload_n hx hb dJ1_charAt_3b067_1 rfl (lv_at hl 0 rfl) ?_
  refine va_tlen hx hb (h7.1 k hk).2.2.2 hS (v := Int32.ofNat (lenS.getD k 0)) rfl dJ1_charAt_3b067_2 ?_
  refine jcSv (As := [.int i, .int (Int32.ofNat (lenS.getD k 0))]) (rest := []) ⟨hx, hb, hml, hown, hts⟩ (ctJ_check0 l zF zS adK adV A i (Int32.ofNat (lenS.getD k 0)) g0 g1) (va_cwS 2 hts gJ1_charAt_3b067_J0_checkIndex_df160 rfl rfl rfl (by decide +kernel) ⟨Nat.le_of_ble_eq_true rfl, Nat.le_of_ble_eq_true rfl⟩) hF hS rfl hl.1 rfl (Nat.le_of_ble_eq_true rfl) dJ1_charAt_3b067_3 ⟨Nat.zero_le _, Nat.zero_le _⟩ ?_
  refine lv_aload_n hx hb dJ1_charAt_3b067_6 rfl (lv_at hl 0 rfl) ?_
  refine lv_iload_n hx hb dJ1_charAt_3b067_7 rfl (lv_at hl 1 rfl) ?_
  refine va_tb hx hb (h7.1 k hk).2.2.2 hS (gI_in hi) rfl dJ1_charAt_3b067_8 ?_
  refine lv_sipush (v := 255) hx hb dJ1_charAt_3b067_9 (by decide) ?_
  refine lv_iand hx hb dJ1_charAt_3b067_12 ?_
  refine lv_i2c (v := schr k i) hx hb dJ1_charAt_3b067_13 rfl ?_
  exact re_t hx hb hr hlk (cC_n _) dJ1_charAt_3b067_14 rfl
set_option maxRecDepth 100000 in
theorem ctJ_charAt (l : Launch) (zF zS : Nat) (adK adV : Nat → Nat) (A : Nat → Prop) (k : Nat) (hk : k < 10) (i : Int32) (hi : gI i (lenS.getD k 0) = true) : Met l yJ0_charAt_5068e wsJ0_charAt_5068e (rmN 3 64) (PJ zF zS adK adV A [.ref (adK k), .int i]) (SI (schr k i)) 0 0 (fun _ => False) := by
  refine mk_met cJ0_charAt_5068e 2 (some .char) (by decide) rfl (Nat.le_of_ble_eq_true rfl) ?_
  intro p e s m args below meth c ls hx hb hr hlk hml hown hts hF hl
  replace hl : lv_has ls 2 [(0, .ref (adK k)), (1, .int i)] := hl
  replace hown : s.vm.findClass RJ0 = some m.cls := hown
  have hS : va_S A s.heap s.heap [] := va_S.rf
  have hF0 := hF
  obtain ⟨-, -, -, -, -, -, h7, h8, h9⟩ := hF0
  refine lv_aload_n hx hb dJ0_charAt_5068e_0 rfl (lv_at hl 0 rfl) ?_
  refine jcV hk (As := []) (rest := []) ⟨hx, hb, hml, hown, hts⟩ (ctJ_isLatin1 l zF zS adK adV A k hk) (cwV 0 hts gJ0_charAt_5068e_J0_isLatin1_aae02 rfl rfl rfl (by decide +kernel) ⟨Nat.le_of_ble_eq_true rfl, Nat.le_of_ble_eq_true rfl⟩) hF hS rfl hl.1 rfl (Nat.le_of_ble_eq_true rfl) dJ0_charAt_5068e_1 ⟨Nat.zero_le _, Nat.zero_le _⟩ ?_
  refine lv_if_eq (tgt := 16) hx hb dJ0_charAt_5068e_4 (by decide) (fun hc => absurd hc (by decide)) (fun hc => ?_)
  refine lv_aload_n hx hb dJ0_charAt_5068e_7 rfl (lv_at hl 0 rfl) ?_
  refine vk_getf hx hb (h7.1 k hk).2.2.1 hS hown (hts _ (List.mem_of_getElem? (i := 1) rfl)) (fun _ h => h) dJ0_charAt_5068e_8 ?_
  refine lv_iload_n hx hb dJ0_charAt_5068e_11 rfl (lv_at hl 1 rfl) ?_
  refine jcS (As := [.ref (adV k), .int i]) (rest := []) ⟨hx, hb, hml, hown, hts⟩ (ctJ_charAt1 l zF zS adK adV A k hk i hi) (va_cwS 2 hts gJ0_charAt_5068e_J1_charAt_3b067 rfl rfl rfl (by decide +kernel) ⟨Nat.le_of_ble_eq_true rfl, Nat.le_of_ble_eq_true rfl⟩) hF hS rfl hl.1 rfl (Nat.le_of_ble_eq_true rfl) dJ0_charAt_5068e_12 ⟨Nat.zero_le _, Nat.zero_le _⟩ ?_
  exact re_t hx hb hr hlk (cC_n _) dJ0_charAt_5068e_15 rfl
