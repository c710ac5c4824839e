/-! MAKING: a new id beside the others -/
def adu (ad : Nat → Nat) (o q : Nat) : Nat → Nat := fun k => if k = o then q else ad k
theorem adu_at (ad : Nat → Nat) (o q : Nat) : adu ad o q o = q := if_pos rfl
theorem adu_ne {ad : Nat → Nat} {o q k : Nat} (h : k ≠ o) : adu ad o q k = ad k := if_neg h
theorem rv_adu {ad : Nat → Nat} {o q : Nat} {x : Int} (h : x < 0 ∨ x.toNat ≠ o) : rv (adu ad o q) x = rv ad x := by
  unfold rv
  split
  · rfl
  · rw [adu_ne (by omega)]
theorem vv_adu {ad : Nat → Nat} {o q : Nat} {v : AV} (h : v.1 = true → v.2 < 0 ∨ v.2.toNat ≠ o) : vv (adu ad o q) v = vv ad v := by
  unfold vv
  split
  · rename_i hv
    exact rv_adu (h hv)
  · rfl
theorem map_adu {ad : Nat → Nat} {o q : Nat} {vs : List AV} (h : ∀ v ∈ vs, v.1 = true → v.2 < 0 ∨ v.2.toNat ≠ o) : vs.map (vv (adu ad o q)) = vs.map (vv ad) := List.map_congr_left (fun v hv => vv_adu (h v hv))
theorem ceO_adu {ad : Nat → Nat} {o q ci : Nat} {vs : List AV} (h : ∀ v ∈ vs, v.1 = true → v.2 < 0 ∨ v.2.toNat ≠ o) : ceO (adu ad o q) ci vs = ceO ad ci vs := by
  unfold ceO
  rw [map_adu h]
theorem ceR_adu {ad : Nat → Nat} {o q : Nat} {cA : ClassId} {n : Nat} {f : Nat → Int} (h : ∀ i, f i < 0 ∨ (f i).toNat ≠ o) : ceR (adu ad o q) cA n f = ceR ad cA n f := by
  have : (fun i => ptr (adu ad o q) (f i)) = fun i => ptr ad (f i) := by
    funext i
    unfold ptr
    split
    · rfl
    · rw [adu_ne (by have := h i; omega)]
  unfold ceR
  rw [this]
theorem lvp_adu {ad : Nat → Nat} {o q : Nat} {lv : LV} (h : ∀ v, some v ∈ lv → v.1 = true → v.2 < 0 ∨ v.2.toNat ≠ o) : lvp (adu ad o q) lv = lvp ad lv := by
  unfold lvp
  congr 1
  funext i
  cases hi : lv[i]? with
  | none => rfl
  | some w =>
    cases w with
    | none => rfl
    | some v =>
      show some (i, vv (adu ad o q) v) = some (i, vv ad v)
      rw [vv_adu (h v (List.mem_of_getElem? hi))]
theorem wld_new {ly : Lay} {ids : List Nat} {ad : Nat → Nat} {μ μ1 : Mem} {o q : Nat} {e : va_E} (ho : o ∉ ids) (hl : ∀ a ∈ ids, ly (adu ad o q) a (μ1 a) = ly ad a (μ a)) (he : ly (adu ad o q) o (μ1 o) = e) : wld ly (ids ++ [o]) (adu ad o q) μ1 = wld ly ids ad μ ++ [(q, e)] := by
  unfold wld
  rw [List.map_append, List.map_singleton, adu_at, he]
  congr 1
  refine List.map_congr_left (fun a ha => ?_)
  have hne : a ≠ o := fun h => ho (h ▸ ha)
  show (adu ad o q a, ly (adu ad o q) a (μ1 a)) = (ad a, ly ad a (μ a))
  rw [adu_ne hne, hl a ha]
/-- which ids there are -/
def idsOK (ids : List Nat) (μ : Mem) : Prop := ∀ o, o ∈ ids ↔ (bas o = true ∨ (100 ≤ o ∧ (o : Int) < 100 + μ 90 0) ∨ (200 ≤ o ∧ (o : Int) < 200 + μ 90 1))
def ext (ids : List Nat) (ad : Nat → Nat) (u : List Nat × (Nat → Nat)) (μ1 : Mem) : Prop := idsOK u.1 μ1 ∧ (∀ a ∈ ids, u.2 a = ad a) ∧ ∀ a, 1000 ≤ a → u.2 a = ad a
def rmn (lev mc ms : Nat) : Room := { frames := lev, cells := mc, slots := ms, locals := 60 * lev }
def aIN (D : va_G) (tys : List (ClassId × FieldType)) (ly : Lay) (ids : List Nat) (ad : Nat → Nat) (A : Nat → Prop) (r : Int) (μ1 : Mem) : Array Value → State → Outcome → State → Prop := va_Qi (fun r0 (u : List Nat × (Nat → Nat)) => (r0 = zI r ∧ ext ids ad u μ1) ∧ inR r) (fun u t => PE D tys ly u.1 u.2 A μ1 t) A
/-- THE CONTRACT of a method that may make up to mc cells of ms slots -/
def KN (l : Launch) (D : va_G) (tys : List (ClassId × FieldType)) (ly : Lay) (ids : List Nat) (ad : Nat → Nat) (lev mc ms : Nat) (y : MethodName) (cc : ByteArray) (mL : Nat) (ret : Option FieldType) (As : List AV) (μ : Mem) (r : Int) (μ1 : Mem) : Prop :=
  ∀ sz : Nat, Met l y (Cond.code y cc mL ret :: WS) (rmn lev mc ms) (va_Pc (As.map (vv ad)) (PW D tys ly ids ad μ sz)) (aIN D tys ly ids ad (va_A (wld ly ids ad μ) sz) r μ1) mc ms (va_A (wld ly ids ad μ) sz)
theorem KN.of {l : Launch} {D : va_G} {tys : List (ClassId × FieldType)} {ly : Lay} {ids : List Nat} {ad : Nat → Nat} {lev mc ms : Nat} {y : MethodName} {cc : ByteArray} {mL : Nat} {ret : Option FieldType} {As : List AV} {μ : Mem} {r : Int} {μ1 : Mem} (hy : plainName y.cls = true) (hn : As.length ≤ mL)
    (body : ∀ (p : Program) (e : Env) (s : State) (m : MethodId) (args : Array Value) (below : List Frame) (meth : Method) (c : Code) (A : Nat → Prop), Cx p s m args meth c D tys A mL cc y.cls ret → CF ad A s → V p l e (rmn lev mc ms) s m args below meth c 0 0 (MQ below (aIN D tys ly ids ad A r μ1) args s mc ms A) D A ly ids ad mL μ 0 (entL As mL) []) : KN l D tys ly ids ad lev mc ms y cc mL ret As μ r μ1 := by
  intro sz
  refine Met.ofW (cc := cc) (maxL := mL) (ret := ret) hy rfl ?_
  intro p e s m args below meth c s₁ B hml hv
  obtain ⟨rfl, rfl, ho, hg, hP, hK, hD, hNW, hCF⟩ := hv
  have hts := atoms_spec (ws := Cond.code y cc mL ret :: WS) B.pre
  have C : Cx p s m (As.map (vv ad)).toArray meth c D tys (va_A (wld ly ids ad μ) s.heap.size) mL cc y.cls ret := ⟨B.exec, B.bytes, hml, findClass_of_methodNamed B.named, fun w hw => hts w (List.mem_cons_of_mem _ hw), hK, fun q hq => Or.inr hq, B.returns, B.notSynchronized, hNW⟩
  have K := body p e s m _ below meth c _ C hCF ho hg s.heap [] hP hD.self va_S.rf _ (ent_has ad As mL hn)
  rw [lg_entry_eq]
  exact K
/-- a constructor's contract knows its name -/
theorem KK.ofI {aq : AQ} {l : Launch} {D : va_G} {tys : List (ClassId × FieldType)} {ly : Lay} {ids : List Nat} {ad : Nat → Nat} {lev : Nat} {y : MethodName} {cc : ByteArray} {mL : Nat} {ret : Option FieldType} {As : List AV} {μ : Mem} {r : Int} {μ' : Mem} (hy : plainName y.cls = true) (hn : As.length ≤ mL)
    (body : ∀ (p : Program) (e : Env) (s : State) (m : MethodId) (args : Array Value) (below : List Frame) (meth : Method) (c : Code) (A : Nat → Prop), Cx p s m args meth c D tys A mL cc y.cls ret → CF ad A s → meth.name = y.name → V p l e (rmk lev) s m args below meth c 0 0 (MQ below (aq D tys ly ids ad A r μ') args s 0 0 A) D A ly ids ad mL μ 0 (entL As mL) []) : KK aq l D tys ly ids ad lev y cc mL ret As μ r μ' := by
  intro sz
  refine Met.ofW (cc := cc) (maxL := mL) (ret := ret) hy rfl ?_
  intro p e s m args below meth c s₁ B hml hv
  obtain ⟨rfl, rfl, ho, hg, hP, hK, hD, hNW, hCF⟩ := hv
  have hts := atoms_spec (ws := Cond.code y cc mL ret :: WS) B.pre
  have C : Cx p s m (As.map (vv ad)).toArray meth c D tys (va_A (wld ly ids ad μ) s.heap.size) mL cc y.cls ret := ⟨B.exec, B.bytes, hml, findClass_of_methodNamed B.named, fun w hw => hts w (List.mem_cons_of_mem _ hw), hK, fun q hq => Or.inr hq, B.returns, B.notSynchronized, hNW⟩
  have K := body p e s m _ below meth c _ C hCF (name_of_methodNamed B.named B.method).1 ho hg s.heap [] hP hD.self va_S.rf _ (ent_has ad As mL hn)
  rw [lg_entry_eq]
  exact K
section VN
variable {p : Program} {l : Launch} {e : Env} {R : Room} {s : State} {m : MethodId} {args : Array Value} {below : List Frame} {meth : Method} {c : Code} {cells slots : Nat} {Q : State → Prop} {D : va_G} {tys : List (ClassId × FieldType)} {A : Nat → Prop} {ly : Lay} {ids : List Nat} {ad : Nat → Nat} {nL : Nat} {cc : ByteArray} {own : String} {ret : Option FieldType} {μ : Mem} {pc : Nat} {lv : LV} {st : List AV} {aq : AQ} {r : Int} {μ' : Mem}
theorem r_iretN (C : Cx p s m args meth c D tys A nL cc own ret) {ids0 : List Nat} {ad0 : Nat → Nat} {mc ms : Nat} (hr : ret = some .int) (hrr : inR r) (hx : ext ids0 ad0 (ids, ad) μ) (hmc : cells ≤ mc) (hms : slots ≤ ms) (hd : decode cc pc = .ok (.ireturn, 1)) : V p l e R s m args below meth c cells slots (MQ below (aIN D tys ly ids0 ad0 A r μ) args s mc ms A) D A ly ids ad nL μ pc lv [nu r] := by
  intro ho hg H locs hP hD hS ls hl
  refine W.widen hmc hms ?_
  exact W.iret (v := zI r) C.1 C.2.1 (C.2.2.2.2.2.2.2.1.trans hr) (fun t ht hW => ⟨⟨zI r, (ids, ad), rfl, ⟨⟨rfl, hx⟩, hrr⟩, ⟨ho, hg, by rw [ht]; exact hP, va_K.moved hW.alike C.2.2.2.2.2.1, hD⟩⟩, hS.F ht⟩) hS.2.2 hd C.2.2.2.2.2.2.2.2.1
theorem r_objI (C : Cx p s m args meth c D tys A nL cc own ret) {x : Int} (h0 : 0 ≤ x) {index : Nat} (hlk : Cond.methodLink own index Lib.objectInit ∈ WS) (hin : Cond.instanceMethod Lib.objectInit ∈ WS) (hcode : Cond.code Lib.objectInit ⟨#[0xb1]⟩ 1 none ∈ WS) (hf : 1 ≤ R.frames) (hlo : st.length + 12 ≤ R.locals) (hd : decode cc pc = .ok (.invokespecial index, 3)) (kk : V p l e R s m args below meth c cells slots Q D A ly ids ad nL μ (pc + 3) lv st) : V p l e R s m args below meth c cells slots Q D A ly ids ad nL μ pc lv (rf x :: st) := by
  intro ho hg H locs hP hD hS ls hl
  rw [List.map_cons, vv_rf, rv_at h0]
  have hts := C.2.2.2.2.1
  refine W.objInit C.1 C.2.1 C.2.2.2.1 (hts _ hlk) (hts _ hin) (hts _ hcode) rfl (by rw [C.2.2.1]; exact hl.1) rfl hd hf ?_ (kk ho hg H locs hP hD hS ls hl)
  have h1 : ((st.map (vv ad)).map fun v => v.category).sum = st.length := by rw [List.map_map]; exact sum_cat ad st
  rw [h1]
  show 2 * 0 + st.length + 12 ≤ R.locals
  omega
theorem r_putfF (C : Cx p s m args meth c D tys A nL cc own ret) (hmn : meth.name = "<init>") {x z : Int} (o : Nat) (h0 : 0 ≤ x) (hxo : x.toNat = o) (hm : gho ids μ → o ∈ ids) (h90 : o ≠ 90) {ci : Nat} {cs cs' : List AV} (hly : ly ad o (μ o) = ceO ad ci cs) (k : Nat) (hly' : ly ad o (upf (μ o) k z) = ceO ad ci cs') (hcs : cs.set k (nu z) = cs') (hkl : k < cs.length) (hz : inR z) {Cn : String} {T : u_T} {N : Nat} (hc : vwCl[ci]? = some (Cn, T, N)) (hin : ∀ w ∈ u_ws Cn T N, w ∈ WS) (ty0 : Nat → FieldType) (hty : ∀ k, k < N → parseFieldDescriptor (T k).2.2.1 = some (ty0 k)) (hnm : ∀ a, a < N → ∀ b, b < N → a ≠ b → (T a).2.1 ≠ (T b).2.1) (hk : k < N) {index : Nat} (hw : Cond.fieldLink own index (T k).1 (T k).2.1 (T k).2.2.1 ∈ WS) (hfin : (T k).2.2.2 = true) (hdecl : (T k).1 = own) (hd2 : parseFieldDescriptor (T k).2.2.1 = some .int) (hd : decode cc pc = .ok (.putfield index, 3)) (kk : ∀ μ1 : Mem, μ1 = up μ o k z → V p l e R s m args below meth c cells slots Q D A ly ids ad nL μ1 (pc + 3) lv st) : V p l e R s m args below meth c cells slots Q D A ly ids ad nL μ pc lv (nu z :: rf x :: st) := by
  subst hxo
  subst hcs
  intro ho hg H locs hP hD hS ls hl
  obtain ⟨q0, hq, hi⟩ := wld_get (ly := ly) (ad := ad) (μ := μ) (hm hg)
  rw [hly] at hq
  rw [List.map_cons, List.map_cons, vv_rf, rv_at h0, vv_nu]
  refine va_putF (D := D) (ci := ci) (v := iv z) (ty := .int) C.1 C.2.1 C.2.2.2.2.1 hin ty0 hty hnm C.2.2.2.1 C.2.2.2.2.2.1 hP hD hS q0 hq hc k hk (C.2.2.2.2.1 _ hw) (fun _ h => h) hfin hmn hdecl hd2 rfl rfl (by rw [List.length_map]; exact hkl) hd (fun H1 locs1 hP1 hD1 hS1 => ?_)
  have he : (Sum.inr (ci, (cs.map (vv ad)).set k (iv z)) : va_E) = ceO ad ci (cs.set k (nu z)) := by
    show (Sum.inr (ci, (cs.map (vv ad)).set k (iv z)) : va_E) = Sum.inr (ci, (cs.set k (nu z)).map (vv ad))
    rw [List.map_set]
    rfl
  rw [he, wld_set hD hi hly'] at hP1 hD1
  exact kk _ rfl (ok_up ho hz) (gho_up hg h90) H1 locs1 hP1 hD1 hS1 ls hl
theorem g_callVI (C : Cx p s m args meth c D tys A nL cc own ret) (hCF : CF ad A s) {y : MethodName} {bytes : ByteArray} {mL index lev : Nat} {ret2 : Option FieldType} {As : List AV} {x : Int} (o : Nat) (h0 : 0 ≤ x) (hxo : x.toNat = o) (hm : gho ids μ → o ∈ ids) {ci : Nat} {cs : List AV} (hly : ly ad o (μ o) = ceO ad ci cs) {T : u_T} {N : Nat} (hc : vwCl[ci]? = some (y.cls, T, N)) (hM : KK aI l D tys ly ids ad lev y bytes mL ret2 (rf x :: As) μ r μ') (hlR : (rmk lev).frames + 1 ≤ R.frames ∧ 8 + (mL + 11) + (rmk lev).locals ≤ R.locals) (hcs : cells + 0 ≤ R.cells ∧ slots + 0 ≤ R.slots) (hlk : Cond.methodLink own index y ∈ WS) (hcode : Cond.code y bytes mL ret2 ∈ WS) (hini : Cond.initialized y.cls ∈ WS) (hinst : Cond.instanceMethod y ∈ WS) (hsel : Cond.selects y.cls y y ∈ WS) (n : Nat) (hdd : y.cls ≠ "java/lang/invoke/MethodHandle" ∧ y.cls ≠ "java/lang/invoke/VarHandle" ∧ (parseMethodDescriptor y.desc).map (fun d => d.parameters.length) = some n) (hn : As.length = n) (hst8 : st.length ≤ 8) (hd : decode cc pc = .ok (.invokevirtual index, 3)) (kk : inR r → V p l e R s m args below meth c cells slots Q D A ly ids ad nL μ' (pc + 3) lv (nu r :: st)) : V p l e R s m args below meth c cells slots Q D A ly ids ad nL μ pc lv (As.reverse ++ rf x :: st) := by
  intro ho hg H locs hP hD hS ls hl
  have hts := C.2.2.2.2.1
  have hFc : ∀ q, va_A (wld ly ids ad μ) H.size q → A q := fun q h => by
    rcases h with ⟨k, ee, h⟩ | h
    · exact hD.2 k (q, ee) h
    · exact C.2.2.2.2.2.2.1 q (Nat.le_trans hS.1 h)
  have hpre : ∀ U : State, U.heap = H → s.WarmedH U.vm → va_Pc ((rf x :: As).map (vv ad)) (PW D tys ly ids ad μ H.size) ((rf x :: As).map (vv ad)).toArray U := fun U hU hW => ⟨rfl, by rw [hU], ho, hg, by rw [hU]; exact hP, va_K.moved hW.alike C.2.2.2.2.2.1, hD.weaken (fun _ _ _ _ => trivial), NW.warm hW C.2.2.2.2.2.2.2.2.2, hCF.move hW (fun q h1 h2 => by rw [hU]; exact hS.2.1 q h1 h2) hFc⟩
  have hbl : FrameBlind (va_Pc ((rf x :: As).map (vv ad)) (PW D tys ly ids ad μ H.size)) := fun a U g mk q => by
    obtain ⟨q0, q1, q2, q3, q4, q5, q6, q7, q8⟩ := q
    exact ⟨q0, q1, q2, q3, q4, va_K.moved (u := U) (U := U.calling g mk a) (Vm.Alike.refl U.vm) q5, q6, fun w hw hn => va_Nw.same (u := U) (by cases w <;> first | rfl | (simp [nestW] at hn; done)) rfl (q7 w hw hn), CF.same q8⟩
  subst hxo
  obtain ⟨q0, hq, -⟩ := wld_get (ly := ly) (ad := ad) (μ := μ) (hm hg)
  rw [hly] at hq
  have hstk : ((As.reverse ++ rf x :: st).map (vv ad)) = (As.map (vv ad)).reverse ++ .ref (ad x.toNat) :: st.map (vv ad) := by
    rw [List.map_append, List.map_reverse, List.map_cons, vv_rf, rv_at h0]
  have hre : (Value.ref (ad x.toNat) :: As.map (vv ad)) = (rf x :: As).map (vv ad) := by
    rw [List.map_cons, vv_rf, rv_at h0]
  rw [hstk]
  have hcz := hcs
  refine va_calli (va_runV (As := As.map (vv ad)) (rest := st.map (vv ad)) (n := n) ⟨C.1, C.2.1, C.2.2.1, C.2.2.2.1, hts⟩ (hM H.size) ⟨callB_of n hts (WS_good hcode) rfl rfl rfl (hts _ hini) (hts _ hlk) hdd hlR, hts _ hinst, hts _ hsel⟩ ⟨hbl, va_recv C.2.2.2.2.2.1 hP hc hq, fun U hU hW => by rw [hre]; exact hpre U hU hW⟩ rfl (by rw [List.length_map]; exact hn) hl.1 rfl (lv_room (by rw [List.map_map]; exact Nat.le_trans (Nat.le_of_eq (sum_cat ad st)) hst8)) hd ⟨hcz.1, hcz.2⟩) hS (fun q _ h => hFc q h) hFc (fun r0 u t H1 locs1 ht hvm hw hB hz1 hk1 hS1 => ?_)
  obtain ⟨⟨rfl, rfl⟩, hrr⟩ := hw
  obtain ⟨ho1, hg1, hP1, hK1, hD1⟩ := hB
  rw [ht] at hP1
  have K := kk hrr ho1 hg1 H1 locs1 hP1 (hD1.weaken (fun k q _ h => hFc q.1 h)) hS1 ls hl
  exact K
theorem g_callVV (C : Cx p s m args meth c D tys A nL cc own ret) (hCF : CF ad A s) {y : MethodName} {bytes : ByteArray} {mL index lev : Nat} {ret2 : Option FieldType} {As : List AV} {x : Int} (o : Nat) (h0 : 0 ≤ x) (hxo : x.toNat = o) (hm : gho ids μ → o ∈ ids) {ci : Nat} {cs : List AV} (hly : ly ad o (μ o) = ceO ad ci cs) {T : u_T} {N : Nat} (hc : vwCl[ci]? = some (y.cls, T, N)) (hM : KK aV l D tys ly ids ad lev y bytes mL ret2 (rf x :: As) μ r μ') (hlR : (rmk lev).frames + 1 ≤ R.frames ∧ 8 + (mL + 11) + (rmk lev).locals ≤ R.locals) (hcs : cells + 0 ≤ R.cells ∧ slots + 0 ≤ R.slots) (hlk : Cond.methodLink own index y ∈ WS) (hcode : Cond.code y bytes mL ret2 ∈ WS) (hini : Cond.initialized y.cls ∈ WS) (hinst : Cond.instanceMethod y ∈ WS) (hsel : Cond.selects y.cls y y ∈ WS) (n : Nat) (hdd : y.cls ≠ "java/lang/invoke/MethodHandle" ∧ y.cls ≠ "java/lang/invoke/VarHandle" ∧ (parseMethodDescriptor y.desc).map (fun d => d.parameters.length) = some n) (hn : As.length = n) (hst8 : st.length ≤ 8) (hd : decode cc pc = .ok (.invokevirtual index, 3)) (kk : V p l e R s m args below meth c cells slots Q D A ly ids ad nL μ' (pc + 3) lv st) : V p l e R s m args below meth c cells slots Q D A ly ids ad nL μ pc lv (As.reverse ++ rf x :: st) := by
  intro ho hg H locs hP hD hS ls hl
  have hts := C.2.2.2.2.1
  have hFc : ∀ q, va_A (wld ly ids ad μ) H.size q → A q := fun q h => by
    rcases h with ⟨k, ee, h⟩ | h
    · exact hD.2 k (q, ee) h
    · exact C.2.2.2.2.2.2.1 q (Nat.le_trans hS.1 h)
  have hpre : ∀ U : State, U.heap = H → s.WarmedH U.vm → va_Pc ((rf x :: As).map (vv ad)) (PW D tys ly ids ad μ H.size) ((rf x :: As).map (vv ad)).toArray U := fun U hU hW => ⟨rfl, by rw [hU], ho, hg, by rw [hU]; exact hP, va_K.moved hW.alike C.2.2.2.2.2.1, hD.weaken (fun _ _ _ _ => trivial), NW.warm hW C.2.2.2.2.2.2.2.2.2, hCF.move hW (fun q h1 h2 => by rw [hU]; exact hS.2.1 q h1 h2) hFc⟩
  have hbl : FrameBlind (va_Pc ((rf x :: As).map (vv ad)) (PW D tys ly ids ad μ H.size)) := fun a U g mk q => by
    obtain ⟨q0, q1, q2, q3, q4, q5, q6, q7, q8⟩ := q
    exact ⟨q0, q1, q2, q3, q4, va_K.moved (u := U) (U := U.calling g mk a) (Vm.Alike.refl U.vm) q5, q6, fun w hw hn => va_Nw.same (u := U) (by cases w <;> first | rfl | (simp [nestW] at hn; done)) rfl (q7 w hw hn), CF.same q8⟩
  subst hxo
  obtain ⟨q0, hq, -⟩ := wld_get (ly := ly) (ad := ad) (μ := μ) (hm hg)
  rw [hly] at hq
  have hstk : ((As.reverse ++ rf x :: st).map (vv ad)) = (As.map (vv ad)).reverse ++ .ref (ad x.toNat) :: st.map (vv ad) := by
    rw [List.map_append, List.map_reverse, List.map_cons, vv_rf, rv_at h0]
  have hre : (Value.ref (ad x.toNat) :: As.map (vv ad)) = (rf x :: As).map (vv ad) := by
    rw [List.map_cons, vv_rf, rv_at h0]
  rw [hstk]
  have hcz := hcs
  refine va_callv (va_runV (As := As.map (vv ad)) (rest := st.map (vv ad)) (n := n) ⟨C.1, C.2.1, C.2.2.1, C.2.2.2.1, hts⟩ (hM H.size) ⟨callB_of n hts (WS_good hcode) rfl rfl rfl (hts _ hini) (hts _ hlk) hdd hlR, hts _ hinst, hts _ hsel⟩ ⟨hbl, va_recv C.2.2.2.2.2.1 hP hc hq, fun U hU hW => by rw [hre]; exact hpre U hU hW⟩ rfl (by rw [List.length_map]; exact hn) hl.1 rfl (lv_room (by rw [List.map_map]; exact Nat.le_trans (Nat.le_of_eq (sum_cat ad st)) hst8)) hd ⟨hcz.1, hcz.2⟩) hS (fun q _ h => hFc q h) hFc (fun u t H1 locs1 ht hvm hw hB hz1 hk1 hS1 => ?_)
  subst hw
  obtain ⟨ho1, hg1, hP1, hK1, hD1⟩ := hB
  rw [ht] at hP1
  have K := kk ho1 hg1 H1 locs1 hP1 (hD1.weaken (fun k q _ h => hFc q.1 h)) hS1 ls hl
  exact K
theorem g_callVR (C : Cx p s m args meth c D tys A nL cc own ret) (hCF : CF ad A s) {y : MethodName} {bytes : ByteArray} {mL index lev : Nat} {ret2 : Option FieldType} {As : List AV} {x : Int} (o : Nat) (h0 : 0 ≤ x) (hxo : x.toNat = o) (hm : gho ids μ → o ∈ ids) {ci : Nat} {cs : List AV} (hly : ly ad o (μ o) = ceO ad ci cs) {T : u_T} {N : Nat} (hc : vwCl[ci]? = some (y.cls, T, N)) (hM : KK aR l D tys ly ids ad lev y bytes mL ret2 (rf x :: As) μ r μ') (hlR : (rmk lev).frames + 1 ≤ R.frames ∧ 8 + (mL + 11) + (rmk lev).locals ≤ R.locals) (hcs : cells + 0 ≤ R.cells ∧ slots + 0 ≤ R.slots) (hlk : Cond.methodLink own index y ∈ WS) (hcode : Cond.code y bytes mL ret2 ∈ WS) (hini : Cond.initialized y.cls ∈ WS) (hinst : Cond.instanceMethod y ∈ WS) (hsel : Cond.selects y.cls y y ∈ WS) (n : Nat) (hdd : y.cls ≠ "java/lang/invoke/MethodHandle" ∧ y.cls ≠ "java/lang/invoke/VarHandle" ∧ (parseMethodDescriptor y.desc).map (fun d => d.parameters.length) = some n) (hn : As.length = n) (hst8 : st.length ≤ 8) (hd : decode cc pc = .ok (.invokevirtual index, 3)) (kk : V p l e R s m args below meth c cells slots Q D A ly ids ad nL μ' (pc + 3) lv (rf r :: st)) : V p l e R s m args below meth c cells slots Q D A ly ids ad nL μ pc lv (As.reverse ++ rf x :: st) := by
  intro ho hg H locs hP hD hS ls hl
  have hts := C.2.2.2.2.1
  have hFc : ∀ q, va_A (wld ly ids ad μ) H.size q → A q := fun q h => by
    rcases h with ⟨k, ee, h⟩ | h
    · exact hD.2 k (q, ee) h
    · exact C.2.2.2.2.2.2.1 q (Nat.le_trans hS.1 h)
  have hpre : ∀ U : State, U.heap = H → s.WarmedH U.vm → va_Pc ((rf x :: As).map (vv ad)) (PW D tys ly ids ad μ H.size) ((rf x :: As).map (vv ad)).toArray U := fun U hU hW => ⟨rfl, by rw [hU], ho, hg, by rw [hU]; exact hP, va_K.moved hW.alike C.2.2.2.2.2.1, hD.weaken (fun _ _ _ _ => trivial), NW.warm hW C.2.2.2.2.2.2.2.2.2, hCF.move hW (fun q h1 h2 => by rw [hU]; exact hS.2.1 q h1 h2) hFc⟩
  have hbl : FrameBlind (va_Pc ((rf x :: As).map (vv ad)) (PW D tys ly ids ad μ H.size)) := fun a U g mk q => by
    obtain ⟨q0, q1, q2, q3, q4, q5, q6, q7, q8⟩ := q
    exact ⟨q0, q1, q2, q3, q4, va_K.moved (u := U) (U := U.calling g mk a) (Vm.Alike.refl U.vm) q5, q6, fun w hw hn => va_Nw.same (u := U) (by cases w <;> first | rfl | (simp [nestW] at hn; done)) rfl (q7 w hw hn), CF.same q8⟩
  subst hxo
  obtain ⟨q0, hq, -⟩ := wld_get (ly := ly) (ad := ad) (μ := μ) (hm hg)
  rw [hly] at hq
  have hstk : ((As.reverse ++ rf x :: st).map (vv ad)) = (As.map (vv ad)).reverse ++ .ref (ad x.toNat) :: st.map (vv ad) := by
    rw [List.map_append, List.map_reverse, List.map_cons, vv_rf, rv_at h0]
  have hre : (Value.ref (ad x.toNat) :: As.map (vv ad)) = (rf x :: As).map (vv ad) := by
    rw [List.map_cons, vv_rf, rv_at h0]
  rw [hstk]
  have hcz := hcs
  refine va_callq (va_runV (As := As.map (vv ad)) (rest := st.map (vv ad)) (n := n) ⟨C.1, C.2.1, C.2.2.1, C.2.2.2.1, hts⟩ (hM H.size) ⟨callB_of n hts (WS_good hcode) rfl rfl rfl (hts _ hini) (hts _ hlk) hdd hlR, hts _ hinst, hts _ hsel⟩ ⟨hbl, va_recv C.2.2.2.2.2.1 hP hc hq, fun U hU hW => by rw [hre]; exact hpre U hU hW⟩ rfl (by rw [List.length_map]; exact hn) hl.1 rfl (lv_room (by rw [List.map_map]; exact Nat.le_trans (Nat.le_of_eq (sum_cat ad st)) hst8)) hd ⟨hcz.1, hcz.2⟩) hS (fun q _ h => hFc q h) hFc (fun r0 u t H1 locs1 ht hvm hw hB hz1 hk1 hS1 => ?_)
  obtain ⟨rfl, rfl⟩ := hw
  obtain ⟨ho1, hg1, hP1, hK1, hD1⟩ := hB
  rw [ht] at hP1
  have K := kk ho1 hg1 H1 locs1 hP1 (hD1.weaken (fun k q _ h => hFc q.1 h)) hS1 ls hl
  rw [ptr_rv]
  exact K
theorem g_callSI (C : Cx p s m args meth c D tys A nL cc own ret) (hCF : CF ad A s) {y : MethodName} {bytes : ByteArray} {mL index lev : Nat} {ret2 : Option FieldType} {As : List AV} (hM : KK aI l D tys ly ids ad lev y bytes mL ret2 (As) μ r μ') (hlR : (rmk lev).frames + 1 ≤ R.frames ∧ 8 + (mL + 11) + (rmk lev).locals ≤ R.locals) (hcs : cells + 0 ≤ R.cells ∧ slots + 0 ≤ R.slots) (hlk : Cond.methodLink own index y ∈ WS) (hcode : Cond.code y bytes mL ret2 ∈ WS) (hini : Cond.initialized y.cls ∈ WS) (hst : Cond.static y ∈ WS) (n : Nat) (hdd : y.cls ≠ "java/lang/invoke/MethodHandle" ∧ y.cls ≠ "java/lang/invoke/VarHandle" ∧ (parseMethodDescriptor y.desc).map (fun d => d.parameters.length) = some n) (hn : As.length = n) (hst8 : st.length ≤ 8) (hd : decode cc pc = .ok (.invokestatic index, 3)) (kk : inR r → V p l e R s m args below meth c cells slots Q D A ly ids ad nL μ' (pc + 3) lv (nu r :: st)) : V p l e R s m args below meth c cells slots Q D A ly ids ad nL μ pc lv (As.reverse ++ st) := by
  intro ho hg H locs hP hD hS ls hl
  have hts := C.2.2.2.2.1
  have hFc : ∀ q, va_A (wld ly ids ad μ) H.size q → A q := fun q h => by
    rcases h with ⟨k, ee, h⟩ | h
    · exact hD.2 k (q, ee) h
    · exact C.2.2.2.2.2.2.1 q (Nat.le_trans hS.1 h)
  have hpre : ∀ U : State, U.heap = H → s.WarmedH U.vm → va_Pc ((As).map (vv ad)) (PW D tys ly ids ad μ H.size) ((As).map (vv ad)).toArray U := fun U hU hW => ⟨rfl, by rw [hU], ho, hg, by rw [hU]; exact hP, va_K.moved hW.alike C.2.2.2.2.2.1, hD.weaken (fun _ _ _ _ => trivial), NW.warm hW C.2.2.2.2.2.2.2.2.2, hCF.move hW (fun q h1 h2 => by rw [hU]; exact hS.2.1 q h1 h2) hFc⟩
  have hbl : FrameBlind (va_Pc ((As).map (vv ad)) (PW D tys ly ids ad μ H.size)) := fun a U g mk q => by
    obtain ⟨q0, q1, q2, q3, q4, q5, q6, q7, q8⟩ := q
    exact ⟨q0, q1, q2, q3, q4, va_K.moved (u := U) (U := U.calling g mk a) (Vm.Alike.refl U.vm) q5, q6, fun w hw hn => va_Nw.same (u := U) (by cases w <;> first | rfl | (simp [nestW] at hn; done)) rfl (q7 w hw hn), CF.same q8⟩
  have hstk : ((As.reverse ++ st).map (vv ad)) = (As.map (vv ad)).reverse ++ st.map (vv ad) := by
    rw [List.map_append, List.map_reverse]
  rw [hstk]
  have hcz := hcs
  refine va_calli (va_runS (As := As.map (vv ad)) (rest := st.map (vv ad)) (n := n) ⟨C.1, C.2.1, C.2.2.1, C.2.2.2.1, hts⟩ (hM H.size) ⟨callB_of n hts (WS_good hcode) rfl rfl rfl (hts _ hini) (hts _ hlk) hdd hlR, hts _ hst⟩ ⟨hbl, hpre⟩ rfl (by rw [List.length_map]; exact hn) hl.1 rfl (lv_room (by rw [List.map_map]; exact Nat.le_trans (Nat.le_of_eq (sum_cat ad st)) hst8)) hd ⟨hcz.1, hcz.2⟩) hS (fun q _ h => hFc q h) hFc (fun r0 u t H1 locs1 ht hvm hw hB hz1 hk1 hS1 => ?_)
  obtain ⟨⟨rfl, rfl⟩, hrr⟩ := hw
  obtain ⟨ho1, hg1, hP1, hK1, hD1⟩ := hB
  rw [ht] at hP1
  have K := kk hrr ho1 hg1 H1 locs1 hP1 (hD1.weaken (fun k q _ h => hFc q.1 h)) hS1 ls hl
  exact K
theorem g_callIV (C : Cx p s m args meth c D tys A nL cc own ret) (hCF : CF ad A s) {y : MethodName} {bytes : ByteArray} {mL index lev : Nat}  {As : List AV} {x : Int} (o : Nat) (h0 : 0 ≤ x) (hxo : x.toNat = o) (hm : gho ids μ → o ∈ ids) (hM : KK aV l D tys ly ids ad lev y bytes mL none (rf x :: As) μ r μ') (hlR : (rmk lev).frames + 1 ≤ R.frames ∧ 8 + (mL + 11) + (rmk lev).locals ≤ R.locals) (hcs : cells + 0 ≤ R.cells ∧ slots + 0 ≤ R.slots) (hlk : Cond.methodLink own index y ∈ WS) (hcode : Cond.code y bytes mL none ∈ WS) (hini : Cond.initialized y.cls ∈ WS) (hinst : Cond.instanceMethod y ∈ WS) (hyi : y.name = "<init>") (n : Nat) (hdd : y.cls ≠ "java/lang/invoke/MethodHandle" ∧ y.cls ≠ "java/lang/invoke/VarHandle" ∧ (parseMethodDescriptor y.desc).map (fun d => d.parameters.length) = some n) (hn : As.length = n) (hst8 : st.length ≤ 8) (hd : decode cc pc = .ok (.invokespecial index, 3)) (kk : V p l e R s m args below meth c cells slots Q D A ly ids ad nL μ' (pc + 3) lv st) : V p l e R s m args below meth c cells slots Q D A ly ids ad nL μ pc lv (As.reverse ++ rf x :: st) := by
  intro ho hg H locs hP hD hS ls hl
  have hts := C.2.2.2.2.1
  have hFc : ∀ q, va_A (wld ly ids ad μ) H.size q → A q := fun q h => by
    rcases h with ⟨k, ee, h⟩ | h
    · exact hD.2 k (q, ee) h
    · exact C.2.2.2.2.2.2.1 q (Nat.le_trans hS.1 h)
  have hpre : ∀ U : State, U.heap = H → s.WarmedH U.vm → va_Pc ((rf x :: As).map (vv ad)) (PW D tys ly ids ad μ H.size) ((rf x :: As).map (vv ad)).toArray U := fun U hU hW => ⟨rfl, by rw [hU], ho, hg, by rw [hU]; exact hP, va_K.moved hW.alike C.2.2.2.2.2.1, hD.weaken (fun _ _ _ _ => trivial), NW.warm hW C.2.2.2.2.2.2.2.2.2, hCF.move hW (fun q h1 h2 => by rw [hU]; exact hS.2.1 q h1 h2) hFc⟩
  have hbl : FrameBlind (va_Pc ((rf x :: As).map (vv ad)) (PW D tys ly ids ad μ H.size)) := fun a U g mk q => by
    obtain ⟨q0, q1, q2, q3, q4, q5, q6, q7, q8⟩ := q
    exact ⟨q0, q1, q2, q3, q4, va_K.moved (u := U) (U := U.calling g mk a) (Vm.Alike.refl U.vm) q5, q6, fun w hw hn => va_Nw.same (u := U) (by cases w <;> first | rfl | (simp [nestW] at hn; done)) rfl (q7 w hw hn), CF.same q8⟩
  subst hxo
  have hstk : ((As.reverse ++ rf x :: st).map (vv ad)) = (As.map (vv ad)).reverse ++ .ref (ad x.toNat) :: st.map (vv ad) := by
    rw [List.map_append, List.map_reverse, List.map_cons, vv_rf, rv_at h0]
  have hre : (Value.ref (ad x.toNat) :: As.map (vv ad)) = (rf x :: As).map (vv ad) := by
    rw [List.map_cons, vv_rf, rv_at h0]
  rw [hstk]
  have hcz := hcs
  refine va_callv (va_runI (As := As.map (vv ad)) (rest := st.map (vv ad)) (n := n) ⟨C.1, C.2.1, C.2.2.1, C.2.2.2.1, hts⟩ (hM H.size) ⟨callB_of n hts (WS_good hcode) rfl rfl rfl (hts _ hini) (hts _ hlk) hdd hlR, hyi, hts _ hinst⟩ ⟨hbl, fun U hU hW => by rw [hre]; exact hpre U hU hW⟩ rfl (by rw [List.length_map]; exact hn) hl.1 rfl (lv_room (by rw [List.map_map]; exact Nat.le_trans (Nat.le_of_eq (sum_cat ad st)) hst8)) hd ⟨hcz.1, hcz.2⟩) hS (fun q _ h => hFc q h) hFc (fun u t H1 locs1 ht hvm hw hB hz1 hk1 hS1 => ?_)
  subst hw
  obtain ⟨ho1, hg1, hP1, hK1, hD1⟩ := hB
  rw [ht] at hP1
  have K := kk ho1 hg1 H1 locs1 hP1 (hD1.weaken (fun k q _ h => hFc q.1 h)) hS1 ls hl
  exact K
end VN
