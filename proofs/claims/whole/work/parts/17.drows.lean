/-! ROWS of the making -/
def K0N (l : Launch) (D : va_G) (tys : List (ClassId × FieldType)) (ly : Lay) (ids : List Nat) (ad : Nat → Nat) (lev mc ms : Nat) (y : MethodName) (cc : ByteArray) (mL : Nat) (As : List AV) (μ : Mem) (ids1 : List Nat) (μ1 : Mem) : Prop :=
  ∀ sz : Nat, Met l y (Cond.code y cc mL none :: WS) (rmn lev mc ms) (va_Pc (As.map (vv ad)) (fun U => PW0 D tys ly ids ad μ sz U ∧ AO U)) (aVM D tys ly ids ad (va_A (wld ly ids ad μ) sz) ids1 μ1) mc ms (va_A (wld ly ids ad μ) sz)
theorem AO.moved {s U : State} (h : AO s) (hvm : s.vm.Alike U.vm) : AO U := ⟨va_AO.moved hvm h.1, va_AO.moved hvm h.2.1, va_AOA.moved hvm h.2.2⟩
theorem K0N.of {l : Launch} {D : va_G} {tys : List (ClassId × FieldType)} {ly : Lay} {ids : List Nat} {ad : Nat → Nat} {lev mc ms : Nat} {y : MethodName} {cc : ByteArray} {mL : Nat} {As : List AV} {μ : Mem} {ids1 : List Nat} {μ1 : Mem} (hy : plainName y.cls = true) (hn : As.length ≤ mL)
    (body : ∀ (p : Program) (e : Env) (s : State) (m : MethodId) (args : Array Value) (below : List Frame) (meth : Method) (c : Code) (A : Nat → Prop), Cx p s m args meth c D tys A mL cc y.cls none → CF ad A s → AO s → meth.name = y.name → V0 p l e (rmn lev mc ms) s m args below meth c 0 0 (MQ below (aVM D tys ly ids ad A ids1 μ1) args s mc ms A) D A ly ids ad mL μ 0 (entL As mL) []) : K0N l D tys ly ids ad lev mc ms y cc mL As μ ids1 μ1 := by
  intro sz
  refine Met.ofW (cc := cc) (maxL := mL) (ret := none) hy rfl ?_
  intro p e s m args below meth c s₁ B hml hv
  obtain ⟨rfl, ⟨rfl, ho, hg, hP, hK, hD, hNW, hCF⟩, hAO⟩ := hv
  have hts := atoms_spec (ws := Cond.code y cc mL none :: WS) B.pre
  have C : Cx p s m (As.map (vv ad)).toArray meth c D tys (va_A (wld ly ids ad μ) s.heap.size) mL cc y.cls none := ⟨B.exec, B.bytes, hml, findClass_of_methodNamed B.named, fun w hw => hts w (List.mem_cons_of_mem _ hw), hK, fun q hq => Or.inr hq, B.returns, B.notSynchronized, hNW⟩
  have K := body p e s m _ below meth c _ C hCF hAO (name_of_methodNamed B.named B.method).1 ho hg s.heap [] hP hD.self va_S.rf _ (ent_has ad As mL hn)
  rw [lg_entry_eq]
  exact K
theorem CF_ext0 {ids : List Nat} {ad u : Nat → Nat} {A : Nat → Prop} {U : State} (h : ext0 ids ad u) (hc : CF ad A U) : CF u A U := CF_ext h.2 hc
section W1
variable {p : Program} {l : Launch} {e : Env} {R : Room} {s : State} {m : MethodId} {args : Array Value} {below : List Frame} {meth : Method} {c : Code} {cells slots : Nat} {Q : State → Prop} {D : va_G} {tys : List (ClassId × FieldType)} {A : Nat → Prop} {ly : Lay} {ids : List Nat} {ad : Nat → Nat} {nL : Nat} {cc : ByteArray} {own : String} {ret : Option FieldType} {μ : Mem} {pc : Nat} {lv : LV} {st : List AV} {aq : AQ} {r : Int} {μ' : Mem}
theorem q_vretM (C : Cx p s m args meth c D tys A nL cc own ret) {ids0 : List Nat} {ad0 : Nat → Nat} {mc ms : Nat} (hr : ret = none) (hx : ext0 ids0 ad0 ad) (hmc : cells ≤ mc) (hms : slots ≤ ms) (hd : decode cc pc = .ok (.return_, 1)) : V0 p l e R s m args below meth c cells slots (MQ below (aVM D tys ly ids0 ad0 A ids μ) args s mc ms A) D A ly ids ad nL μ pc lv [] := by
  intro ho hg H locs hP hD hS ls hl
  refine W.widen hmc hms ?_
  exact W.vret C.1 C.2.1 (C.2.2.2.2.2.2.2.1.trans hr) (fun t ht hW => ⟨⟨ad, rfl, hx, ⟨ho, hg, by rw [ht]; exact hP, va_K.moved hW.alike C.2.2.2.2.2.1, hD⟩⟩, hS.F ht⟩) hS.2.2 hd C.2.2.2.2.2.2.2.2.1
/-- a new object of the class number ci, with the id o -/
theorem q_new {cy : Nat → ClassId} (C : Cx p s m args meth c D (tyl cy) A nL cc own ret) {index ci N : Nat} {Cn : String} {T : u_T} (hin : ∀ w ∈ u_ws Cn T N, w ∈ WS) (ty : Nat → FieldType) (hty : ∀ k, k < N → parseFieldDescriptor (T k).2.2.1 = some (ty k)) (hc : vwCl[ci]? = some (Cn, T, N)) (hcl : Cond.classLink own index Cn ∈ WS) (hinst : Cond.instantiable Cn N ∈ WS) (hini : Cond.initialized Cn ∈ WS) (o : Nat) {cs : List AV} (hly : ∀ ad, layD cy ad o (dfl o) = ceO ad ci cs) (hfs : ∀ (ad : Nat → Nat) (j : Nat), j < N → defaultValue (ty j) = vp_V (cs.map (vv ad)) j) {ids1 : List Nat} (hi1 : ids ++ [o] = ids1) (hoi : o ∉ ids) (hb : ∀ a ∈ ids, bas a = true) (hlv : ∀ v, some v ∈ lv → v.1 = true → v.2 < 0 ∨ v.2.toNat ≠ o) (hst : ∀ v ∈ st, v.1 = true → v.2 < 0 ∨ v.2.toNat ≠ o) (ho1 : o < 1000) (hcells : cells + 1 ≤ R.cells) (hslots : slots + N ≤ R.slots) (hd : decode cc pc = .ok (.new index, 3)) (kk : ∀ (q : Nat) (μ1 : Mem), μ1 = setr μ o (dfl o) → (CF ad A s → CF (adu ad o q) A s) → V0 p l e R s m args below meth c (cells + 1) (slots + N) Q D A (layD cy) ids1 (adu ad o q) nL μ1 (pc + 3) lv (rf o :: st)) : V0 p l e R s m args below meth c cells slots Q D A (layD cy) ids ad nL μ pc lv st := by
  subst hi1
  intro ho hg H locs hP hD hS ls hl
  refine va_new (ci := ci) (fs := cs.map (vv ad)) (C := Cn) (T := T) (N := N) C.1 C.2.1 C.2.2.2.2.1 hin ty hty C.2.2.2.1 (C.2.2.2.2.1 _ hcl) (C.2.2.2.2.1 _ hinst) (C.2.2.2.2.1 _ hini) C.2.2.2.2.2.1 hP hD hS C.2.2.2.2.2.2.1 hc (hfs ad) hcells hslots hd (fun q H1 hP1 hD1 hS1 => ?_)
  have hfs1 : ∀ j, j < N → vp_V (cs.map (vv ad)) j = vp_V (cs.map (vv (adu ad o q))) j := fun j hj => (hfs ad j hj).symm.trans (hfs _ j hj)
  have hP2 : va_P D vwCl (wld (layD cy) ids ad μ ++ [(q, ceO (adu ad o q) ci cs)]) H1 := by
    intro k x hx
    by_cases hlt : k < (wld (layD cy) ids ad μ).length
    · rw [List.getElem?_append_left hlt] at hx
      exact hP1 k x (by rw [List.getElem?_append_left hlt]; exact hx)
    · rw [List.getElem?_append_right (by omega)] at hx
      have h0 : k - (wld (layD cy) ids ad μ).length = 0 := by
        have := (List.getElem?_eq_some_iff.mp hx).1
        simp at this
        omega
      rw [h0] at hx
      cases hx
      obtain ⟨rr, h1, h2⟩ := hP1 k (q, .inr (ci, cs.map (vv ad))) (by rw [List.getElem?_append_right (by omega), h0]; rfl)
      have hr : rr = (Cn, T, N) := Option.some.inj (h1.symm.trans hc)
      subst hr
      exact ⟨_, hc, h2.to hfs1⟩
  have hD2 : va_D A (wld (layD cy) ids ad μ ++ [(q, ceO (adu ad o q) ci cs)]) := by
    have := hD1.set (p := (wld (layD cy) ids ad μ).length) (a := q) (e0 := .inr (ci, cs.map (vv ad))) (e := ceO (adu ad o q) ci cs) (by rw [List.getElem?_append_right (Nat.le_refl _), Nat.sub_self]; rfl)
    rwa [List.set_append_right _ _ (Nat.le_refl _), Nat.sub_self] at this
  rw [← wldD_new hb hg hoi (hly _)] at hP2 hD2
  have K := kk q _ rfl (CF_adu ho1) (ok_setr ho (dfl_in o)) (clo_setr hg hoi (fun k h => dfl_neg h)) H1 locs hP2 hD2 hS1 ls (by rw [lvp_adu hlv]; exact hl)
  rw [List.map_cons, map_adu hst, vv_rf, rv_at (by omega), show ((o : Int)).toNat = o by omega, adu_at] at K
  exact K
/-- a new row of numbers with the id o -/
theorem q_newa {cy : Nat → ClassId} (C : Cx p s m args meth c D (tyl cy) A nL cc own ret) {atype : ArrayType} {ty : FieldType} (t0 : Nat) (hty : newarray.typeOf atype = ty) (hac : Cond.arrayClass ty ∈ WS) (ht : (tyl cy)[t0]? = some (cy t0, ty)) (hra : ∀ cA : ClassId, va_RA s cA ty → s.vm.findClass ("[" ++ ty.toString) = some cA) (N : Nat) {z : Int} (hz : z = (N : Int)) (hN : N < 10000) (hdf : ∀ cA : ClassId, vp_cell cA (N, .inl (fun _ => zI 0)) = arrV cA N (fun _ => defaultValue ty)) (hby : N * componentBytes ty ≤ 536870912) (o : Nat) (hly : ∀ ad f, layD cy ad o f = ceN (cy t0) N f) (hrp : ∀ k, refpos o k = false) {ids1 : List Nat} (hi1 : ids ++ [o] = ids1) (hoi : o ∉ ids) (hb : ∀ a ∈ ids, bas a = true) (hlv : ∀ v, some v ∈ lv → v.1 = true → v.2 < 0 ∨ v.2.toNat ≠ o) (hst : ∀ v ∈ st, v.1 = true → v.2 < 0 ∨ v.2.toNat ≠ o) (ho1 : o < 1000) (hcells : cells + 1 ≤ R.cells) (hslots : slots + N ≤ R.slots) (hd : decode cc pc = .ok (.newarray atype, 2)) (kk : ∀ (q : Nat) (μ1 : Mem), μ1 = setr μ o (fun _ => 0) → (CF ad A s → CF (adu ad o q) A s) → V0 p l e R s m args below meth c (cells + 1) (slots + N) Q D A (layD cy) ids1 (adu ad o q) nL μ1 (pc + 2) lv (rf o :: st)) : V0 p l e R s m args below meth c cells slots Q D A (layD cy) ids ad nL μ pc lv (nu z :: st) := by
  subst hi1
  subst hz
  subst hty
  intro ho hg H locs hP hD hS ls hl
  rw [List.map_cons, vv_nu]
  have hzr : inR ((N : Nat) : Int) := ⟨by omega, by omega⟩
  refine va_newa (atype := atype) (N' := N) (a0 := (N, .inl (fun _ => zI 0))) (ty := newarray.typeOf atype) C.1 C.2.1 (C.2.2.2.2.1 _ hac) rfl C.2.2.2.2.2.1 hP hD hS C.2.2.2.2.2.2.1 hdf (by rw [show (0 : Int32) = zI 0 from rfl, zI_lt hzr z0_in]; omega) (by rw [zI_clamp hzr]; omega) hby hcells hslots hd (fun q cA H1 hK1 hP1 hD1 hS1 => ?_)
  have e1 := hra cA (hK1.2 6 (cA, newarray.typeOf atype) rfl).2
  have e2 := hra (cy t0) (C.2.2.2.2.2.1.2 t0 (cy t0, newarray.typeOf atype) ht).2
  have e3 : cA = cy t0 := Option.some.inj (e1.symm.trans e2)
  subst e3
  rw [← wldD_new hb hg hoi (hly (adu ad o q) (fun _ => 0))] at hP1 hD1
  have K := kk q _ rfl (CF_adu ho1) (ok_setr ho (fun _ => z0_in)) (clo_setr hg hoi (fun k h => by rw [hrp k] at h; cases h)) H1 locs hP1 hD1 hS1 ls (by rw [lvp_adu hlv]; exact hl)
  rw [List.map_cons, map_adu hst, vv_rf, rv_at (by omega), show ((o : Int)).toNat = o by omega, adu_at] at K
  exact K
/-- a new row of references, all null -/
theorem q_newq {cy : Nat → ClassId} (C : Cx p s m args meth c D (tyl cy) A nL cc own ret) {Cn : String} {index : Nat} (t0 : Nat) (hcl : Cond.classLink own index Cn ∈ WS) (hao : va_AO Cn s) (ht : (tyl cy)[t0]? = some (cy t0, .object Cn)) (N : Nat) {z : Int} (hz : z = (N : Int)) (hN : N < 10000) (o : Nat) (hly : ∀ ad f, layD cy ad o f = ceR ad (cy t0) N f) {ids1 : List Nat} (hi1 : ids ++ [o] = ids1) (hoi : o ∉ ids) (hb : ∀ a ∈ ids, bas a = true) (hlv : ∀ v, some v ∈ lv → v.1 = true → v.2 < 0 ∨ v.2.toNat ≠ o) (hst : ∀ v ∈ st, v.1 = true → v.2 < 0 ∨ v.2.toNat ≠ o) (ho1 : o < 1000) (hcells : cells + 1 ≤ R.cells) (hslots : slots + N ≤ R.slots) (hd : decode cc pc = .ok (.anewarray index, 3)) (kk : ∀ (q : Nat) (μ1 : Mem), μ1 = setr μ o (fun _ => -1) → (CF ad A s → CF (adu ad o q) A s) → V0 p l e R s m args below meth c (cells + 1) (slots + N) Q D A (layD cy) ids1 (adu ad o q) nL μ1 (pc + 3) lv (rf o :: st)) : V0 p l e R s m args below meth c cells slots Q D A (layD cy) ids ad nL μ pc lv (nu z :: st) := by
  subst hi1
  subst hz
  intro ho hg H locs hP hD hS ls hl
  rw [List.map_cons, vv_nu]
  have hzr : inR ((N : Nat) : Int) := ⟨by omega, by omega⟩
  refine va_newq (C := Cn) (N' := N) C.1 C.2.1 C.2.2.2.1 (C.2.2.2.2.1 _ hcl) hao C.2.2.2.2.2.1 hP hD hS C.2.2.2.2.2.2.1 (by rw [show (0 : Int32) = zI 0 from rfl, zI_lt hzr z0_in]; omega) (by rw [zI_clamp hzr]; omega) (by omega) hcells hslots hd (fun q cA H1 hK1 hP1 hD1 hS1 => ?_)
  obtain ⟨k1, c1, a1, a2, a3, a4⟩ := (hK1.2 6 (cA, .object Cn) rfl).2
  obtain ⟨k2, c2, b1, b2, b3, b4⟩ := (C.2.2.2.2.2.1.2 t0 (cy t0, .object Cn) ht).2
  have e3 : cA = cy t0 := Option.some.inj (a4.symm.trans b4)
  subst e3
  have hce : layD cy (adu ad o q) o (fun _ => -1) = .inl (cy t0, N, .inr (.inr (.inr (.inr (fun _ => none))))) := by
    rw [hly]
    rfl
  rw [← wldD_new hb hg hoi hce] at hP1 hD1
  have K := kk q _ rfl (CF_adu ho1) (ok_setr ho (fun _ => ⟨by decide, by decide⟩)) (clo_setr hg hoi (fun k _ => by decide)) H1 locs hP1 hD1 hS1 ls (by rw [lvp_adu hlv]; exact hl)
  rw [List.map_cons, map_adu hst, vv_rf, rv_at (by omega), show ((o : Int)).toNat = o by omega, adu_at] at K
  exact K
theorem q_putR (C : Cx p s m args meth c D tys A nL cc own ret) (hmn : meth.name = "<init>") {x z : Int} (o : Nat) (h0 : 0 ≤ x) (hxo : x.toNat = o) (hm : clo ids μ → o ∈ ids) {ci : Nat} {cs cs' : List AV} (hly : ly ad o (μ o) = ceO ad ci cs) (k : Nat) (hly' : ly ad o (upf (μ o) k z) = ceO ad ci cs') (hcs : cs.set k (rf z) = cs') (hkl : k < cs.length) (hz0 : 0 ≤ z) (hzi : z.toNat ∈ ids) (hz : inR z) {Cn : String} {T : u_T} {N : Nat} (hc : vwCl[ci]? = some (Cn, T, N)) (hin : ∀ w ∈ u_ws Cn T N, w ∈ WS) (ty0 : Nat → FieldType) (hty : ∀ k, k < N → parseFieldDescriptor (T k).2.2.1 = some (ty0 k)) (hnm : ∀ a, a < N → ∀ b, b < N → a ≠ b → (T a).2.1 ≠ (T b).2.1) (hk : k < N) {index : Nat} (hw : Cond.fieldLink own index (T k).1 (T k).2.1 (T k).2.2.1 ∈ WS) (hfin : (T k).2.2.2 = true) (hdecl : (T k).1 = own) {ty : FieldType} (hd2 : parseFieldDescriptor (T k).2.2.1 = some ty) (hnr : ∀ a, narrow ty (.ref a) = .ref a) (hft : ∀ a, fits ty (.ref a) = true) (hd : decode cc pc = .ok (.putfield index, 3)) (kk : ∀ μ1 : Mem, μ1 = up μ o k z → V0 p l e R s m args below meth c cells slots Q D A ly ids ad nL μ1 (pc + 3) lv st) : V0 p l e R s m args below meth c cells slots Q D A ly ids ad nL μ pc lv (rf z :: rf x :: st) := by
  subst hxo
  subst hcs
  intro ho hg H locs hP hD hS ls hl
  obtain ⟨q0, hq, hi⟩ := wld_get (ly := ly) (ad := ad) (μ := μ) (hm hg)
  rw [hly] at hq
  rw [List.map_cons, List.map_cons, vv_rf, vv_rf, rv_at h0, rv_at hz0]
  refine va_putF (D := D) (ci := ci) (v := .ref (ad z.toNat)) (ty := ty) C.1 C.2.1 C.2.2.2.2.1 hin ty0 hty hnm C.2.2.2.1 C.2.2.2.2.2.1 hP hD hS q0 hq hc k hk (C.2.2.2.2.1 _ hw) (fun _ h => h) hfin hmn hdecl hd2 (hnr _) (hft _) (by rw [List.length_map]; exact hkl) hd (fun H1 locs1 hP1 hD1 hS1 => ?_)
  have he : (Sum.inr (ci, (cs.map (vv ad)).set k (.ref (ad z.toNat))) : va_E) = ceO ad ci (cs.set k (rf z)) := by
    show (Sum.inr (ci, (cs.map (vv ad)).set k (.ref (ad z.toNat))) : va_E) = Sum.inr (ci, (cs.set k (rf z)).map (vv ad))
    rw [List.map_set, vv_rf, rv_at hz0]
  rw [he, wld_set hD hi hly'] at hP1 hD1
  exact kk _ rfl (ok_up ho hz) (clo_upR hg (Or.inr hzi)) H1 locs1 hP1 hD1 hS1 ls hl
theorem h_callIM (C : Cx p s m args meth c D tys A nL cc own ret) (hCF : CF ad A s) {y : MethodName} {bytes : ByteArray} {mL index lev mc ms : Nat} {ids1 : List Nat} {μ1 : Mem} (hAO : AO s) (hlb : ∀ a ∈ ids, bas a = true)  {As : List AV} {x : Int} (o : Nat) (h0 : 0 ≤ x) (hxo : x.toNat = o) (hm : clo ids μ → o ∈ ids) (hM : K0N l D tys ly ids ad lev mc ms y bytes mL (rf x :: As) μ ids1 μ1) (hlR : (rmn lev mc ms).frames + 1 ≤ R.frames ∧ 8 + (mL + 11) + (rmn lev mc ms).locals ≤ R.locals) (hcs : cells + mc ≤ R.cells ∧ slots + ms ≤ R.slots) (hlk : Cond.methodLink own index y ∈ WS) (hcode : Cond.code y bytes mL none ∈ WS) (hini : Cond.initialized y.cls ∈ WS) (hinst : Cond.instanceMethod y ∈ WS) (hyi : y.name = "<init>") (n : Nat) (hdd : y.cls ≠ "java/lang/invoke/MethodHandle" ∧ y.cls ≠ "java/lang/invoke/VarHandle" ∧ (parseMethodDescriptor y.desc).map (fun d => d.parameters.length) = some n) (hn : As.length = n) (hst8 : st.length ≤ 8) (hd : decode cc pc = .ok (.invokespecial index, 3)) (hlv : ∀ v, some v ∈ lv → v.1 = true → v.2 < 0 ∨ v.2.toNat ∈ ids ∨ 1000 ≤ v.2.toNat) (hsv : ∀ v ∈ st, v.1 = true → v.2 < 0 ∨ v.2.toNat ∈ ids ∨ 1000 ≤ v.2.toNat) (kk : ∀ ad1 : Nat → Nat, ext0 ids ad ad1 → (CF ad A s → CF ad1 A s) → V0 p l e R s m args below meth c (cells + mc) (slots + ms) Q D A ly ids1 ad1 nL μ1 (pc + 3) lv st) : V0 p l e R s m args below meth c cells slots Q D A ly ids ad nL μ pc lv (As.reverse ++ rf x :: st) := by
  intro ho hg H locs hP hD hS ls hl
  have hts := C.2.2.2.2.1
  have hFc : ∀ q, va_A (wld ly ids ad μ) H.size q → A q := fun q h => by
    rcases h with ⟨k, ee, h⟩ | h
    · exact hD.2 k (q, ee) h
    · exact C.2.2.2.2.2.2.1 q (Nat.le_trans hS.1 h)
  have hpre : ∀ U : State, U.heap = H → s.WarmedH U.vm → va_Pc ((rf x :: As).map (vv ad)) (fun U => PW0 D tys ly ids ad μ H.size U ∧ AO U) ((rf x :: As).map (vv ad)).toArray U := fun U hU hW => ⟨rfl, ⟨by rw [hU], ho, hg, by rw [hU]; exact hP, va_K.moved hW.alike C.2.2.2.2.2.1, hD.weaken (fun _ _ _ _ => trivial), NW.warm hW C.2.2.2.2.2.2.2.2.2, hCF.move hW (fun q h1 h2 => by rw [hU]; exact hS.2.1 q h1 h2) hFc⟩, hAO.moved hW.alike⟩
  have hbl : FrameBlind (va_Pc ((rf x :: As).map (vv ad)) (fun U => PW0 D tys ly ids ad μ H.size U ∧ AO U)) := fun a U g mk q => by
    obtain ⟨q0, ⟨q1, q2, q3, q4, q5, q6, q7, q8⟩, q9⟩ := q
    exact ⟨q0, ⟨q1, q2, q3, q4, va_K.moved (u := U) (U := U.calling g mk a) (Vm.Alike.refl U.vm) q5, q6, fun w hw hn => va_Nw.same (u := U) (by cases w <;> first | rfl | (simp [nestW] at hn; done)) rfl (q7 w hw hn), CF.same q8⟩, q9.moved (Vm.Alike.refl U.vm)⟩
  subst hxo
  have hstk : ((As.reverse ++ rf x :: st).map (vv ad)) = (As.map (vv ad)).reverse ++ .ref (ad x.toNat) :: st.map (vv ad) := by
    rw [List.map_append, List.map_reverse, List.map_cons, vv_rf, rv_at h0]
  have hre : (Value.ref (ad x.toNat) :: As.map (vv ad)) = (rf x :: As).map (vv ad) := by
    rw [List.map_cons, vv_rf, rv_at h0]
  rw [hstk]
  have hcz := hcs
  refine va_callv (va_runI (As := As.map (vv ad)) (rest := st.map (vv ad)) (n := n) ⟨C.1, C.2.1, C.2.2.1, C.2.2.2.1, hts⟩ (hM H.size) ⟨callB_of n hts (WS_good hcode) rfl rfl rfl (hts _ hini) (hts _ hlk) hdd hlR, hyi, hts _ hinst⟩ ⟨hbl, fun U hU hW => by rw [hre]; exact hpre U hU hW⟩ rfl (by rw [List.length_map]; exact hn) hl.1 rfl (lv_room (by rw [List.map_map]; exact Nat.le_trans (Nat.le_of_eq (sum_cat ad st)) hst8)) hd ⟨hcz.1, hcz.2⟩) hS (fun q _ h => hFc q h) hFc (fun u t H1 locs1 ht hvm hw hB hz1 hk1 hS1 => ?_)
  have hav : ∀ v : AV, (v.1 = true → v.2 < 0 ∨ v.2.toNat ∈ ids ∨ 1000 ≤ v.2.toNat) → vv u v = vv ad v := fun v hv => by
    unfold vv
    split
    · rename_i h1
      unfold rv
      split
      · rfl
      · rcases hv h1 with h2 | h2 | h2
        · omega
        · exact congrArg Value.ref (hw.1 _ h2)
        · exact congrArg Value.ref (hw.2 _ h2)
    · rfl
  have hl1 : lvp u lv = lvp ad lv := by
    unfold lvp
    congr 1
    funext i
    cases hi : lv[i]? with
    | none => rfl
    | some w =>
      cases w with
      | none => rfl
      | some v =>
        show some (i, vv u v) = some (i, vv ad v)
        rw [hav v (hlv v (List.mem_of_getElem? hi))]
  obtain ⟨ho1, hg1, hP1, hK1, hD1⟩ := hB
  rw [ht] at hP1
  have K := kk u hw (CF_ext0 hw) ho1 hg1 H1 locs1 hP1 (hD1.weaken (fun k q _ h => hFc q.1 h)) hS1 ls (by rw [hl1]; exact hl)
  rw [List.map_congr_left (fun v hv => hav v (hsv v hv))] at K
  exact K
theorem h_callIMN (C : Cx p s m args meth c D tys A nL cc own ret) (hCF : CF ad A s) {y : MethodName} {bytes : ByteArray} {mL index lev mc ms : Nat} {ids1 : List Nat} {μ1 : Mem} (hAO : AO s) (hlb : ∀ a ∈ ids, bas a = true)  {As : List AV} {x : Int} (o : Nat) (h0 : 0 ≤ x) (hxo : x.toNat = o) (hm : clo ids μ → o ∈ ids) (hM : K0N l D tys ly ids ad lev mc ms y bytes mL (rf x :: As) μ ids1 μ1) (hlR : (rmn lev mc ms).frames + 1 ≤ R.frames ∧ 8 + (mL + 11) + (rmn lev mc ms).locals ≤ R.locals) (hcs : cells + mc ≤ R.cells ∧ slots + ms ≤ R.slots) {host : String} (hlk : Cond.methodLinkNest own index y host ∈ lw_tbl) (hcode : Cond.code y bytes mL none ∈ WS) (hini : Cond.initialized y.cls ∈ WS) (hinst : Cond.instanceMethod y ∈ WS) (hyi : y.name = "<init>") (n : Nat) (hdd : y.cls ≠ "java/lang/invoke/MethodHandle" ∧ y.cls ≠ "java/lang/invoke/VarHandle" ∧ (parseMethodDescriptor y.desc).map (fun d => d.parameters.length) = some n) (hn : As.length = n) (hst8 : st.length ≤ 8) (hd : decode cc pc = .ok (.invokespecial index, 3)) (hlv : ∀ v, some v ∈ lv → v.1 = true → v.2 < 0 ∨ v.2.toNat ∈ ids ∨ 1000 ≤ v.2.toNat) (hsv : ∀ v ∈ st, v.1 = true → v.2 < 0 ∨ v.2.toNat ∈ ids ∨ 1000 ≤ v.2.toNat) (kk : ∀ ad1 : Nat → Nat, ext0 ids ad ad1 → (CF ad A s → CF ad1 A s) → V0 p l e R s m args below meth c (cells + mc) (slots + ms) Q D A ly ids1 ad1 nL μ1 (pc + 3) lv st) : V0 p l e R s m args below meth c cells slots Q D A ly ids ad nL μ pc lv (As.reverse ++ rf x :: st) := by
  intro ho hg H locs hP hD hS ls hl
  have hts := C.2.2.2.2.1
  have hFc : ∀ q, va_A (wld ly ids ad μ) H.size q → A q := fun q h => by
    rcases h with ⟨k, ee, h⟩ | h
    · exact hD.2 k (q, ee) h
    · exact C.2.2.2.2.2.2.1 q (Nat.le_trans hS.1 h)
  have hpre : ∀ U : State, U.heap = H → s.WarmedH U.vm → va_Pc ((rf x :: As).map (vv ad)) (fun U => PW0 D tys ly ids ad μ H.size U ∧ AO U) ((rf x :: As).map (vv ad)).toArray U := fun U hU hW => ⟨rfl, ⟨by rw [hU], ho, hg, by rw [hU]; exact hP, va_K.moved hW.alike C.2.2.2.2.2.1, hD.weaken (fun _ _ _ _ => trivial), NW.warm hW C.2.2.2.2.2.2.2.2.2, hCF.move hW (fun q h1 h2 => by rw [hU]; exact hS.2.1 q h1 h2) hFc⟩, hAO.moved hW.alike⟩
  have hbl : FrameBlind (va_Pc ((rf x :: As).map (vv ad)) (fun U => PW0 D tys ly ids ad μ H.size U ∧ AO U)) := fun a U g mk q => by
    obtain ⟨q0, ⟨q1, q2, q3, q4, q5, q6, q7, q8⟩, q9⟩ := q
    exact ⟨q0, ⟨q1, q2, q3, q4, va_K.moved (u := U) (U := U.calling g mk a) (Vm.Alike.refl U.vm) q5, q6, fun w hw hn => va_Nw.same (u := U) (by cases w <;> first | rfl | (simp [nestW] at hn; done)) rfl (q7 w hw hn), CF.same q8⟩, q9.moved (Vm.Alike.refl U.vm)⟩
  subst hxo
  have hstk : ((As.reverse ++ rf x :: st).map (vv ad)) = (As.map (vv ad)).reverse ++ .ref (ad x.toNat) :: st.map (vv ad) := by
    rw [List.map_append, List.map_reverse, List.map_cons, vv_rf, rv_at h0]
  have hre : (Value.ref (ad x.toNat) :: As.map (vv ad)) = (rf x :: As).map (vv ad) := by
    rw [List.map_cons, vv_rf, rv_at h0]
  rw [hstk]
  have hcz := hcs
  refine va_callv (va_runIN (As := As.map (vv ad)) (rest := st.map (vv ad)) (n := n) ⟨C.1, C.2.1, C.2.2.1, C.2.2.2.1, hts⟩ (hM H.size) ⟨va_cnB n hts (WS_good hcode) rfl rfl rfl (C.2.2.2.2.2.2.2.2.2 _ hlk rfl) (hts _ hini) hdd hlR, hyi, hts _ hinst⟩ ⟨hbl, fun U hU hW => by rw [hre]; exact hpre U hU hW⟩ rfl (by rw [List.length_map]; exact hn) hl.1 rfl (lv_room (by rw [List.map_map]; exact Nat.le_trans (Nat.le_of_eq (sum_cat ad st)) hst8)) hd ⟨hcz.1, hcz.2⟩) hS (fun q _ h => hFc q h) hFc (fun u t H1 locs1 ht hvm hw hB hz1 hk1 hS1 => ?_)
  have hav : ∀ v : AV, (v.1 = true → v.2 < 0 ∨ v.2.toNat ∈ ids ∨ 1000 ≤ v.2.toNat) → vv u v = vv ad v := fun v hv => by
    unfold vv
    split
    · rename_i h1
      unfold rv
      split
      · rfl
      · rcases hv h1 with h2 | h2 | h2
        · omega
        · exact congrArg Value.ref (hw.1 _ h2)
        · exact congrArg Value.ref (hw.2 _ h2)
    · rfl
  have hl1 : lvp u lv = lvp ad lv := by
    unfold lvp
    congr 1
    funext i
    cases hi : lv[i]? with
    | none => rfl
    | some w =>
      cases w with
      | none => rfl
      | some v =>
        show some (i, vv u v) = some (i, vv ad v)
        rw [hav v (hlv v (List.mem_of_getElem? hi))]
  obtain ⟨ho1, hg1, hP1, hK1, hD1⟩ := hB
  rw [ht] at hP1
  have K := kk u hw (CF_ext0 hw) ho1 hg1 H1 locs1 hP1 (hD1.weaken (fun k q _ h => hFc q.1 h)) hS1 ls (by rw [hl1]; exact hl)
  rw [List.map_congr_left (fun v hv => hav v (hsv v hv))] at K
  exact K
end W1
