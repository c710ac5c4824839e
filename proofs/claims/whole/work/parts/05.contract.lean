/-! CONTRACTS -/
def strLen : List Nat := [4, 4, 3, 3, 4, 4, 5, 0]
def strByt : List (List Int32) := [[102, 108, 97, 116], [114, 97, 109, 112], [99, 117, 116], [119, 97, 121], [114, 97, 102, 116], [114, 111, 112, 101], [101, 97, 114, 116, 104], []]
def strR : List (String × Nat × String × Nat) := [("StoneWorks$TableReader", 85, "flat", 0), ("StoneWorks$TableReader", 87, "ramp", 1), ("StoneWorks$TableReader", 89, "cut", 2), ("StoneWorks$TableReader", 91, "way", 3), ("StoneWorks$TableReader", 93, "raft", 4), ("StoneWorks$TableReader", 95, "rope", 5), ("StoneWorks$TableReader", 97, "earth", 6), ("StoneWorksModel", 150, "flat", 0), ("StoneWorksModel", 152, "ramp", 1), ("StoneWorksModel", 154, "cut", 2), ("StoneWorksModel", 156, "way", 3), ("StoneWorksModel", 158, "raft", 4), ("StoneWorksModel", 160, "rope", 5), ("StoneWorksModel", 162, "earth", 6), ("StoneWorksModel", 164, "", 7)]
def kWithout : List Int := [5, 5, 5, 5, 2, 3, 4, 200, 10]
def kFrom : List Int := [0, 2, 4, 5, 6, 7, 8, 9]
def kGreatest : List Int := [99, 99, 99, 99, 99, 20, 20, 200, 99]
/-- a constant row of numbers under a static field -/
def cfRow (ad : Nat → Nat) (C n : String) (i : Nat) (ks : List Int) (A : Nat → Prop) (U : State) : Prop := va_Z C n "[I" (.ref (ad i)) A U U.heap ∧ va_T .int (ad i) ks.length (fun j => iv (ks.getD j 0)) A U U.heap
/-- the constants that the launch holds: texts, rows, flags; none of them is a cell of the world -/
def CF (ad : Nat → Nat) (A : Nat → Prop) (U : State) : Prop :=
  vk_S 8 strLen strByt (fun i => ad (1000 + i)) (fun i => ad (1020 + i)) A U U.heap ∧ (∀ q ∈ strR, vk_R q.1 q.2.1 q.2.2.1 (ad (1000 + q.2.2.2)) U) ∧
  cfRow ad "StoneWorks$Table" "WITHOUT" 1010 kWithout A U ∧ cfRow ad "StoneWorks$TableReader" "NUMBERS_FROM" 1011 kFrom A U ∧ cfRow ad "StoneWorks$TableReader" "GREATEST" 1012 kGreatest A U ∧
  va_Z "java/lang/String" "COMPACT_STRINGS" "Z" (.int 1) A U U.heap ∧ (va_Z "jdk/internal/util/Preconditions" "SIOOBE_FORMATTER" "Ljava/util/function/BiFunction;" .null A U U.heap ∨ va_Z "jdk/internal/util/Preconditions" "SIOOBE_FORMATTER" "Ljava/util/function/BiFunction;" (.ref (ad 1030)) A U U.heap)
theorem cfRow.move {ad : Nat → Nat} {C n : String} {i : Nat} {ks : List Int} {A B : Nat → Prop} {s U : State} (h : cfRow ad C n i ks A s) (hv : s.vm.Alike U.vm) (hk : ∀ q : Nat, q < s.heap.size → ¬ A q → U.heap[q]? = s.heap[q]?) (hAB : ∀ q, B q → A q) : cfRow ad C n i ks B U :=
  ⟨((h.1.kept hk).moved hv).narrow hAB, ((h.2.kept hk).moved hv).narrow hAB⟩
theorem CF.move {ad : Nat → Nat} {A B : Nat → Prop} {s U : State} (h : CF ad A s) (hW : s.WarmedH U.vm) (hk : ∀ q : Nat, q < s.heap.size → ¬ A q → U.heap[q]? = s.heap[q]?) (hAB : ∀ q, B q → A q) : CF ad B U := by
  obtain ⟨h1, h2, h3, h4, h5, h6, h7⟩ := h
  have hv := hW.alike
  exact ⟨((h1.kept hk).moved hv).narrow hAB, fun q hq => vk_R.warm hW (h2 q hq), h3.move hv hk hAB, h4.move hv hk hAB, h5.move hv hk hAB, ((h6.kept hk).moved hv).narrow hAB, h7.elim (fun h => Or.inl (((h.kept hk).moved hv).narrow hAB)) (fun h => Or.inr (((h.kept hk).moved hv).narrow hAB))⟩
/-- the world at a method's start -/
def PW (D : va_G) (tys : List (ClassId × FieldType)) (ly : Lay) (ids : List Nat) (ad : Nat → Nat) (μ : Mem) (sz : Nat) (U : State) : Prop :=
  U.heap.size = sz ∧ ok μ ∧ gho ids μ ∧ va_P D vwCl (wld ly ids ad μ) U.heap ∧ va_K D vwCl tys U ∧ va_D (fun _ => True) (wld ly ids ad μ) ∧ NW U ∧ CF ad (va_A (wld ly ids ad μ) sz) U
/-- and at its end -/
def PE (D : va_G) (tys : List (ClassId × FieldType)) (ly : Lay) (ids : List Nat) (ad : Nat → Nat) (A : Nat → Prop) (μ : Mem) (t : State) : Prop :=
  ok μ ∧ gho ids μ ∧ va_P D vwCl (wld ly ids ad μ) t.heap ∧ va_K D vwCl tys t ∧ va_D A (wld ly ids ad μ)
/-- the room of a method by its height over the leaves -/
def rmk (lev : Nat) : Room := { frames := lev, cells := 0, slots := 0, locals := 60 * lev }
/-- what a method answers: a number, nothing, a reference -/
def aI (D : va_G) (tys : List (ClassId × FieldType)) (ly : Lay) (ids : List Nat) (ad : Nat → Nat) (A : Nat → Prop) (r : Int) (μ' : Mem) : Array Value → State → Outcome → State → Prop := va_Qi (fun r0 u => (r0 = zI r ∧ u = μ') ∧ inR r) (PE D tys ly ids ad A) A
def aV (D : va_G) (tys : List (ClassId × FieldType)) (ly : Lay) (ids : List Nat) (ad : Nat → Nat) (A : Nat → Prop) (_ : Int) (μ' : Mem) : Array Value → State → Outcome → State → Prop := va_Qv (fun u => u = μ') (PE D tys ly ids ad A) A
def aR (D : va_G) (tys : List (ClassId × FieldType)) (ly : Lay) (ids : List Nat) (ad : Nat → Nat) (A : Nat → Prop) (r : Int) (μ' : Mem) : Array Value → State → Outcome → State → Prop := va_Qq (fun r0 u => r0 = ptr ad r ∧ u = μ') (PE D tys ly ids ad A) A
abbrev AQ : Type := va_G → List (ClassId × FieldType) → Lay → List Nat → (Nat → Nat) → (Nat → Prop) → Int → Mem → Array Value → State → Outcome → State → Prop
/-- THE CONTRACT of a method that makes nothing: from the memory mu with these arguments it ends with the answer r and the memory mu' -/
def KK (aq : AQ) (l : Launch) (D : va_G) (tys : List (ClassId × FieldType)) (ly : Lay) (ids : List Nat) (ad : Nat → Nat) (lev : Nat) (y : MethodName) (cc : ByteArray) (mL : Nat) (ret : Option FieldType) (As : List AV) (μ : Mem) (r : Int) (μ' : Mem) : Prop :=
  ∀ sz : Nat, Met l y (Cond.code y cc mL ret :: WS) (rmk lev) (va_Pc (As.map (vv ad)) (PW D tys ly ids ad μ sz)) (aq D tys ly ids ad (va_A (wld ly ids ad μ) sz) r μ') 0 0 (va_A (wld ly ids ad μ) sz)
def entL (As : List AV) (n : Nat) : LV := As.map some ++ List.replicate (n - As.length) none
theorem lg_sl1 (ad : Nat → Nat) (As : List AV) : lg_sl (As.map (vv ad)) = As.map (fun v => Slot.val (vv ad v)) := by
  induction As with
  | nil => rfl
  | cons v vs ih =>
    show lg_sl (vv ad v :: vs.map (vv ad)) = _
    unfold lg_sl at ih ⊢
    rw [List.flatMap_cons, ih, if_neg (by rw [vv_cat]; decide)]
    rfl
theorem lv_args1 (ad : Nat → Nat) : ∀ (As : List AV) (b i : Nat) (v : AV), As[i]? = some v → (b + i, vv ad v) ∈ lv_args b (As.map (vv ad))
  | [], _, _, _, h => by simp at h
  | w :: ws, b, 0, v, h => by
    simp only [List.getElem?_cons_zero, Option.some.injEq] at h
    subst h
    exact List.mem_cons_self
  | w :: ws, b, i + 1, v, h => by
    have h1 := lv_args1 ad ws (b + 1) i v (by simpa using h)
    show _ ∈ (b, vv ad w) :: lv_args (if (vv ad w).category = 2 then b + 2 else b + 1) (ws.map (vv ad))
    rw [if_neg (by rw [vv_cat]; decide)]
    refine List.mem_cons_of_mem _ ?_
    rw [show b + (i + 1) = b + 1 + i by omega]
    exact h1
theorem ent_has (ad : Nat → Nat) (As : List AV) (n : Nat) (h : As.length ≤ n) : lv_has ((lg_sl (As.map (vv ad)) ++ List.replicate (n - (lg_sl (As.map (vv ad))).length) Slot.unset).toArray) n (lvp ad (entL As n)) := by
  have hl := lv_entry (As.map (vv ad)) (n := n) (by rw [lg_sl1, List.length_map]; exact h)
  refine ⟨hl.1, hl.2.1, fun q hq => ?_⟩
  obtain ⟨v, h1, h2⟩ := lvp_of hq
  have h3 : As[q.1]? = some v := by
    unfold entL at h1
    by_cases hlt : q.1 < (As.map some).length
    · rw [List.getElem?_append_left hlt, List.getElem?_map] at h1
      cases hA : As[q.1]? with
      | none => rw [hA] at h1; cases h1
      | some w => rw [hA] at h1; cases h1; rfl
    · rw [List.getElem?_append_right (by omega)] at h1
      exact absurd h1 (by simp [List.getElem?_replicate])
  have h4 := hl.2.2 (q.1, vv ad v) (by have := lv_args1 ad As 0 q.1 v h3; rwa [Nat.zero_add] at this)
  rw [h2]
  exact h4
theorem KK.of {aq : AQ} {l : Launch} {D : va_G} {tys : List (ClassId × FieldType)} {ly : Lay} {ids : List Nat} {ad : Nat → Nat} {lev : Nat} {y : MethodName} {cc : ByteArray} {mL : Nat} {ret : Option FieldType} {As : List AV} {μ : Mem} {r : Int} {μ' : Mem} (hy : plainName y.cls = true) (hn : As.length ≤ mL)
    (body : ∀ (p : Program) (e : Env) (s : State) (m : MethodId) (args : Array Value) (below : List Frame) (meth : Method) (c : Code) (A : Nat → Prop), Cx p s m args meth c D tys A mL cc y.cls ret → CF ad A s → V p l e (rmk lev) s m args below meth c 0 0 (MQ below (aq D tys ly ids ad A r μ') args s 0 0 A) D A ly ids ad mL μ 0 (entL As mL) []) : KK aq l D tys ly ids ad lev y cc mL ret As μ r μ' := by
  intro sz
  refine Met.ofW (cc := cc) (maxL := mL) (ret := ret) hy rfl ?_
  intro p e s m args below meth c s₁ B hml hv
  obtain ⟨rfl, rfl, ho, hg, hP, hK, hD, hNW, hCF⟩ := hv
  have hts := atoms_spec (ws := Cond.code y cc mL ret :: WS) B.pre
  have C : Cx p s m (As.map (vv ad)).toArray meth c D tys (va_A (wld ly ids ad μ) s.heap.size) mL cc y.cls ret := ⟨B.exec, B.bytes, hml, findClass_of_methodNamed B.named, fun w hw => hts w (List.mem_cons_of_mem _ hw), hK, fun q hq => Or.inr hq, B.returns, B.notSynchronized, hNW⟩
  have K := body p e s m _ below meth c _ C hCF ho hg s.heap [] hP hD.self va_S.rf _ (ent_has ad As mL hn)
  rw [lg_entry_eq]
  exact K
section VC
variable {p : Program} {l : Launch} {e : Env} {R : Room} {s : State} {m : MethodId} {args : Array Value} {below : List Frame} {meth : Method} {c : Code} {cells slots : Nat} {Q : State → Prop} {D : va_G} {tys : List (ClassId × FieldType)} {A : Nat → Prop} {ly : Lay} {ids : List Nat} {ad : Nat → Nat} {nL : Nat} {cc : ByteArray} {own : String} {ret : Option FieldType} {μ : Mem} {pc : Nat} {lv : LV} {st : List AV} {aq : AQ} {r : Int} {μ' : Mem}
theorem r_iret (C : Cx p s m args meth c D tys A nL cc own ret) (hr : ret = some .int) (hrr : inR r) (hd : decode cc pc = .ok (.ireturn, 1)) : V p l e R s m args below meth c 0 0 (MQ below (aI D tys ly ids ad A r μ) args s 0 0 A) D A ly ids ad nL μ pc lv [nu r] := by
  intro ho hg H locs hP hD hS ls hl
  exact W.iret (v := zI r) C.1 C.2.1 (C.2.2.2.2.2.2.2.1.trans hr) (fun t ht hW => ⟨⟨zI r, μ, rfl, ⟨⟨rfl, rfl⟩, hrr⟩, ⟨ho, hg, by rw [ht]; exact hP, va_K.moved hW.alike C.2.2.2.2.2.1, hD⟩⟩, hS.F ht⟩) hS.2.2 hd C.2.2.2.2.2.2.2.2.1
theorem r_zret (C : Cx p s m args meth c D tys A nL cc own ret) (hr : ret = some .boolean) (hb : r = 0 ∨ r = 1) (hd : decode cc pc = .ok (.ireturn, 1)) : V p l e R s m args below meth c 0 0 (MQ below (aI D tys ly ids ad A r μ) args s 0 0 A) D A ly ids ad nL μ pc lv [nu r] := by
  intro ho hg H locs hP hD hS ls hl
  have hrr : inR r := by rcases hb with rfl | rfl <;> exact ⟨by decide, by decide⟩
  exact W.zret (v := zI r) C.1 C.2.1 (C.2.2.2.2.2.2.2.1.trans hr) (by rcases hb with rfl | rfl <;> rfl) (fun t ht hW => ⟨⟨zI r, μ, rfl, ⟨⟨rfl, rfl⟩, hrr⟩, ⟨ho, hg, by rw [ht]; exact hP, va_K.moved hW.alike C.2.2.2.2.2.1, hD⟩⟩, hS.F ht⟩) hS.2.2 hd C.2.2.2.2.2.2.2.2.1
theorem r_vret (C : Cx p s m args meth c D tys A nL cc own ret) (hr : ret = none) (hd : decode cc pc = .ok (.return_, 1)) : V p l e R s m args below meth c 0 0 (MQ below (aV D tys ly ids ad A r μ) args s 0 0 A) D A ly ids ad nL μ pc lv [] := by
  intro ho hg H locs hP hD hS ls hl
  exact W.vret C.1 C.2.1 (C.2.2.2.2.2.2.2.1.trans hr) (fun t ht hW => ⟨⟨μ, rfl, rfl, ⟨ho, hg, by rw [ht]; exact hP, va_K.moved hW.alike C.2.2.2.2.2.1, hD⟩⟩, hS.F ht⟩) hS.2.2 hd C.2.2.2.2.2.2.2.2.1
theorem r_aret (C : Cx p s m args meth c D tys A nL cc own ret) {rt : FieldType} (hr : ret = some rt) (hrt : (∃ n, rt = .object n) ∨ ∃ t, rt = .array t) (hd : decode cc pc = .ok (.areturn, 1)) : V p l e R s m args below meth c 0 0 (MQ below (aR D tys ly ids ad A r μ) args s 0 0 A) D A ly ids ad nL μ pc lv [rf r] := by
  intro ho hg H locs hP hD hS ls hl
  exact W.aret (v := rv ad r) C.1 C.2.1 (C.2.2.2.2.2.2.2.1.trans hr) hrt (by unfold rv; split; exact Or.inl rfl; exact Or.inr ⟨_, rfl⟩) (fun t ht hW => ⟨⟨ptr ad r, μ, by rw [ptr_rv], ⟨rfl, rfl⟩, ⟨ho, hg, by rw [ht]; exact hP, va_K.moved hW.alike C.2.2.2.2.2.1, hD⟩⟩, hS.F ht⟩) hS.2.2 hd C.2.2.2.2.2.2.2.2.1
theorem sum_cat (ad : Nat → Nat) (st : List AV) : ((st.map ((fun v => v.category) ∘ vv ad))).sum = st.length := by
  induction st with
  | nil => rfl
  | cons v vs ih =>
    rw [List.map_cons, List.sum_cons, ih]
    show (vv ad v).category + vs.length = vs.length + 1
    rw [vv_cat]
    omega
theorem CF.same {A : Nat → Prop} {U : State} {g : JFrame} {mk : MethodId} {a : Array Value} (h : CF ad A U) : CF ad A (U.calling g mk a) := by
  obtain ⟨h1, h2, h3, h4, h5, h6, h7⟩ := h
  have hv : U.vm.Alike (U.calling g mk a).vm := Vm.Alike.refl U.vm
  exact ⟨h1.moved hv, fun q hq => vk_R.same (u := U) rfl (h2 q hq), ⟨h3.1.moved hv, h3.2.moved hv⟩, ⟨h4.1.moved hv, h4.2.moved hv⟩, ⟨h5.1.moved hv, h5.2.moved hv⟩, h6.moved hv, h7.elim (fun h => Or.inl (h.moved hv)) (fun h => Or.inr (h.moved hv))⟩
theorem r_callVI (C : Cx p s m args meth c D tys A nL cc own ret) (hCF : CF ad A s) {y : MethodName} {bytes : ByteArray} {mL index lev lev' : Nat} {ret2 : Option FieldType} {As : List AV} {x : Int} (o : Nat) (h0 : 0 ≤ x) (hxo : x.toNat = o) (hm : gho ids μ → o ∈ ids) {ci : Nat} {cs : List AV} (hly : ly ad o (μ o) = ceO ad ci cs) {T : u_T} {N : Nat} (hc : vwCl[ci]? = some (y.cls, T, N)) (hM : KK aI l D tys ly ids ad lev y bytes mL ret2 (rf x :: As) μ r μ') (hR : R = rmk lev') (hlev : lev + 1 ≤ lev') (hmL : mL ≤ 40) (hcs : cells + 0 ≤ (rmk lev').cells ∧ slots + 0 ≤ (rmk lev').slots) (hlk : Cond.methodLink own index y ∈ WS) (hcode : Cond.code y bytes mL ret2 ∈ WS) (hini : Cond.initialized y.cls ∈ WS) (hinst : Cond.instanceMethod y ∈ WS) (hsel : Cond.selects y.cls y y ∈ WS) (n : Nat) (hdd : y.cls ≠ "java/lang/invoke/MethodHandle" ∧ y.cls ≠ "java/lang/invoke/VarHandle" ∧ (parseMethodDescriptor y.desc).map (fun d => d.parameters.length) = some n) (hn : As.length = n) (hst8 : st.length ≤ 8) (hd : decode cc pc = .ok (.invokevirtual index, 3)) (kk : inR r → V p l e R s m args below meth c cells slots Q D A ly ids ad nL μ' (pc + 3) lv (nu r :: st)) : V p l e R s m args below meth c cells slots Q D A ly ids ad nL μ pc lv (As.reverse ++ rf x :: st) := by
  subst hR
  intro ho hg H locs hP hD hS ls hl
  have hts := C.2.2.2.2.1
  have hlR : (rmk lev).frames + 1 ≤ (rmk lev').frames ∧ 8 + (mL + 11) + (rmk lev).locals ≤ (rmk lev').locals := ⟨hlev, by show 8 + (mL + 11) + 60 * lev ≤ 60 * lev'; omega⟩
  have hFc : ∀ q, va_A (wld ly ids ad μ) H.size q → A q := fun q h => by
    rcases h with ⟨k, ee, h⟩ | h
    · exact hD.2 k (q, ee) h
    · exact C.2.2.2.2.2.2.1 q (Nat.le_trans hS.1 h)
  have hpre : ∀ U : State, U.heap = H → s.WarmedH U.vm → va_Pc ((rf x :: As).map (vv ad)) (PW D tys ly ids ad μ H.size) ((rf x :: As).map (vv ad)).toArray U := fun U hU hW => ⟨rfl, by rw [hU], ho, hg, by rw [hU]; exact hP, va_K.moved hW.alike C.2.2.2.2.2.1, hD.weaken (fun _ _ _ _ => trivial), NW.warm hW C.2.2.2.2.2.2.2.2.2, hCF.move hW (fun q h1 h2 => by rw [hU]; exact hS.2.1 q h1 h2) hFc⟩
  have hbl : FrameBlind (va_Pc ((rf x :: As).map (vv ad)) (PW D tys ly ids ad μ H.size)) := fun a U g mk q => by
    obtain ⟨q0, q1, q2, q3, q4, q5, q6, q7, q8⟩ := q
    exact ⟨q0, q1, q2, q3, q4, va_K.moved (u := U) (U := U.calling g mk a) (Vm.Alike.refl U.vm) q5, q6, fun w hw hn => va_Nw.same (u := U) (by cases w <;> first | rfl | (simp [nestW] at hn; done)) rfl (q7 w hw hn), CF.same q8⟩
  subst hxo
  obtain ⟨q0, hq, -⟩ := wld_get (ly := ly) (ad := ad) (μ := μ) (hm hg)
  rw [hly] at hq
  have hstk : ((As.reverse ++ rf x :: st).map (vv ad)) = (As.map (vv ad)).reverse ++ .ref (ad x.toNat) :: st.map (vv ad) := by
    rw [List.map_append, List.map_reverse, List.map_cons, vv_rf, rv_at h0]
  have hre : (Value.ref (ad x.toNat) :: As.map (vv ad)) = (rf x :: As).map (vv ad) := by
    rw [List.map_cons, vv_rf, rv_at h0]
  rw [hstk]
  have hcz : cells + 0 ≤ (rmk lev').cells ∧ slots + 0 ≤ (rmk lev').slots := hcs
  refine va_calli (va_runV (As := As.map (vv ad)) (rest := st.map (vv ad)) (n := n) ⟨C.1, C.2.1, C.2.2.1, C.2.2.2.1, hts⟩ (hM H.size) ⟨callB_of n hts (WS_good hcode) rfl rfl rfl (hts _ hini) (hts _ hlk) hdd hlR, hts _ hinst, hts _ hsel⟩ ⟨hbl, va_recv C.2.2.2.2.2.1 hP hc hq, fun U hU hW => by rw [hre]; exact hpre U hU hW⟩ rfl (by rw [List.length_map]; exact hn) hl.1 rfl (lv_room (by rw [List.map_map]; exact Nat.le_trans (Nat.le_of_eq (sum_cat ad st)) hst8)) hd ⟨hcz.1, hcz.2⟩) hS (fun q _ h => hFc q h) hFc (fun r0 u t H1 locs1 ht hvm hw hB hz1 hk1 hS1 => ?_)
  obtain ⟨⟨rfl, rfl⟩, hrr⟩ := hw
  obtain ⟨ho1, hg1, hP1, hK1, hD1⟩ := hB
  rw [ht] at hP1
  have K := kk hrr ho1 hg1 H1 locs1 hP1 (hD1.weaken (fun k q _ h => hFc q.1 h)) hS1 ls hl
  exact K
theorem r_callVV (C : Cx p s m args meth c D tys A nL cc own ret) (hCF : CF ad A s) {y : MethodName} {bytes : ByteArray} {mL index lev lev' : Nat} {ret2 : Option FieldType} {As : List AV} {x : Int} (o : Nat) (h0 : 0 ≤ x) (hxo : x.toNat = o) (hm : gho ids μ → o ∈ ids) {ci : Nat} {cs : List AV} (hly : ly ad o (μ o) = ceO ad ci cs) {T : u_T} {N : Nat} (hc : vwCl[ci]? = some (y.cls, T, N)) (hM : KK aV l D tys ly ids ad lev y bytes mL ret2 (rf x :: As) μ r μ') (hR : R = rmk lev') (hlev : lev + 1 ≤ lev') (hmL : mL ≤ 40) (hcs : cells + 0 ≤ (rmk lev').cells ∧ slots + 0 ≤ (rmk lev').slots) (hlk : Cond.methodLink own index y ∈ WS) (hcode : Cond.code y bytes mL ret2 ∈ WS) (hini : Cond.initialized y.cls ∈ WS) (hinst : Cond.instanceMethod y ∈ WS) (hsel : Cond.selects y.cls y y ∈ WS) (n : Nat) (hdd : y.cls ≠ "java/lang/invoke/MethodHandle" ∧ y.cls ≠ "java/lang/invoke/VarHandle" ∧ (parseMethodDescriptor y.desc).map (fun d => d.parameters.length) = some n) (hn : As.length = n) (hst8 : st.length ≤ 8) (hd : decode cc pc = .ok (.invokevirtual index, 3)) (kk : V p l e R s m args below meth c cells slots Q D A ly ids ad nL μ' (pc + 3) lv st) : V p l e R s m args below meth c cells slots Q D A ly ids ad nL μ pc lv (As.reverse ++ rf x :: st) := by
  subst hR
  intro ho hg H locs hP hD hS ls hl
  have hts := C.2.2.2.2.1
  have hlR : (rmk lev).frames + 1 ≤ (rmk lev').frames ∧ 8 + (mL + 11) + (rmk lev).locals ≤ (rmk lev').locals := ⟨hlev, by show 8 + (mL + 11) + 60 * lev ≤ 60 * lev'; omega⟩
  have hFc : ∀ q, va_A (wld ly ids ad μ) H.size q → A q := fun q h => by
    rcases h with ⟨k, ee, h⟩ | h
    · exact hD.2 k (q, ee) h
    · exact C.2.2.2.2.2.2.1 q (Nat.le_trans hS.1 h)
  have hpre : ∀ U : State, U.heap = H → s.WarmedH U.vm → va_Pc ((rf x :: As).map (vv ad)) (PW D tys ly ids ad μ H.size) ((rf x :: As).map (vv ad)).toArray U := fun U hU hW => ⟨rfl, by rw [hU], ho, hg, by rw [hU]; exact hP, va_K.moved hW.alike C.2.2.2.2.2.1, hD.weaken (fun _ _ _ _ => trivial), NW.warm hW C.2.2.2.2.2.2.2.2.2, hCF.move hW (fun q h1 h2 => by rw [hU]; exact hS.2.1 q h1 h2) hFc⟩
  have hbl : FrameBlind (va_Pc ((rf x :: As).map (vv ad)) (PW D tys ly ids ad μ H.size)) := fun a U g mk q => by
    obtain ⟨q0, q1, q2, q3, q4, q5, q6, q7, q8⟩ := q
    exact ⟨q0, q1, q2, q3, q4, va_K.moved (u := U) (U := U.calling g mk a) (Vm.Alike.refl U.vm) q5, q6, fun w hw hn => va_Nw.same (u := U) (by cases w <;> first | rfl | (simp [nestW] at hn; done)) rfl (q7 w hw hn), CF.same q8⟩
  subst hxo
  obtain ⟨q0, hq, -⟩ := wld_get (ly := ly) (ad := ad) (μ := μ) (hm hg)
  rw [hly] at hq
  have hstk : ((As.reverse ++ rf x :: st).map (vv ad)) = (As.map (vv ad)).reverse ++ .ref (ad x.toNat) :: st.map (vv ad) := by
    rw [List.map_append, List.map_reverse, List.map_cons, vv_rf, rv_at h0]
  have hre : (Value.ref (ad x.toNat) :: As.map (vv ad)) = (rf x :: As).map (vv ad) := by
    rw [List.map_cons, vv_rf, rv_at h0]
  rw [hstk]
  have hcz : cells + 0 ≤ (rmk lev').cells ∧ slots + 0 ≤ (rmk lev').slots := hcs
  refine va_callv (va_runV (As := As.map (vv ad)) (rest := st.map (vv ad)) (n := n) ⟨C.1, C.2.1, C.2.2.1, C.2.2.2.1, hts⟩ (hM H.size) ⟨callB_of n hts (WS_good hcode) rfl rfl rfl (hts _ hini) (hts _ hlk) hdd hlR, hts _ hinst, hts _ hsel⟩ ⟨hbl, va_recv C.2.2.2.2.2.1 hP hc hq, fun U hU hW => by rw [hre]; exact hpre U hU hW⟩ rfl (by rw [List.length_map]; exact hn) hl.1 rfl (lv_room (by rw [List.map_map]; exact Nat.le_trans (Nat.le_of_eq (sum_cat ad st)) hst8)) hd ⟨hcz.1, hcz.2⟩) hS (fun q _ h => hFc q h) hFc (fun u t H1 locs1 ht hvm hw hB hz1 hk1 hS1 => ?_)
  subst hw
  obtain ⟨ho1, hg1, hP1, hK1, hD1⟩ := hB
  rw [ht] at hP1
  have K := kk ho1 hg1 H1 locs1 hP1 (hD1.weaken (fun k q _ h => hFc q.1 h)) hS1 ls hl
  exact K
theorem r_callVR (C : Cx p s m args meth c D tys A nL cc own ret) (hCF : CF ad A s) {y : MethodName} {bytes : ByteArray} {mL index lev lev' : Nat} {ret2 : Option FieldType} {As : List AV} {x : Int} (o : Nat) (h0 : 0 ≤ x) (hxo : x.toNat = o) (hm : gho ids μ → o ∈ ids) {ci : Nat} {cs : List AV} (hly : ly ad o (μ o) = ceO ad ci cs) {T : u_T} {N : Nat} (hc : vwCl[ci]? = some (y.cls, T, N)) (hM : KK aR l D tys ly ids ad lev y bytes mL ret2 (rf x :: As) μ r μ') (hR : R = rmk lev') (hlev : lev + 1 ≤ lev') (hmL : mL ≤ 40) (hcs : cells + 0 ≤ (rmk lev').cells ∧ slots + 0 ≤ (rmk lev').slots) (hlk : Cond.methodLink own index y ∈ WS) (hcode : Cond.code y bytes mL ret2 ∈ WS) (hini : Cond.initialized y.cls ∈ WS) (hinst : Cond.instanceMethod y ∈ WS) (hsel : Cond.selects y.cls y y ∈ WS) (n : Nat) (hdd : y.cls ≠ "java/lang/invoke/MethodHandle" ∧ y.cls ≠ "java/lang/invoke/VarHandle" ∧ (parseMethodDescriptor y.desc).map (fun d => d.parameters.length) = some n) (hn : As.length = n) (hst8 : st.length ≤ 8) (hd : decode cc pc = .ok (.invokevirtual index, 3)) (kk : V p l e R s m args below meth c cells slots Q D A ly ids ad nL μ' (pc + 3) lv (rf r :: st)) : V p l e R s m args below meth c cells slots Q D A ly ids ad nL μ pc lv (As.reverse ++ rf x :: st) := by
  subst hR
  intro ho hg H locs hP hD hS ls hl
  have hts := C.2.2.2.2.1
  have hlR : (rmk lev).frames + 1 ≤ (rmk lev').frames ∧ 8 + (mL + 11) + (rmk lev).locals ≤ (rmk lev').locals := ⟨hlev, by show 8 + (mL + 11) + 60 * lev ≤ 60 * lev'; omega⟩
  have hFc : ∀ q, va_A (wld ly ids ad μ) H.size q → A q := fun q h => by
    rcases h with ⟨k, ee, h⟩ | h
    · exact hD.2 k (q, ee) h
    · exact C.2.2.2.2.2.2.1 q (Nat.le_trans hS.1 h)
  have hpre : ∀ U : State, U.heap = H → s.WarmedH U.vm → va_Pc ((rf x :: As).map (vv ad)) (PW D tys ly ids ad μ H.size) ((rf x :: As).map (vv ad)).toArray U := fun U hU hW => ⟨rfl, by rw [hU], ho, hg, by rw [hU]; exact hP, va_K.moved hW.alike C.2.2.2.2.2.1, hD.weaken (fun _ _ _ _ => trivial), NW.warm hW C.2.2.2.2.2.2.2.2.2, hCF.move hW (fun q h1 h2 => by rw [hU]; exact hS.2.1 q h1 h2) hFc⟩
  have hbl : FrameBlind (va_Pc ((rf x :: As).map (vv ad)) (PW D tys ly ids ad μ H.size)) := fun a U g mk q => by
    obtain ⟨q0, q1, q2, q3, q4, q5, q6, q7, q8⟩ := q
    exact ⟨q0, q1, q2, q3, q4, va_K.moved (u := U) (U := U.calling g mk a) (Vm.Alike.refl U.vm) q5, q6, fun w hw hn => va_Nw.same (u := U) (by cases w <;> first | rfl | (simp [nestW] at hn; done)) rfl (q7 w hw hn), CF.same q8⟩
  subst hxo
  obtain ⟨q0, hq, -⟩ := wld_get (ly := ly) (ad := ad) (μ := μ) (hm hg)
  rw [hly] at hq
  have hstk : ((As.reverse ++ rf x :: st).map (vv ad)) = (As.map (vv ad)).reverse ++ .ref (ad x.toNat) :: st.map (vv ad) := by
    rw [List.map_append, List.map_reverse, List.map_cons, vv_rf, rv_at h0]
  have hre : (Value.ref (ad x.toNat) :: As.map (vv ad)) = (rf x :: As).map (vv ad) := by
    rw [List.map_cons, vv_rf, rv_at h0]
  rw [hstk]
  have hcz : cells + 0 ≤ (rmk lev').cells ∧ slots + 0 ≤ (rmk lev').slots := hcs
  refine va_callq (va_runV (As := As.map (vv ad)) (rest := st.map (vv ad)) (n := n) ⟨C.1, C.2.1, C.2.2.1, C.2.2.2.1, hts⟩ (hM H.size) ⟨callB_of n hts (WS_good hcode) rfl rfl rfl (hts _ hini) (hts _ hlk) hdd hlR, hts _ hinst, hts _ hsel⟩ ⟨hbl, va_recv C.2.2.2.2.2.1 hP hc hq, fun U hU hW => by rw [hre]; exact hpre U hU hW⟩ rfl (by rw [List.length_map]; exact hn) hl.1 rfl (lv_room (by rw [List.map_map]; exact Nat.le_trans (Nat.le_of_eq (sum_cat ad st)) hst8)) hd ⟨hcz.1, hcz.2⟩) hS (fun q _ h => hFc q h) hFc (fun r0 u t H1 locs1 ht hvm hw hB hz1 hk1 hS1 => ?_)
  obtain ⟨rfl, rfl⟩ := hw
  obtain ⟨ho1, hg1, hP1, hK1, hD1⟩ := hB
  rw [ht] at hP1
  have K := kk ho1 hg1 H1 locs1 hP1 (hD1.weaken (fun k q _ h => hFc q.1 h)) hS1 ls hl
  rw [ptr_rv]
  exact K
theorem r_callSI (C : Cx p s m args meth c D tys A nL cc own ret) (hCF : CF ad A s) {y : MethodName} {bytes : ByteArray} {mL index lev lev' : Nat} {ret2 : Option FieldType} {As : List AV} (hM : KK aI l D tys ly ids ad lev y bytes mL ret2 (As) μ r μ') (hR : R = rmk lev') (hlev : lev + 1 ≤ lev') (hmL : mL ≤ 40) (hcs : cells + 0 ≤ (rmk lev').cells ∧ slots + 0 ≤ (rmk lev').slots) (hlk : Cond.methodLink own index y ∈ WS) (hcode : Cond.code y bytes mL ret2 ∈ WS) (hini : Cond.initialized y.cls ∈ WS) (hst : Cond.static y ∈ WS) (n : Nat) (hdd : y.cls ≠ "java/lang/invoke/MethodHandle" ∧ y.cls ≠ "java/lang/invoke/VarHandle" ∧ (parseMethodDescriptor y.desc).map (fun d => d.parameters.length) = some n) (hn : As.length = n) (hst8 : st.length ≤ 8) (hd : decode cc pc = .ok (.invokestatic index, 3)) (kk : inR r → V p l e R s m args below meth c cells slots Q D A ly ids ad nL μ' (pc + 3) lv (nu r :: st)) : V p l e R s m args below meth c cells slots Q D A ly ids ad nL μ pc lv (As.reverse ++ st) := by
  subst hR
  intro ho hg H locs hP hD hS ls hl
  have hts := C.2.2.2.2.1
  have hlR : (rmk lev).frames + 1 ≤ (rmk lev').frames ∧ 8 + (mL + 11) + (rmk lev).locals ≤ (rmk lev').locals := ⟨hlev, by show 8 + (mL + 11) + 60 * lev ≤ 60 * lev'; omega⟩
  have hFc : ∀ q, va_A (wld ly ids ad μ) H.size q → A q := fun q h => by
    rcases h with ⟨k, ee, h⟩ | h
    · exact hD.2 k (q, ee) h
    · exact C.2.2.2.2.2.2.1 q (Nat.le_trans hS.1 h)
  have hpre : ∀ U : State, U.heap = H → s.WarmedH U.vm → va_Pc ((As).map (vv ad)) (PW D tys ly ids ad μ H.size) ((As).map (vv ad)).toArray U := fun U hU hW => ⟨rfl, by rw [hU], ho, hg, by rw [hU]; exact hP, va_K.moved hW.alike C.2.2.2.2.2.1, hD.weaken (fun _ _ _ _ => trivial), NW.warm hW C.2.2.2.2.2.2.2.2.2, hCF.move hW (fun q h1 h2 => by rw [hU]; exact hS.2.1 q h1 h2) hFc⟩
  have hbl : FrameBlind (va_Pc ((As).map (vv ad)) (PW D tys ly ids ad μ H.size)) := fun a U g mk q => by
    obtain ⟨q0, q1, q2, q3, q4, q5, q6, q7, q8⟩ := q
    exact ⟨q0, q1, q2, q3, q4, va_K.moved (u := U) (U := U.calling g mk a) (Vm.Alike.refl U.vm) q5, q6, fun w hw hn => va_Nw.same (u := U) (by cases w <;> first | rfl | (simp [nestW] at hn; done)) rfl (q7 w hw hn), CF.same q8⟩
  have hstk : ((As.reverse ++ st).map (vv ad)) = (As.map (vv ad)).reverse ++ st.map (vv ad) := by
    rw [List.map_append, List.map_reverse]
  rw [hstk]
  have hcz : cells + 0 ≤ (rmk lev').cells ∧ slots + 0 ≤ (rmk lev').slots := hcs
  refine va_calli (va_runS (As := As.map (vv ad)) (rest := st.map (vv ad)) (n := n) ⟨C.1, C.2.1, C.2.2.1, C.2.2.2.1, hts⟩ (hM H.size) ⟨callB_of n hts (WS_good hcode) rfl rfl rfl (hts _ hini) (hts _ hlk) hdd hlR, hts _ hst⟩ ⟨hbl, hpre⟩ rfl (by rw [List.length_map]; exact hn) hl.1 rfl (lv_room (by rw [List.map_map]; exact Nat.le_trans (Nat.le_of_eq (sum_cat ad st)) hst8)) hd ⟨hcz.1, hcz.2⟩) hS (fun q _ h => hFc q h) hFc (fun r0 u t H1 locs1 ht hvm hw hB hz1 hk1 hS1 => ?_)
  obtain ⟨⟨rfl, rfl⟩, hrr⟩ := hw
  obtain ⟨ho1, hg1, hP1, hK1, hD1⟩ := hB
  rw [ht] at hP1
  have K := kk hrr ho1 hg1 H1 locs1 hP1 (hD1.weaken (fun k q _ h => hFc q.1 h)) hS1 ls hl
  exact K
theorem r_callSV (C : Cx p s m args meth c D tys A nL cc own ret) (hCF : CF ad A s) {y : MethodName} {bytes : ByteArray} {mL index lev lev' : Nat} {ret2 : Option FieldType} {As : List AV} (hM : KK aV l D tys ly ids ad lev y bytes mL ret2 (As) μ r μ') (hR : R = rmk lev') (hlev : lev + 1 ≤ lev') (hmL : mL ≤ 40) (hcs : cells + 0 ≤ (rmk lev').cells ∧ slots + 0 ≤ (rmk lev').slots) (hlk : Cond.methodLink own index y ∈ WS) (hcode : Cond.code y bytes mL ret2 ∈ WS) (hini : Cond.initialized y.cls ∈ WS) (hst : Cond.static y ∈ WS) (n : Nat) (hdd : y.cls ≠ "java/lang/invoke/MethodHandle" ∧ y.cls ≠ "java/lang/invoke/VarHandle" ∧ (parseMethodDescriptor y.desc).map (fun d => d.parameters.length) = some n) (hn : As.length = n) (hst8 : st.length ≤ 8) (hd : decode cc pc = .ok (.invokestatic index, 3)) (kk : V p l e R s m args below meth c cells slots Q D A ly ids ad nL μ' (pc + 3) lv st) : V p l e R s m args below meth c cells slots Q D A ly ids ad nL μ pc lv (As.reverse ++ st) := by
  subst hR
  intro ho hg H locs hP hD hS ls hl
  have hts := C.2.2.2.2.1
  have hlR : (rmk lev).frames + 1 ≤ (rmk lev').frames ∧ 8 + (mL + 11) + (rmk lev).locals ≤ (rmk lev').locals := ⟨hlev, by show 8 + (mL + 11) + 60 * lev ≤ 60 * lev'; omega⟩
  have hFc : ∀ q, va_A (wld ly ids ad μ) H.size q → A q := fun q h => by
    rcases h with ⟨k, ee, h⟩ | h
    · exact hD.2 k (q, ee) h
    · exact C.2.2.2.2.2.2.1 q (Nat.le_trans hS.1 h)
  have hpre : ∀ U : State, U.heap = H → s.WarmedH U.vm → va_Pc ((As).map (vv ad)) (PW D tys ly ids ad μ H.size) ((As).map (vv ad)).toArray U := fun U hU hW => ⟨rfl, by rw [hU], ho, hg, by rw [hU]; exact hP, va_K.moved hW.alike C.2.2.2.2.2.1, hD.weaken (fun _ _ _ _ => trivial), NW.warm hW C.2.2.2.2.2.2.2.2.2, hCF.move hW (fun q h1 h2 => by rw [hU]; exact hS.2.1 q h1 h2) hFc⟩
  have hbl : FrameBlind (va_Pc ((As).map (vv ad)) (PW D tys ly ids ad μ H.size)) := fun a U g mk q => by
    obtain ⟨q0, q1, q2, q3, q4, q5, q6, q7, q8⟩ := q
    exact ⟨q0, q1, q2, q3, q4, va_K.moved (u := U) (U := U.calling g mk a) (Vm.Alike.refl U.vm) q5, q6, fun w hw hn => va_Nw.same (u := U) (by cases w <;> first | rfl | (simp [nestW] at hn; done)) rfl (q7 w hw hn), CF.same q8⟩
  have hstk : ((As.reverse ++ st).map (vv ad)) = (As.map (vv ad)).reverse ++ st.map (vv ad) := by
    rw [List.map_append, List.map_reverse]
  rw [hstk]
  have hcz : cells + 0 ≤ (rmk lev').cells ∧ slots + 0 ≤ (rmk lev').slots := hcs
  refine va_callv (va_runS (As := As.map (vv ad)) (rest := st.map (vv ad)) (n := n) ⟨C.1, C.2.1, C.2.2.1, C.2.2.2.1, hts⟩ (hM H.size) ⟨callB_of n hts (WS_good hcode) rfl rfl rfl (hts _ hini) (hts _ hlk) hdd hlR, hts _ hst⟩ ⟨hbl, hpre⟩ rfl (by rw [List.length_map]; exact hn) hl.1 rfl (lv_room (by rw [List.map_map]; exact Nat.le_trans (Nat.le_of_eq (sum_cat ad st)) hst8)) hd ⟨hcz.1, hcz.2⟩) hS (fun q _ h => hFc q h) hFc (fun u t H1 locs1 ht hvm hw hB hz1 hk1 hS1 => ?_)
  subst hw
  obtain ⟨ho1, hg1, hP1, hK1, hD1⟩ := hB
  rw [ht] at hP1
  have K := kk ho1 hg1 H1 locs1 hP1 (hD1.weaken (fun k q _ h => hFc q.1 h)) hS1 ls hl
  exact K
theorem r_callSR (C : Cx p s m args meth c D tys A nL cc own ret) (hCF : CF ad A s) {y : MethodName} {bytes : ByteArray} {mL index lev lev' : Nat} {ret2 : Option FieldType} {As : List AV} (hM : KK aR l D tys ly ids ad lev y bytes mL ret2 (As) μ r μ') (hR : R = rmk lev') (hlev : lev + 1 ≤ lev') (hmL : mL ≤ 40) (hcs : cells + 0 ≤ (rmk lev').cells ∧ slots + 0 ≤ (rmk lev').slots) (hlk : Cond.methodLink own index y ∈ WS) (hcode : Cond.code y bytes mL ret2 ∈ WS) (hini : Cond.initialized y.cls ∈ WS) (hst : Cond.static y ∈ WS) (n : Nat) (hdd : y.cls ≠ "java/lang/invoke/MethodHandle" ∧ y.cls ≠ "java/lang/invoke/VarHandle" ∧ (parseMethodDescriptor y.desc).map (fun d => d.parameters.length) = some n) (hn : As.length = n) (hst8 : st.length ≤ 8) (hd : decode cc pc = .ok (.invokestatic index, 3)) (kk : V p l e R s m args below meth c cells slots Q D A ly ids ad nL μ' (pc + 3) lv (rf r :: st)) : V p l e R s m args below meth c cells slots Q D A ly ids ad nL μ pc lv (As.reverse ++ st) := by
  subst hR
  intro ho hg H locs hP hD hS ls hl
  have hts := C.2.2.2.2.1
  have hlR : (rmk lev).frames + 1 ≤ (rmk lev').frames ∧ 8 + (mL + 11) + (rmk lev).locals ≤ (rmk lev').locals := ⟨hlev, by show 8 + (mL + 11) + 60 * lev ≤ 60 * lev'; omega⟩
  have hFc : ∀ q, va_A (wld ly ids ad μ) H.size q → A q := fun q h => by
    rcases h with ⟨k, ee, h⟩ | h
    · exact hD.2 k (q, ee) h
    · exact C.2.2.2.2.2.2.1 q (Nat.le_trans hS.1 h)
  have hpre : ∀ U : State, U.heap = H → s.WarmedH U.vm → va_Pc ((As).map (vv ad)) (PW D tys ly ids ad μ H.size) ((As).map (vv ad)).toArray U := fun U hU hW => ⟨rfl, by rw [hU], ho, hg, by rw [hU]; exact hP, va_K.moved hW.alike C.2.2.2.2.2.1, hD.weaken (fun _ _ _ _ => trivial), NW.warm hW C.2.2.2.2.2.2.2.2.2, hCF.move hW (fun q h1 h2 => by rw [hU]; exact hS.2.1 q h1 h2) hFc⟩
  have hbl : FrameBlind (va_Pc ((As).map (vv ad)) (PW D tys ly ids ad μ H.size)) := fun a U g mk q => by
    obtain ⟨q0, q1, q2, q3, q4, q5, q6, q7, q8⟩ := q
    exact ⟨q0, q1, q2, q3, q4, va_K.moved (u := U) (U := U.calling g mk a) (Vm.Alike.refl U.vm) q5, q6, fun w hw hn => va_Nw.same (u := U) (by cases w <;> first | rfl | (simp [nestW] at hn; done)) rfl (q7 w hw hn), CF.same q8⟩
  have hstk : ((As.reverse ++ st).map (vv ad)) = (As.map (vv ad)).reverse ++ st.map (vv ad) := by
    rw [List.map_append, List.map_reverse]
  rw [hstk]
  have hcz : cells + 0 ≤ (rmk lev').cells ∧ slots + 0 ≤ (rmk lev').slots := hcs
  refine va_callq (va_runS (As := As.map (vv ad)) (rest := st.map (vv ad)) (n := n) ⟨C.1, C.2.1, C.2.2.1, C.2.2.2.1, hts⟩ (hM H.size) ⟨callB_of n hts (WS_good hcode) rfl rfl rfl (hts _ hini) (hts _ hlk) hdd hlR, hts _ hst⟩ ⟨hbl, hpre⟩ rfl (by rw [List.length_map]; exact hn) hl.1 rfl (lv_room (by rw [List.map_map]; exact Nat.le_trans (Nat.le_of_eq (sum_cat ad st)) hst8)) hd ⟨hcz.1, hcz.2⟩) hS (fun q _ h => hFc q h) hFc (fun r0 u t H1 locs1 ht hvm hw hB hz1 hk1 hS1 => ?_)
  obtain ⟨rfl, rfl⟩ := hw
  obtain ⟨ho1, hg1, hP1, hK1, hD1⟩ := hB
  rw [ht] at hP1
  have K := kk ho1 hg1 H1 locs1 hP1 (hD1.weaken (fun k q _ h => hFc q.1 h)) hS1 ls hl
  rw [ptr_rv]
  exact K
theorem r_callVNI (C : Cx p s m args meth c D tys A nL cc own ret) (hCF : CF ad A s) {y : MethodName} {bytes : ByteArray} {mL index lev lev' : Nat} {ret2 : Option FieldType} {As : List AV} {host : String} {x : Int} (o : Nat) (h0 : 0 ≤ x) (hxo : x.toNat = o) (hm : gho ids μ → o ∈ ids) {ci : Nat} {cs : List AV} (hly : ly ad o (μ o) = ceO ad ci cs) {T : u_T} {N : Nat} (hc : vwCl[ci]? = some (y.cls, T, N)) (hM : KK aI l D tys ly ids ad lev y bytes mL ret2 (rf x :: As) μ r μ') (hR : R = rmk lev') (hlev : lev + 1 ≤ lev') (hmL : mL ≤ 40) (hcs : cells + 0 ≤ (rmk lev').cells ∧ slots + 0 ≤ (rmk lev').slots) (hlk : Cond.methodLinkNest own index y host ∈ lw_tbl) (hcode : Cond.code y bytes mL ret2 ∈ WS) (hini : Cond.initialized y.cls ∈ WS) (hinst : Cond.instanceMethod y ∈ WS) (hsel : Cond.selects y.cls y y ∈ WS) (n : Nat) (hdd : y.cls ≠ "java/lang/invoke/MethodHandle" ∧ y.cls ≠ "java/lang/invoke/VarHandle" ∧ (parseMethodDescriptor y.desc).map (fun d => d.parameters.length) = some n) (hn : As.length = n) (hst8 : st.length ≤ 8) (hd : decode cc pc = .ok (.invokevirtual index, 3)) (kk : inR r → V p l e R s m args below meth c cells slots Q D A ly ids ad nL μ' (pc + 3) lv (nu r :: st)) : V p l e R s m args below meth c cells slots Q D A ly ids ad nL μ pc lv (As.reverse ++ rf x :: st) := by
  subst hR
  intro ho hg H locs hP hD hS ls hl
  have hts := C.2.2.2.2.1
  have hlR : (rmk lev).frames + 1 ≤ (rmk lev').frames ∧ 8 + (mL + 11) + (rmk lev).locals ≤ (rmk lev').locals := ⟨hlev, by show 8 + (mL + 11) + 60 * lev ≤ 60 * lev'; omega⟩
  have hFc : ∀ q, va_A (wld ly ids ad μ) H.size q → A q := fun q h => by
    rcases h with ⟨k, ee, h⟩ | h
    · exact hD.2 k (q, ee) h
    · exact C.2.2.2.2.2.2.1 q (Nat.le_trans hS.1 h)
  have hpre : ∀ U : State, U.heap = H → s.WarmedH U.vm → va_Pc ((rf x :: As).map (vv ad)) (PW D tys ly ids ad μ H.size) ((rf x :: As).map (vv ad)).toArray U := fun U hU hW => ⟨rfl, by rw [hU], ho, hg, by rw [hU]; exact hP, va_K.moved hW.alike C.2.2.2.2.2.1, hD.weaken (fun _ _ _ _ => trivial), NW.warm hW C.2.2.2.2.2.2.2.2.2, hCF.move hW (fun q h1 h2 => by rw [hU]; exact hS.2.1 q h1 h2) hFc⟩
  have hbl : FrameBlind (va_Pc ((rf x :: As).map (vv ad)) (PW D tys ly ids ad μ H.size)) := fun a U g mk q => by
    obtain ⟨q0, q1, q2, q3, q4, q5, q6, q7, q8⟩ := q
    exact ⟨q0, q1, q2, q3, q4, va_K.moved (u := U) (U := U.calling g mk a) (Vm.Alike.refl U.vm) q5, q6, fun w hw hn => va_Nw.same (u := U) (by cases w <;> first | rfl | (simp [nestW] at hn; done)) rfl (q7 w hw hn), CF.same q8⟩
  subst hxo
  obtain ⟨q0, hq, -⟩ := wld_get (ly := ly) (ad := ad) (μ := μ) (hm hg)
  rw [hly] at hq
  have hstk : ((As.reverse ++ rf x :: st).map (vv ad)) = (As.map (vv ad)).reverse ++ .ref (ad x.toNat) :: st.map (vv ad) := by
    rw [List.map_append, List.map_reverse, List.map_cons, vv_rf, rv_at h0]
  have hre : (Value.ref (ad x.toNat) :: As.map (vv ad)) = (rf x :: As).map (vv ad) := by
    rw [List.map_cons, vv_rf, rv_at h0]
  rw [hstk]
  have hcz : cells + 0 ≤ (rmk lev').cells ∧ slots + 0 ≤ (rmk lev').slots := hcs
  refine va_calli (va_runVN (As := As.map (vv ad)) (rest := st.map (vv ad)) (n := n) ⟨C.1, C.2.1, C.2.2.1, C.2.2.2.1, hts⟩ (hM H.size) ⟨va_cnB n hts (WS_good hcode) rfl rfl rfl (C.2.2.2.2.2.2.2.2.2 _ hlk rfl) (hts _ hini) hdd hlR, hts _ hinst, hts _ hsel⟩ ⟨hbl, va_recv C.2.2.2.2.2.1 hP hc hq, fun U hU hW => by rw [hre]; exact hpre U hU hW⟩ rfl (by rw [List.length_map]; exact hn) hl.1 rfl (lv_room (by rw [List.map_map]; exact Nat.le_trans (Nat.le_of_eq (sum_cat ad st)) hst8)) hd ⟨hcz.1, hcz.2⟩) hS (fun q _ h => hFc q h) hFc (fun r0 u t H1 locs1 ht hvm hw hB hz1 hk1 hS1 => ?_)
  obtain ⟨⟨rfl, rfl⟩, hrr⟩ := hw
  obtain ⟨ho1, hg1, hP1, hK1, hD1⟩ := hB
  rw [ht] at hP1
  have K := kk hrr ho1 hg1 H1 locs1 hP1 (hD1.weaken (fun k q _ h => hFc q.1 h)) hS1 ls hl
  exact K
theorem r_callVNV (C : Cx p s m args meth c D tys A nL cc own ret) (hCF : CF ad A s) {y : MethodName} {bytes : ByteArray} {mL index lev lev' : Nat} {ret2 : Option FieldType} {As : List AV} {host : String} {x : Int} (o : Nat) (h0 : 0 ≤ x) (hxo : x.toNat = o) (hm : gho ids μ → o ∈ ids) {ci : Nat} {cs : List AV} (hly : ly ad o (μ o) = ceO ad ci cs) {T : u_T} {N : Nat} (hc : vwCl[ci]? = some (y.cls, T, N)) (hM : KK aV l D tys ly ids ad lev y bytes mL ret2 (rf x :: As) μ r μ') (hR : R = rmk lev') (hlev : lev + 1 ≤ lev') (hmL : mL ≤ 40) (hcs : cells + 0 ≤ (rmk lev').cells ∧ slots + 0 ≤ (rmk lev').slots) (hlk : Cond.methodLinkNest own index y host ∈ lw_tbl) (hcode : Cond.code y bytes mL ret2 ∈ WS) (hini : Cond.initialized y.cls ∈ WS) (hinst : Cond.instanceMethod y ∈ WS) (hsel : Cond.selects y.cls y y ∈ WS) (n : Nat) (hdd : y.cls ≠ "java/lang/invoke/MethodHandle" ∧ y.cls ≠ "java/lang/invoke/VarHandle" ∧ (parseMethodDescriptor y.desc).map (fun d => d.parameters.length) = some n) (hn : As.length = n) (hst8 : st.length ≤ 8) (hd : decode cc pc = .ok (.invokevirtual index, 3)) (kk : V p l e R s m args below meth c cells slots Q D A ly ids ad nL μ' (pc + 3) lv st) : V p l e R s m args below meth c cells slots Q D A ly ids ad nL μ pc lv (As.reverse ++ rf x :: st) := by
  subst hR
  intro ho hg H locs hP hD hS ls hl
  have hts := C.2.2.2.2.1
  have hlR : (rmk lev).frames + 1 ≤ (rmk lev').frames ∧ 8 + (mL + 11) + (rmk lev).locals ≤ (rmk lev').locals := ⟨hlev, by show 8 + (mL + 11) + 60 * lev ≤ 60 * lev'; omega⟩
  have hFc : ∀ q, va_A (wld ly ids ad μ) H.size q → A q := fun q h => by
    rcases h with ⟨k, ee, h⟩ | h
    · exact hD.2 k (q, ee) h
    · exact C.2.2.2.2.2.2.1 q (Nat.le_trans hS.1 h)
  have hpre : ∀ U : State, U.heap = H → s.WarmedH U.vm → va_Pc ((rf x :: As).map (vv ad)) (PW D tys ly ids ad μ H.size) ((rf x :: As).map (vv ad)).toArray U := fun U hU hW => ⟨rfl, by rw [hU], ho, hg, by rw [hU]; exact hP, va_K.moved hW.alike C.2.2.2.2.2.1, hD.weaken (fun _ _ _ _ => trivial), NW.warm hW C.2.2.2.2.2.2.2.2.2, hCF.move hW (fun q h1 h2 => by rw [hU]; exact hS.2.1 q h1 h2) hFc⟩
  have hbl : FrameBlind (va_Pc ((rf x :: As).map (vv ad)) (PW D tys ly ids ad μ H.size)) := fun a U g mk q => by
    obtain ⟨q0, q1, q2, q3, q4, q5, q6, q7, q8⟩ := q
    exact ⟨q0, q1, q2, q3, q4, va_K.moved (u := U) (U := U.calling g mk a) (Vm.Alike.refl U.vm) q5, q6, fun w hw hn => va_Nw.same (u := U) (by cases w <;> first | rfl | (simp [nestW] at hn; done)) rfl (q7 w hw hn), CF.same q8⟩
  subst hxo
  obtain ⟨q0, hq, -⟩ := wld_get (ly := ly) (ad := ad) (μ := μ) (hm hg)
  rw [hly] at hq
  have hstk : ((As.reverse ++ rf x :: st).map (vv ad)) = (As.map (vv ad)).reverse ++ .ref (ad x.toNat) :: st.map (vv ad) := by
    rw [List.map_append, List.map_reverse, List.map_cons, vv_rf, rv_at h0]
  have hre : (Value.ref (ad x.toNat) :: As.map (vv ad)) = (rf x :: As).map (vv ad) := by
    rw [List.map_cons, vv_rf, rv_at h0]
  rw [hstk]
  have hcz : cells + 0 ≤ (rmk lev').cells ∧ slots + 0 ≤ (rmk lev').slots := hcs
  refine va_callv (va_runVN (As := As.map (vv ad)) (rest := st.map (vv ad)) (n := n) ⟨C.1, C.2.1, C.2.2.1, C.2.2.2.1, hts⟩ (hM H.size) ⟨va_cnB n hts (WS_good hcode) rfl rfl rfl (C.2.2.2.2.2.2.2.2.2 _ hlk rfl) (hts _ hini) hdd hlR, hts _ hinst, hts _ hsel⟩ ⟨hbl, va_recv C.2.2.2.2.2.1 hP hc hq, fun U hU hW => by rw [hre]; exact hpre U hU hW⟩ rfl (by rw [List.length_map]; exact hn) hl.1 rfl (lv_room (by rw [List.map_map]; exact Nat.le_trans (Nat.le_of_eq (sum_cat ad st)) hst8)) hd ⟨hcz.1, hcz.2⟩) hS (fun q _ h => hFc q h) hFc (fun u t H1 locs1 ht hvm hw hB hz1 hk1 hS1 => ?_)
  subst hw
  obtain ⟨ho1, hg1, hP1, hK1, hD1⟩ := hB
  rw [ht] at hP1
  have K := kk ho1 hg1 H1 locs1 hP1 (hD1.weaken (fun k q _ h => hFc q.1 h)) hS1 ls hl
  exact K
theorem r_callSNI (C : Cx p s m args meth c D tys A nL cc own ret) (hCF : CF ad A s) {y : MethodName} {bytes : ByteArray} {mL index lev lev' : Nat} {ret2 : Option FieldType} {As : List AV} {host : String} (hM : KK aI l D tys ly ids ad lev y bytes mL ret2 (As) μ r μ') (hR : R = rmk lev') (hlev : lev + 1 ≤ lev') (hmL : mL ≤ 40) (hcs : cells + 0 ≤ (rmk lev').cells ∧ slots + 0 ≤ (rmk lev').slots) (hlk : Cond.methodLinkNest own index y host ∈ lw_tbl) (hcode : Cond.code y bytes mL ret2 ∈ WS) (hini : Cond.initialized y.cls ∈ WS) (hst : Cond.static y ∈ WS) (n : Nat) (hdd : y.cls ≠ "java/lang/invoke/MethodHandle" ∧ y.cls ≠ "java/lang/invoke/VarHandle" ∧ (parseMethodDescriptor y.desc).map (fun d => d.parameters.length) = some n) (hn : As.length = n) (hst8 : st.length ≤ 8) (hd : decode cc pc = .ok (.invokestatic index, 3)) (kk : inR r → V p l e R s m args below meth c cells slots Q D A ly ids ad nL μ' (pc + 3) lv (nu r :: st)) : V p l e R s m args below meth c cells slots Q D A ly ids ad nL μ pc lv (As.reverse ++ st) := by
  subst hR
  intro ho hg H locs hP hD hS ls hl
  have hts := C.2.2.2.2.1
  have hlR : (rmk lev).frames + 1 ≤ (rmk lev').frames ∧ 8 + (mL + 11) + (rmk lev).locals ≤ (rmk lev').locals := ⟨hlev, by show 8 + (mL + 11) + 60 * lev ≤ 60 * lev'; omega⟩
  have hFc : ∀ q, va_A (wld ly ids ad μ) H.size q → A q := fun q h => by
    rcases h with ⟨k, ee, h⟩ | h
    · exact hD.2 k (q, ee) h
    · exact C.2.2.2.2.2.2.1 q (Nat.le_trans hS.1 h)
  have hpre : ∀ U : State, U.heap = H → s.WarmedH U.vm → va_Pc ((As).map (vv ad)) (PW D tys ly ids ad μ H.size) ((As).map (vv ad)).toArray U := fun U hU hW => ⟨rfl, by rw [hU], ho, hg, by rw [hU]; exact hP, va_K.moved hW.alike C.2.2.2.2.2.1, hD.weaken (fun _ _ _ _ => trivial), NW.warm hW C.2.2.2.2.2.2.2.2.2, hCF.move hW (fun q h1 h2 => by rw [hU]; exact hS.2.1 q h1 h2) hFc⟩
  have hbl : FrameBlind (va_Pc ((As).map (vv ad)) (PW D tys ly ids ad μ H.size)) := fun a U g mk q => by
    obtain ⟨q0, q1, q2, q3, q4, q5, q6, q7, q8⟩ := q
    exact ⟨q0, q1, q2, q3, q4, va_K.moved (u := U) (U := U.calling g mk a) (Vm.Alike.refl U.vm) q5, q6, fun w hw hn => va_Nw.same (u := U) (by cases w <;> first | rfl | (simp [nestW] at hn; done)) rfl (q7 w hw hn), CF.same q8⟩
  have hstk : ((As.reverse ++ st).map (vv ad)) = (As.map (vv ad)).reverse ++ st.map (vv ad) := by
    rw [List.map_append, List.map_reverse]
  rw [hstk]
  have hcz : cells + 0 ≤ (rmk lev').cells ∧ slots + 0 ≤ (rmk lev').slots := hcs
  refine va_calli (va_runSN (As := As.map (vv ad)) (rest := st.map (vv ad)) (n := n) ⟨C.1, C.2.1, C.2.2.1, C.2.2.2.1, hts⟩ (hM H.size) ⟨va_cnB n hts (WS_good hcode) rfl rfl rfl (C.2.2.2.2.2.2.2.2.2 _ hlk rfl) (hts _ hini) hdd hlR, hts _ hst, trivial⟩ ⟨hbl, hpre⟩ rfl (by rw [List.length_map]; exact hn) hl.1 rfl (lv_room (by rw [List.map_map]; exact Nat.le_trans (Nat.le_of_eq (sum_cat ad st)) hst8)) hd ⟨hcz.1, hcz.2⟩) hS (fun q _ h => hFc q h) hFc (fun r0 u t H1 locs1 ht hvm hw hB hz1 hk1 hS1 => ?_)
  obtain ⟨⟨rfl, rfl⟩, hrr⟩ := hw
  obtain ⟨ho1, hg1, hP1, hK1, hD1⟩ := hB
  rw [ht] at hP1
  have K := kk hrr ho1 hg1 H1 locs1 hP1 (hD1.weaken (fun k q _ h => hFc q.1 h)) hS1 ls hl
  exact K
theorem r_callSNV (C : Cx p s m args meth c D tys A nL cc own ret) (hCF : CF ad A s) {y : MethodName} {bytes : ByteArray} {mL index lev lev' : Nat} {ret2 : Option FieldType} {As : List AV} {host : String} (hM : KK aV l D tys ly ids ad lev y bytes mL ret2 (As) μ r μ') (hR : R = rmk lev') (hlev : lev + 1 ≤ lev') (hmL : mL ≤ 40) (hcs : cells + 0 ≤ (rmk lev').cells ∧ slots + 0 ≤ (rmk lev').slots) (hlk : Cond.methodLinkNest own index y host ∈ lw_tbl) (hcode : Cond.code y bytes mL ret2 ∈ WS) (hini : Cond.initialized y.cls ∈ WS) (hst : Cond.static y ∈ WS) (n : Nat) (hdd : y.cls ≠ "java/lang/invoke/MethodHandle" ∧ y.cls ≠ "java/lang/invoke/VarHandle" ∧ (parseMethodDescriptor y.desc).map (fun d => d.parameters.length) = some n) (hn : As.length = n) (hst8 : st.length ≤ 8) (hd : decode cc pc = .ok (.invokestatic index, 3)) (kk : V p l e R s m args below meth c cells slots Q D A ly ids ad nL μ' (pc + 3) lv st) : V p l e R s m args below meth c cells slots Q D A ly ids ad nL μ pc lv (As.reverse ++ st) := by
  subst hR
  intro ho hg H locs hP hD hS ls hl
  have hts := C.2.2.2.2.1
  have hlR : (rmk lev).frames + 1 ≤ (rmk lev').frames ∧ 8 + (mL + 11) + (rmk lev).locals ≤ (rmk lev').locals := ⟨hlev, by show 8 + (mL + 11) + 60 * lev ≤ 60 * lev'; omega⟩
  have hFc : ∀ q, va_A (wld ly ids ad μ) H.size q → A q := fun q h => by
    rcases h with ⟨k, ee, h⟩ | h
    · exact hD.2 k (q, ee) h
    · exact C.2.2.2.2.2.2.1 q (Nat.le_trans hS.1 h)
  have hpre : ∀ U : State, U.heap = H → s.WarmedH U.vm → va_Pc ((As).map (vv ad)) (PW D tys ly ids ad μ H.size) ((As).map (vv ad)).toArray U := fun U hU hW => ⟨rfl, by rw [hU], ho, hg, by rw [hU]; exact hP, va_K.moved hW.alike C.2.2.2.2.2.1, hD.weaken (fun _ _ _ _ => trivial), NW.warm hW C.2.2.2.2.2.2.2.2.2, hCF.move hW (fun q h1 h2 => by rw [hU]; exact hS.2.1 q h1 h2) hFc⟩
  have hbl : FrameBlind (va_Pc ((As).map (vv ad)) (PW D tys ly ids ad μ H.size)) := fun a U g mk q => by
    obtain ⟨q0, q1, q2, q3, q4, q5, q6, q7, q8⟩ := q
    exact ⟨q0, q1, q2, q3, q4, va_K.moved (u := U) (U := U.calling g mk a) (Vm.Alike.refl U.vm) q5, q6, fun w hw hn => va_Nw.same (u := U) (by cases w <;> first | rfl | (simp [nestW] at hn; done)) rfl (q7 w hw hn), CF.same q8⟩
  have hstk : ((As.reverse ++ st).map (vv ad)) = (As.map (vv ad)).reverse ++ st.map (vv ad) := by
    rw [List.map_append, List.map_reverse]
  rw [hstk]
  have hcz : cells + 0 ≤ (rmk lev').cells ∧ slots + 0 ≤ (rmk lev').slots := hcs
  refine va_callv (va_runSN (As := As.map (vv ad)) (rest := st.map (vv ad)) (n := n) ⟨C.1, C.2.1, C.2.2.1, C.2.2.2.1, hts⟩ (hM H.size) ⟨va_cnB n hts (WS_good hcode) rfl rfl rfl (C.2.2.2.2.2.2.2.2.2 _ hlk rfl) (hts _ hini) hdd hlR, hts _ hst, trivial⟩ ⟨hbl, hpre⟩ rfl (by rw [List.length_map]; exact hn) hl.1 rfl (lv_room (by rw [List.map_map]; exact Nat.le_trans (Nat.le_of_eq (sum_cat ad st)) hst8)) hd ⟨hcz.1, hcz.2⟩) hS (fun q _ h => hFc q h) hFc (fun u t H1 locs1 ht hvm hw hB hz1 hk1 hS1 => ?_)
  subst hw
  obtain ⟨ho1, hg1, hP1, hK1, hD1⟩ := hB
  rw [ht] at hP1
  have K := kk ho1 hg1 H1 locs1 hP1 (hD1.weaken (fun k q _ h => hFc q.1 h)) hS1 ls hl
  exact K
end VC
