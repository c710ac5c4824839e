/-! BASE: the memory that everything is said in. An object has a number (its id), a memory says for an id and a place an integer; references are ids, null is below 0. -/
abbrev Mem : Type := Nat → Nat → Int
def zI (z : Int) : Int32 := Int32.ofInt z
abbrev inR (z : Int) : Prop := -2147483648 ≤ z ∧ z < 2147483648
abbrev iv (z : Int) : Value := .int (zI z)
theorem zr_bmod {z : Int} (h : inR z) : z.bmod (2 ^ 32) = z := by
  obtain ⟨h1, h2⟩ := h
  rw [Int.bmod_eq_of_le] <;> omega
theorem zI_toInt {z : Int} (h : inR z) : (zI z).toInt = z := by
  unfold zI
  rw [Int32.toInt_ofInt]
  exact zr_bmod h
theorem zI_of (x : Int32) : zI x.toInt = x := by
  unfold zI
  exact Int32.ofInt_toInt x
theorem zI_rng (x : Int32) : inR x.toInt := ⟨by have := Int32.le_toInt x; omega, by have := Int32.toInt_lt x; omega⟩
theorem zI_add (a b : Int) : zI a + zI b = zI (a + b) := (Int32.ofInt_add a b).symm
theorem zI_sub (a b : Int) : zI a - zI b = zI (a - b) := (Int32.ofInt_sub a b).symm
theorem zI_mul (a b : Int) : zI a * zI b = zI (a * b) := (Int32.ofInt_mul a b).symm
theorem zI_lt {a b : Int} (ha : inR a) (hb : inR b) : zI a < zI b ↔ a < b := by
  rw [Int32.lt_iff_toInt_lt, zI_toInt ha, zI_toInt hb]
theorem zI_le {a b : Int} (ha : inR a) (hb : inR b) : zI a ≤ zI b ↔ a ≤ b := by
  rw [Int32.le_iff_toInt_le, zI_toInt ha, zI_toInt hb]
theorem zI_eq {a b : Int} (ha : inR a) (hb : inR b) : zI a = zI b ↔ a = b := by
  constructor
  · intro h
    have := congrArg Int32.toInt h
    rwa [zI_toInt ha, zI_toInt hb] at this
  · intro h
    rw [h]
theorem inR_lit {z : Int} (h : (decide (-2147483648 ≤ z) && decide (z < 2147483648)) = true) : inR z := by
  simp only [Bool.and_eq_true, decide_eq_true_eq] at h
  exact h
theorem zI_clamp {z : Int} (h : inR z) : (zI z).toNatClampNeg = z.toNat := by
  show (zI z).toInt.toNat = z.toNat
  rw [zI_toInt h]
theorem zI_in {z : Int} {n : Nat} (h0 : 0 ≤ z) (h1 : z < n) (hn : n < 2147483648) : vp_in (zI z) n := by
  have hz : inR z := ⟨by omega, by omega⟩
  rw [vp_in_iff, zI_toInt hz]
  exact ⟨h0, h1⟩
def WS : List Cond := lw_tbl.filter goodWord
theorem WS_of {w : Cond} (i : Nat) (h : lw_tbl[i]? = some w) (hg : goodWord w = true) : w ∈ WS := List.mem_filter.mpr ⟨List.mem_of_getElem? h, hg⟩
theorem WS_good {y : MethodName} {cc : ByteArray} {n : Nat} {r : Option FieldType} (h : Cond.code y cc n r ∈ WS) : GoodIn WS (Cond.code y cc n r :: WS) := by
  intro w hw
  have hw2 : w ∈ WS := by
    rcases List.mem_cons.mp hw with e | e
    · rw [e]; exact h
    · exact e
  exact ⟨hw2, good_of_word (List.mem_filter.mp hw2).2⟩
/-- the words on nest mates, which the tables keep in another way -/
def nestW (w : Cond) : Bool := match w with | .fieldLinkNest .. => true | .methodLinkNest .. => true | _ => false
def NW (U : State) : Prop := ∀ w ∈ lw_tbl, nestW w = true → va_Nw w U
theorem NW.warm {s U : State} (hW : s.WarmedH U.vm) (h : NW s) : NW U := by
  intro w hw hn
  have h1 := h w hw hn
  cases w <;> first | exact va_Nw.warmF hW h1 | exact va_Nw.warmM hW h1 | (simp [nestW] at hn; done)
def ok (μ : Mem) : Prop := ∀ o k, inR (μ o k)
def upf (f : Nat → Int) (k : Nat) (v : Int) : Nat → Int := fun j => if j = k then v else f j
def up (μ : Mem) (o k : Nat) (v : Int) : Mem := fun a => if a = o then upf (μ o) k v else μ a
theorem up_at (μ : Mem) (o k : Nat) (v : Int) : up μ o k v o = upf (μ o) k v := if_pos rfl
theorem up_ne {μ : Mem} {o k a : Nat} {v : Int} (h : a ≠ o) : up μ o k v a = μ a := if_neg h
theorem ok_up {μ : Mem} {o k : Nat} {v : Int} (h : ok μ) (hv : inR v) : ok (up μ o k v) := by
  intro a j
  unfold up
  split
  · unfold upf
    split
    · exact hv
    · exact h o j
  · exact h a j
/-- how a cell looks: ly ad id (what the memory holds there) -/
abbrev Lay : Type := (Nat → Nat) → Nat → (Nat → Int) → va_E
def wld (ly : Lay) (ids : List Nat) (ad : Nat → Nat) (μ : Mem) : va_W := ids.map (fun o => (ad o, ly ad o (μ o)))
theorem wld_get {ly : Lay} {ids : List Nat} {ad : Nat → Nat} {μ : Mem} {o : Nat} (h : o ∈ ids) : ∃ k : Nat, (wld ly ids ad μ)[k]? = some (ad o, ly ad o (μ o)) ∧ ids[k]? = some o := by
  obtain ⟨k, hk⟩ := List.getElem?_of_mem h
  exact ⟨k, by unfold wld; rw [List.getElem?_map, hk]; rfl, hk⟩
theorem wld_set {ly : Lay} {ids : List Nat} {ad : Nat → Nat} {μ : Mem} {A : Nat → Prop} {o k j : Nat} {v : Int} {e : va_E} (hD : va_D A (wld ly ids ad μ)) (hk : ids[k]? = some o) (he : ly ad o (upf (μ o) j v) = e) : (wld ly ids ad μ).set k (ad o, e) = wld ly ids ad (up μ o j v) := by
  subst he
  apply List.ext_getElem?
  intro n
  have hkl : k < ids.length := (List.getElem?_eq_some_iff.mp hk).1
  have hkl2 : k < (wld ly ids ad μ).length := by unfold wld; rw [List.length_map]; exact hkl
  by_cases hn : n = k
  · subst hn
    rw [List.getElem?_set_self hkl2]
    unfold wld
    rw [List.getElem?_map, hk]
    show _ = some (ad o, ly ad o (up μ o j v o))
    rw [up_at]
  · rw [List.getElem?_set_ne (Ne.symm hn)]
    unfold wld
    rw [List.getElem?_map, List.getElem?_map]
    cases hi : ids[n]? with
    | none => rfl
    | some a =>
      show some (ad a, ly ad a (μ a)) = some (ad a, ly ad a (up μ o j v a))
      have hne : a ≠ o := by
        intro hao
        subst hao
        refine hn (hD.1 n k (ad a, ly ad a (μ a)) (ad a, ly ad a (μ a)) ?_ ?_ rfl)
        · unfold wld; rw [List.getElem?_map, hi]; rfl
        · unfold wld; rw [List.getElem?_map, hk]; rfl
      rw [up_ne hne]
/-- the ids that are always there; the stones 100 + k, the gangs 200 + k, as many as place 90 says -/
def bas (o : Nat) : Bool := o.blt 50 || (Nat.ble 300 o && o.blt 378)
def gho (ids : List Nat) (μ : Mem) : Prop := (∀ o, bas o = true → o ∈ ids) ∧ (∀ k : Nat, (k : Int) < μ 90 0 → 100 + k ∈ ids) ∧ ∀ k : Nat, (k : Int) < μ 90 1 → 200 + k ∈ ids
theorem gho_up {ids : List Nat} {μ : Mem} {o k : Nat} {v : Int} (h : gho ids μ) (ho : o ≠ 90) : gho ids (up μ o k v) := by
  unfold gho
  rw [up_ne (Ne.symm ho)]
  exact h
/-- a reference's value -/
def rv (ad : Nat → Nat) (x : Int) : Value := if x < 0 then .null else .ref (ad x.toNat)
theorem rv_at {ad : Nat → Nat} {x : Int} (h : 0 ≤ x) : rv ad x = .ref (ad x.toNat) := if_neg (by omega)
theorem rv_null {ad : Nat → Nat} {x : Int} (h : x < 0) : rv ad x = .null := if_pos h
theorem rv_cat (ad : Nat → Nat) (x : Int) : (rv ad x).category = 1 := by
  unfold rv
  split <;> rfl
/-- a value as data: (false, z) the number z, (true, x) the reference to the id x, null below 0 -/
abbrev AV : Type := Bool × Int
abbrev nu (z : Int) : AV := (false, z)
abbrev rf (x : Int) : AV := (true, x)
def vv (ad : Nat → Nat) (v : AV) : Value := if v.1 = true then rv ad v.2 else iv v.2
theorem vv_nu (ad : Nat → Nat) (z : Int) : vv ad (nu z) = iv z := rfl
theorem vv_rf (ad : Nat → Nat) (x : Int) : vv ad (rf x) = rv ad x := rfl
theorem vv_cat (ad : Nat → Nat) (v : AV) : (vv ad v).category = 1 := by
  unfold vv
  split
  · exact rv_cat ad v.2
  · rfl
/-- locals by their places -/
abbrev LV : Type := List (Option AV)
def lvp (ad : Nat → Nat) (lv : LV) : List (Nat × Value) := (List.range lv.length).filterMap (fun i => match lv[i]? with | some (some v) => some (i, vv ad v) | _ => none)
theorem lvp_mem {ad : Nat → Nat} {lv : LV} {i : Nat} {v : AV} (h : lv[i]? = some (some v)) : (i, vv ad v) ∈ lvp ad lv := by
  refine List.mem_filterMap.mpr ⟨i, List.mem_range.mpr (List.getElem?_eq_some_iff.mp h).1, ?_⟩
  rw [h]
theorem lvp_of {ad : Nat → Nat} {lv : LV} {q : Nat × Value} (h : q ∈ lvp ad lv) : ∃ v, lv[q.1]? = some (some v) ∧ q.2 = vv ad v := by
  obtain ⟨i, -, hi⟩ := List.mem_filterMap.mp h
  split at hi
  · rename_i v hv
    cases hi
    exact ⟨v, hv, rfl⟩
  · cases hi
theorem lvh_at {ad : Nat → Nat} {ls : Array Slot} {nL : Nat} {lv : LV} (h : lv_has ls nL (lvp ad lv)) {i : Nat} {v : AV} (hi : lv[i]? = some (some v)) : ls[i]? = some (.val (vv ad v)) := h.2.2 (i, vv ad v) (lvp_mem hi)
theorem lvh_sub {ad : Nat → Nat} {ls : Array Slot} {nL : Nat} {lv lw : LV} (h : lv_has ls nL (lvp ad lv)) (hs : ∀ (i : Nat) (v : AV), lw[i]? = some (some v) → lv[i]? = some (some v)) : lv_has ls nL (lvp ad lw) := by
  refine ⟨h.1, h.2.1, fun q hq => ?_⟩
  obtain ⟨v, h1, h2⟩ := lvp_of hq
  have := lvh_at h (hs _ _ h1)
  rw [h2]
  exact this
theorem lvh_set {ad : Nat → Nat} {ls : Array Slot} {nL : Nat} {lv : LV} {i : Nat} {v : AV} (h : lv_has ls nL ((i, vv ad v) :: (lvp ad lv).filter (fun q => !(q.1 == i) && !(q.1 + 1 == i && q.2.category == 2)))) : lv_has ls nL (lvp ad (lv.set i (some v))) := by
  refine ⟨h.1, h.2.1, fun q hq => ?_⟩
  obtain ⟨w, h1, h2⟩ := lvp_of hq
  by_cases hj : q.1 = i
  · have hi := (List.getElem?_eq_some_iff.mp h1).1
    rw [List.length_set] at hi
    rw [hj, List.getElem?_set_self (by rw [← hj]; exact hi)] at h1
    cases h1
    have := h.2.2 (i, vv ad v) List.mem_cons_self
    rw [h2, hj]
    exact this
  · rw [List.getElem?_set_ne (Ne.symm hj)] at h1
    refine h.2.2 q (List.mem_cons_of_mem _ (List.mem_filter.mpr ⟨?_, ?_⟩))
    · have := lvp_mem (ad := ad) h1
      rw [← h2] at this
      exact this
    · rw [h2, vv_cat]
      simp [hj]
section VB
variable {p : Program} {l : Launch} {e : Env} {R : Room} {s : State} {m : MethodId} {args : Array Value} {below : List Frame} {meth : Method} {c : Code} {cells slots : Nat} {Q : State → Prop} {D : va_G} {tys : List (ClassId × FieldType)} {A : Nat → Prop} {ly : Lay} {ids : List Nat} {ad : Nat → Nat} {nL : Nat} {cc : ByteArray} {own : String} {ret : Option FieldType} {μ : Mem} {pc : Nat} {lv : LV} {st : List AV}
/-- what holds in a method's body from its start on -/
def Cx (p : Program) (s : State) (m : MethodId) (args : Array Value) (meth : Method) (c : Code) (D : va_G) (tys : List (ClassId × FieldType)) (A : Nat → Prop) (nL : Nat) (cc : ByteArray) (own : String) (ret : Option FieldType) : Prop :=
  p.tables.exec = Jvm.exec ∧ c.code = cc ∧ c.maxLocals = nL ∧ s.vm.findClass own = some m.cls ∧ (∀ w ∈ WS, w.before args s = true) ∧ va_K D vwCl tys s ∧ (∀ q, s.heap.size ≤ q → A q) ∧ meth.sig.returnType = ret ∧ meth.locks = false ∧ NW s
/-- THE JUDGEMENT: with the memory, at pc, with these locals and this stack, the machine comes to Q -/
def V (p : Program) (l : Launch) (e : Env) (R : Room) (s : State) (m : MethodId) (args : Array Value) (below : List Frame) (meth : Method) (c : Code) (cells slots : Nat) (Q : State → Prop) (D : va_G) (A : Nat → Prop) (ly : Lay) (ids : List Nat) (ad : Nat → Nat) (nL : Nat) (μ : Mem) (pc : Nat) (lv : LV) (st : List AV) : Prop :=
  ok μ → gho ids μ → ∀ (H : Heap) (locs : List Loc), va_P D vwCl (wld ly ids ad μ) H → va_D A (wld ly ids ad μ) → va_S A s.heap H locs → ∀ ls : Array Slot, lv_has ls nL (lvp ad lv) → W p l e R s m args below meth c H locs cells slots Q (F0 m pc ls (st.map (vv ad)))
theorem r_iconst (C : Cx p s m args meth c D tys A nL cc own ret) {n : Int} (hd : decode cc pc = .ok (.iconst n, 1)) (k : V p l e R s m args below meth c cells slots Q D A ly ids ad nL μ (pc + 1) lv (nu n :: st)) : V p l e R s m args below meth c cells slots Q D A ly ids ad nL μ pc lv st := by
  intro ho hg H locs hP hD hS ls hl
  exact lv_iconst (v := zI n) C.1 C.2.1 hd rfl (k ho hg H locs hP hD hS ls hl)
theorem r_bipush (C : Cx p s m args meth c D tys A nL cc own ret) {n : Int} (hd : decode cc pc = .ok (.bipush n, 2)) (hv : (Int8.ofInt n).toInt32 = zI n) (k : V p l e R s m args below meth c cells slots Q D A ly ids ad nL μ (pc + 2) lv (nu n :: st)) : V p l e R s m args below meth c cells slots Q D A ly ids ad nL μ pc lv st := by
  intro ho hg H locs hP hD hS ls hl
  exact lv_bipush (v := zI n) C.1 C.2.1 hd hv (k ho hg H locs hP hD hS ls hl)
theorem r_sipush (C : Cx p s m args meth c D tys A nL cc own ret) {n : Int} (hd : decode cc pc = .ok (.sipush n, 3)) (hv : (Int16.ofInt n).toInt32 = zI n) (k : V p l e R s m args below meth c cells slots Q D A ly ids ad nL μ (pc + 3) lv (nu n :: st)) : V p l e R s m args below meth c cells slots Q D A ly ids ad nL μ pc lv st := by
  intro ho hg H locs hP hD hS ls hl
  exact lv_sipush (v := zI n) C.1 C.2.1 hd hv (k ho hg H locs hP hD hS ls hl)
theorem r_ldc (C : Cx p s m args meth c D tys A nL cc own ret) {index : Nat} {v : Int32} {n : Int} (hw : Cond.constant own index v ∈ WS) (hv : v = zI n) (hd : decode cc pc = .ok (.ldc index, 2)) (k : V p l e R s m args below meth c cells slots Q D A ly ids ad nL μ (pc + 2) lv (nu n :: st)) : V p l e R s m args below meth c cells slots Q D A ly ids ad nL μ pc lv st := by
  subst hv
  intro ho hg H locs hP hD hS ls hl
  exact lv_ldc C.1 C.2.1 C.2.2.2.1 (C.2.2.2.2.1 _ hw) hd (k ho hg H locs hP hD hS ls hl)
theorem r_iload_n (C : Cx p s m args meth c D tys A nL cc own ret) {i : Fin 4} (j : Nat) {x : Int} (hk : lv[j]? = some (some (nu x))) (hj : (i : Nat) = j) (hd : decode cc pc = .ok (.iload_n i, 1)) (k : V p l e R s m args below meth c cells slots Q D A ly ids ad nL μ (pc + 1) lv (nu x :: st)) : V p l e R s m args below meth c cells slots Q D A ly ids ad nL μ pc lv st := by
  intro ho hg H locs hP hD hS ls hl
  exact lv_iload_n C.1 C.2.1 hd hj (lvh_at hl hk) (k ho hg H locs hP hD hS ls hl)
theorem r_iload (C : Cx p s m args meth c D tys A nL cc own ret) {j : Nat} {x : Int} (hk : lv[j]? = some (some (nu x))) (hd : decode cc pc = .ok (.iload j, 2)) (k : V p l e R s m args below meth c cells slots Q D A ly ids ad nL μ (pc + 2) lv (nu x :: st)) : V p l e R s m args below meth c cells slots Q D A ly ids ad nL μ pc lv st := by
  intro ho hg H locs hP hD hS ls hl
  exact lv_iload C.1 C.2.1 hd (lvh_at hl hk) (k ho hg H locs hP hD hS ls hl)
theorem r_aload_n (C : Cx p s m args meth c D tys A nL cc own ret) {i : Fin 4} (j : Nat) {x : Int} (hk : lv[j]? = some (some (rf x))) (hj : (i : Nat) = j) (hd : decode cc pc = .ok (.aload_n i, 1)) (k : V p l e R s m args below meth c cells slots Q D A ly ids ad nL μ (pc + 1) lv (rf x :: st)) : V p l e R s m args below meth c cells slots Q D A ly ids ad nL μ pc lv st := by
  intro ho hg H locs hP hD hS ls hl
  have h1 := lvh_at hl hk
  have h2 := k ho hg H locs hP hD hS ls hl
  rw [List.map_cons, vv_rf] at h2
  rw [vv_rf] at h1
  by_cases hx : x < 0
  · rw [rv_null hx] at h1 h2
    exact lv_aload_nN C.1 C.2.1 hd hj h1 h2
  · rw [rv_at (by omega)] at h1 h2
    exact lv_aload_n C.1 C.2.1 hd hj h1 h2
theorem r_aload (C : Cx p s m args meth c D tys A nL cc own ret) {j : Nat} {x : Int} (hk : lv[j]? = some (some (rf x))) (hd : decode cc pc = .ok (.aload j, 2)) (k : V p l e R s m args below meth c cells slots Q D A ly ids ad nL μ (pc + 2) lv (rf x :: st)) : V p l e R s m args below meth c cells slots Q D A ly ids ad nL μ pc lv st := by
  intro ho hg H locs hP hD hS ls hl
  have h1 := lvh_at hl hk
  have h2 := k ho hg H locs hP hD hS ls hl
  rw [List.map_cons, vv_rf] at h2
  rw [vv_rf] at h1
  by_cases hx : x < 0
  · rw [rv_null hx] at h1 h2
    exact lv_aloadN C.1 C.2.1 hd h1 h2
  · rw [rv_at (by omega)] at h1 h2
    exact lv_aload C.1 C.2.1 hd h1 h2
theorem r_istore_n (C : Cx p s m args meth c D tys A nL cc own ret) {i : Fin 4} (j : Nat) {x : Int} {lw : LV} (hl' : lv.set j (some (nu x)) = lw) (hj : (i : Nat) = j) (hn : j < nL) (hd : decode cc pc = .ok (.istore_n i, 1)) (k : V p l e R s m args below meth c cells slots Q D A ly ids ad nL μ (pc + 1) lw st) : V p l e R s m args below meth c cells slots Q D A ly ids ad nL μ pc lv (nu x :: st) := by
  subst hl'
  intro ho hg H locs hP hD hS ls hl
  exact lv_istore_n C.1 C.2.1 hd hj hl hn rfl (fun ls' h' => k ho hg H locs hP hD hS ls' (lvh_set (v := nu x) h'))
theorem r_istore (C : Cx p s m args meth c D tys A nL cc own ret) {j : Nat} {x : Int} {lw : LV} (hl' : lv.set j (some (nu x)) = lw) (hn : j < nL) (hd : decode cc pc = .ok (.istore j, 2)) (k : V p l e R s m args below meth c cells slots Q D A ly ids ad nL μ (pc + 2) lw st) : V p l e R s m args below meth c cells slots Q D A ly ids ad nL μ pc lv (nu x :: st) := by
  subst hl'
  intro ho hg H locs hP hD hS ls hl
  exact lv_istore C.1 C.2.1 hd hl hn rfl (fun ls' h' => k ho hg H locs hP hD hS ls' (lvh_set (v := nu x) h'))
theorem r_astore_n (C : Cx p s m args meth c D tys A nL cc own ret) {i : Fin 4} (j : Nat) {x : Int} {lw : LV} (hl' : lv.set j (some (rf x)) = lw) (hj : (i : Nat) = j) (hn : j < nL) (hd : decode cc pc = .ok (.astore_n i, 1)) (k : V p l e R s m args below meth c cells slots Q D A ly ids ad nL μ (pc + 1) lw st) : V p l e R s m args below meth c cells slots Q D A ly ids ad nL μ pc lv (rf x :: st) := by
  subst hl'
  intro ho hg H locs hP hD hS ls hl
  rw [List.map_cons, vv_rf]
  have h9 : ∀ ls' : Array Slot, lv_has ls' nL ((j, rv ad x) :: (lvp ad lv).filter (fun q => !(q.1 == j) && !(q.1 + 1 == j && q.2.category == 2))) → W p l e R s m args below meth c H locs cells slots Q (F0 m (pc + 1) ls' (st.map (vv ad))) := fun ls' h' => k ho hg H locs hP hD hS ls' (lvh_set (v := rf x) h')
  by_cases hx : x < 0
  · rw [rv_null hx] at h9 ⊢
    exact lv_astore_nN C.1 C.2.1 hd hj hl hn rfl h9
  · rw [rv_at (by omega)] at h9 ⊢
    exact lv_astore_n C.1 C.2.1 hd hj hl hn rfl h9
theorem r_astore (C : Cx p s m args meth c D tys A nL cc own ret) {j : Nat} {x : Int} {lw : LV} (hl' : lv.set j (some (rf x)) = lw) (hn : j < nL) (hd : decode cc pc = .ok (.astore j, 2)) (k : V p l e R s m args below meth c cells slots Q D A ly ids ad nL μ (pc + 2) lw st) : V p l e R s m args below meth c cells slots Q D A ly ids ad nL μ pc lv (rf x :: st) := by
  subst hl'
  intro ho hg H locs hP hD hS ls hl
  rw [List.map_cons, vv_rf]
  have h9 : ∀ ls' : Array Slot, lv_has ls' nL ((j, rv ad x) :: (lvp ad lv).filter (fun q => !(q.1 == j) && !(q.1 + 1 == j && q.2.category == 2))) → W p l e R s m args below meth c H locs cells slots Q (F0 m (pc + 2) ls' (st.map (vv ad))) := fun ls' h' => k ho hg H locs hP hD hS ls' (lvh_set (v := rf x) h')
  by_cases hx : x < 0
  · rw [rv_null hx] at h9 ⊢
    exact lv_astoreN C.1 C.2.1 hd hl hn rfl h9
  · rw [rv_at (by omega)] at h9 ⊢
    exact lv_astore C.1 C.2.1 hd hl hn rfl h9
theorem r_iinc (C : Cx p s m args meth c D tys A nL cc own ret) {j : Nat} {n x : Int} {lw : LV} (hk : lv[j]? = some (some (nu x))) (hl' : lv.set j (some (nu (x + n))) = lw) (hn : j < nL) (hd : decode cc pc = .ok (.iinc j n, 3)) (k : V p l e R s m args below meth c cells slots Q D A ly ids ad nL μ (pc + 3) lw st) : V p l e R s m args below meth c cells slots Q D A ly ids ad nL μ pc lv st := by
  subst hl'
  intro ho hg H locs hP hD hS ls hl
  obtain ⟨q, hq⟩ := List.getElem?_of_mem (lvp_mem (ad := ad) hk)
  exact lv_iinc (v := zI (x + n)) C.1 C.2.1 hd hl hq (zI_add x n) hn rfl (fun ls' h' => k ho hg H locs hP hD hS ls' (lvh_set (v := nu (x + n)) h'))
theorem r_iadd (C : Cx p s m args meth c D tys A nL cc own ret) {a b : Int} (hd : decode cc pc = .ok (.iadd, 1)) (k : V p l e R s m args below meth c cells slots Q D A ly ids ad nL μ (pc + 1) lv (nu (a + b) :: st)) : V p l e R s m args below meth c cells slots Q D A ly ids ad nL μ pc lv (nu b :: nu a :: st) := by
  intro ho hg H locs hP hD hS ls hl
  refine lv_iadd C.1 C.2.1 hd ?_
  rw [zI_add]
  exact k ho hg H locs hP hD hS ls hl
theorem r_isub (C : Cx p s m args meth c D tys A nL cc own ret) {a b : Int} (hd : decode cc pc = .ok (.isub, 1)) (k : V p l e R s m args below meth c cells slots Q D A ly ids ad nL μ (pc + 1) lv (nu (a - b) :: st)) : V p l e R s m args below meth c cells slots Q D A ly ids ad nL μ pc lv (nu b :: nu a :: st) := by
  intro ho hg H locs hP hD hS ls hl
  refine lv_isub C.1 C.2.1 hd ?_
  rw [zI_sub]
  exact k ho hg H locs hP hD hS ls hl
theorem r_imul (C : Cx p s m args meth c D tys A nL cc own ret) {a b : Int} (hd : decode cc pc = .ok (.imul, 1)) (k : V p l e R s m args below meth c cells slots Q D A ly ids ad nL μ (pc + 1) lv (nu (a * b) :: st)) : V p l e R s m args below meth c cells slots Q D A ly ids ad nL μ pc lv (nu b :: nu a :: st) := by
  intro ho hg H locs hP hD hS ls hl
  refine lv_imul C.1 C.2.1 hd ?_
  rw [zI_mul]
  exact k ho hg H locs hP hD hS ls hl
end VB
def zand (a b : Int) : Int := (zI a &&& zI b).toInt
def zor (a b : Int) : Int := (zI a ||| zI b).toInt
def zxor (a b : Int) : Int := (zI a ^^^ zI b).toInt
def zshl (a b : Int) : Int := (zI a <<< (zI b &&& 31)).toInt
def zushr (a b : Int) : Int := ((zI a).toUInt32 >>> ((zI b).toUInt32 &&& Int32.toUInt32 31)).toInt32.toInt
def zshr (a b : Int) : Int := (zI a >>> (zI b &&& 31)).toInt
def zi2b (a : Int) : Int := (zI a).toInt8.toInt32.toInt
def zdiv (a b : Int) : Int := (zI a / zI b).toInt
section VB
variable {p : Program} {l : Launch} {e : Env} {R : Room} {s : State} {m : MethodId} {args : Array Value} {below : List Frame} {meth : Method} {c : Code} {cells slots : Nat} {Q : State → Prop} {D : va_G} {tys : List (ClassId × FieldType)} {A : Nat → Prop} {ly : Lay} {ids : List Nat} {ad : Nat → Nat} {nL : Nat} {cc : ByteArray} {own : String} {ret : Option FieldType} {μ : Mem} {pc : Nat} {lv : LV} {st : List AV}
theorem r_iand (C : Cx p s m args meth c D tys A nL cc own ret) {a b : Int} (hd : decode cc pc = .ok (.iand, 1)) (k : V p l e R s m args below meth c cells slots Q D A ly ids ad nL μ (pc + 1) lv (nu (zand a b) :: st)) : V p l e R s m args below meth c cells slots Q D A ly ids ad nL μ pc lv (nu b :: nu a :: st) := by
  intro ho hg H locs hP hD hS ls hl
  refine lv_iand C.1 C.2.1 hd ?_
  have h9 := k ho hg H locs hP hD hS ls hl
  rw [List.map_cons, vv_nu, zand, iv, zI_of] at h9
  exact h9
theorem r_ior (C : Cx p s m args meth c D tys A nL cc own ret) {a b : Int} (hd : decode cc pc = .ok (.ior, 1)) (k : V p l e R s m args below meth c cells slots Q D A ly ids ad nL μ (pc + 1) lv (nu (zor a b) :: st)) : V p l e R s m args below meth c cells slots Q D A ly ids ad nL μ pc lv (nu b :: nu a :: st) := by
  intro ho hg H locs hP hD hS ls hl
  refine lv_ior C.1 C.2.1 hd ?_
  have h9 := k ho hg H locs hP hD hS ls hl
  rw [List.map_cons, vv_nu, zor, iv, zI_of] at h9
  exact h9
theorem r_ixor (C : Cx p s m args meth c D tys A nL cc own ret) {a b : Int} (hd : decode cc pc = .ok (.ixor, 1)) (k : V p l e R s m args below meth c cells slots Q D A ly ids ad nL μ (pc + 1) lv (nu (zxor a b) :: st)) : V p l e R s m args below meth c cells slots Q D A ly ids ad nL μ pc lv (nu b :: nu a :: st) := by
  intro ho hg H locs hP hD hS ls hl
  refine lv_ixor C.1 C.2.1 hd ?_
  have h9 := k ho hg H locs hP hD hS ls hl
  rw [List.map_cons, vv_nu, zxor, iv, zI_of] at h9
  exact h9
theorem r_ishl (C : Cx p s m args meth c D tys A nL cc own ret) {a b : Int} (hd : decode cc pc = .ok (.ishl, 1)) (k : V p l e R s m args below meth c cells slots Q D A ly ids ad nL μ (pc + 1) lv (nu (zshl a b) :: st)) : V p l e R s m args below meth c cells slots Q D A ly ids ad nL μ pc lv (nu b :: nu a :: st) := by
  intro ho hg H locs hP hD hS ls hl
  refine lv_ishl C.1 C.2.1 hd ?_
  have h9 := k ho hg H locs hP hD hS ls hl
  rw [List.map_cons, vv_nu, zshl, iv, zI_of] at h9
  exact h9
theorem r_ishr (C : Cx p s m args meth c D tys A nL cc own ret) {a b : Int} (hd : decode cc pc = .ok (.ishr, 1)) (k : V p l e R s m args below meth c cells slots Q D A ly ids ad nL μ (pc + 1) lv (nu (zshr a b) :: st)) : V p l e R s m args below meth c cells slots Q D A ly ids ad nL μ pc lv (nu b :: nu a :: st) := by
  intro ho hg H locs hP hD hS ls hl
  refine lv_ishr C.1 C.2.1 hd ?_
  have h9 := k ho hg H locs hP hD hS ls hl
  rw [List.map_cons, vv_nu, zshr, iv, zI_of] at h9
  exact h9
theorem r_idiv (C : Cx p s m args meth c D tys A nL cc own ret) {a b : Int} (hb : inR b) (hne : b ≠ 0) (hd : decode cc pc = .ok (.idiv, 1)) (k : V p l e R s m args below meth c cells slots Q D A ly ids ad nL μ (pc + 1) lv (nu (zdiv a b) :: st)) : V p l e R s m args below meth c cells slots Q D A ly ids ad nL μ pc lv (nu b :: nu a :: st) := by
  intro ho hg H locs hP hD hS ls hl
  refine lv_idiv C.1 C.2.1 hd (fun h => hne ((zI_eq hb ⟨by decide, by decide⟩).mp (h.trans (show (0 : Int32) = zI 0 from rfl)))) ?_
  have h9 := k ho hg H locs hP hD hS ls hl
  rw [List.map_cons, vv_nu, zdiv, iv, zI_of] at h9
  exact h9
theorem r_iushr (C : Cx p s m args meth c D tys A nL cc own ret) {a b : Int} (hd : decode cc pc = .ok (.iushr, 1)) (k : V p l e R s m args below meth c cells slots Q D A ly ids ad nL μ (pc + 1) lv (nu (zushr a b) :: st)) : V p l e R s m args below meth c cells slots Q D A ly ids ad nL μ pc lv (nu b :: nu a :: st) := by
  intro ho hg H locs hP hD hS ls hl
  refine lv_iushr C.1 C.2.1 hd rfl ?_
  have h9 := k ho hg H locs hP hD hS ls hl
  rw [List.map_cons, vv_nu, zushr, iv, zI_of] at h9
  exact h9
theorem r_i2b (C : Cx p s m args meth c D tys A nL cc own ret) {a : Int} (hd : decode cc pc = .ok (.i2b, 1)) (k : V p l e R s m args below meth c cells slots Q D A ly ids ad nL μ (pc + 1) lv (nu (zi2b a) :: st)) : V p l e R s m args below meth c cells slots Q D A ly ids ad nL μ pc lv (nu a :: st) := by
  intro ho hg H locs hP hD hS ls hl
  refine lv_i2b C.1 C.2.1 hd rfl ?_
  have h9 := k ho hg H locs hP hD hS ls hl
  rw [List.map_cons, vv_nu, zi2b, iv, zI_of] at h9
  exact h9
theorem r_dup (C : Cx p s m args meth c D tys A nL cc own ret) {v : AV} (hd : decode cc pc = .ok (.dup, 1)) (k : V p l e R s m args below meth c cells slots Q D A ly ids ad nL μ (pc + 1) lv (v :: v :: st)) : V p l e R s m args below meth c cells slots Q D A ly ids ad nL μ pc lv (v :: st) := by
  intro ho hg H locs hP hD hS ls hl
  exact lv_dup C.1 C.2.1 hd (vv_cat ad v) (k ho hg H locs hP hD hS ls hl)
theorem r_pop (C : Cx p s m args meth c D tys A nL cc own ret) {v : AV} (hd : decode cc pc = .ok (.pop, 1)) (k : V p l e R s m args below meth c cells slots Q D A ly ids ad nL μ (pc + 1) lv st) : V p l e R s m args below meth c cells slots Q D A ly ids ad nL μ pc lv (v :: st) := by
  intro ho hg H locs hP hD hS ls hl
  exact lv_pop C.1 C.2.1 hd (vv_cat ad v) (k ho hg H locs hP hD hS ls hl)
theorem r_dup_x1 (C : Cx p s m args meth c D tys A nL cc own ret) {v w : AV} (hd : decode cc pc = .ok (.dup_x1, 1)) (k : V p l e R s m args below meth c cells slots Q D A ly ids ad nL μ (pc + 1) lv (v :: w :: v :: st)) : V p l e R s m args below meth c cells slots Q D A ly ids ad nL μ pc lv (v :: w :: st) := by
  intro ho hg H locs hP hD hS ls hl
  exact lv_dup_x1 C.1 C.2.1 hd (vv_cat ad v) (vv_cat ad w) (k ho hg H locs hP hD hS ls hl)
theorem r_dup2 (C : Cx p s m args meth c D tys A nL cc own ret) {v w : AV} (hd : decode cc pc = .ok (.dup2, 1)) (k : V p l e R s m args below meth c cells slots Q D A ly ids ad nL μ (pc + 1) lv (v :: w :: v :: w :: st)) : V p l e R s m args below meth c cells slots Q D A ly ids ad nL μ pc lv (v :: w :: st) := by
  intro ho hg H locs hP hD hS ls hl
  exact lv_dup2_11 C.1 C.2.1 hd (vv_cat ad v) (vv_cat ad w) (k ho hg H locs hP hD hS ls hl)
theorem r_null (C : Cx p s m args meth c D tys A nL cc own ret) (hd : decode cc pc = .ok (.aconst_null, 1)) (k : V p l e R s m args below meth c cells slots Q D A ly ids ad nL μ (pc + 1) lv (rf (-1) :: st)) : V p l e R s m args below meth c cells slots Q D A ly ids ad nL μ pc lv st := by
  intro ho hg H locs hP hD hS ls hl
  exact lv_null C.1 C.2.1 hd (k ho hg H locs hP hD hS ls hl)
theorem r_goto (C : Cx p s m args meth c D tys A nL cc own ret) {off : Int} (tgt : Nat) (ht : (pc : Int) + off = (tgt : Int)) (hd : decode cc pc = .ok (.goto off, 3)) (k : V p l e R s m args below meth c cells slots Q D A ly ids ad nL μ tgt lv st) : V p l e R s m args below meth c cells slots Q D A ly ids ad nL μ pc lv st := by
  intro ho hg H locs hP hD hS ls hl
  exact lv_goto C.1 C.2.1 hd ht (k ho hg H locs hP hD hS ls hl)
theorem z0_in : inR 0 := ⟨by decide, by decide⟩
theorem z0_eq : zI 0 = 0 := rfl
theorem r_icmp_eq (C : Cx p s m args meth c D tys A nL cc own ret) {a b : Int} {off : Int} (tgt : Nat) (ha : inR a) (hb : inR b) (ht : (pc : Int) + off = (tgt : Int)) (hd : decode cc pc = .ok (.if_icmp .eq off, 3)) (kt : a = b → V p l e R s m args below meth c cells slots Q D A ly ids ad nL μ tgt lv st) (kf : ¬ (a = b) → V p l e R s m args below meth c cells slots Q D A ly ids ad nL μ (pc + 3) lv st) : V p l e R s m args below meth c cells slots Q D A ly ids ad nL μ pc lv (nu b :: nu a :: st) := by
  intro ho hg H locs hP hD hS ls hl
  exact lv_icmp_eq C.1 C.2.1 hd ht (fun h => kt ((zI_eq ha hb).mp h) ho hg H locs hP hD hS ls hl) (fun h => kf (fun q => h ((zI_eq ha hb).mpr q)) ho hg H locs hP hD hS ls hl)
theorem r_if_eq (C : Cx p s m args meth c D tys A nL cc own ret) {a : Int} {off : Int} (tgt : Nat) (ha : inR a) (ht : (pc : Int) + off = (tgt : Int)) (hd : decode cc pc = .ok (.ifCond .eq off, 3)) (kt : a = 0 → V p l e R s m args below meth c cells slots Q D A ly ids ad nL μ tgt lv st) (kf : ¬ (a = 0) → V p l e R s m args below meth c cells slots Q D A ly ids ad nL μ (pc + 3) lv st) : V p l e R s m args below meth c cells slots Q D A ly ids ad nL μ pc lv (nu a :: st) := by
  intro ho hg H locs hP hD hS ls hl
  exact lv_if_eq C.1 C.2.1 hd ht (fun h => kt ((zI_eq ha z0_in).mp h) ho hg H locs hP hD hS ls hl) (fun h => kf (fun q => h ((zI_eq ha z0_in).mpr q)) ho hg H locs hP hD hS ls hl)
theorem r_icmp_ne (C : Cx p s m args meth c D tys A nL cc own ret) {a b : Int} {off : Int} (tgt : Nat) (ha : inR a) (hb : inR b) (ht : (pc : Int) + off = (tgt : Int)) (hd : decode cc pc = .ok (.if_icmp .ne off, 3)) (kt : ¬ a = b → V p l e R s m args below meth c cells slots Q D A ly ids ad nL μ tgt lv st) (kf : a = b → V p l e R s m args below meth c cells slots Q D A ly ids ad nL μ (pc + 3) lv st) : V p l e R s m args below meth c cells slots Q D A ly ids ad nL μ pc lv (nu b :: nu a :: st) := by
  intro ho hg H locs hP hD hS ls hl
  exact lv_icmp_ne C.1 C.2.1 hd ht (fun h => kt (fun q => h ((zI_eq ha hb).mpr q)) ho hg H locs hP hD hS ls hl) (fun h => kf ((zI_eq ha hb).mp h) ho hg H locs hP hD hS ls hl)
theorem r_if_ne (C : Cx p s m args meth c D tys A nL cc own ret) {a : Int} {off : Int} (tgt : Nat) (ha : inR a) (ht : (pc : Int) + off = (tgt : Int)) (hd : decode cc pc = .ok (.ifCond .ne off, 3)) (kt : ¬ a = 0 → V p l e R s m args below meth c cells slots Q D A ly ids ad nL μ tgt lv st) (kf : a = 0 → V p l e R s m args below meth c cells slots Q D A ly ids ad nL μ (pc + 3) lv st) : V p l e R s m args below meth c cells slots Q D A ly ids ad nL μ pc lv (nu a :: st) := by
  intro ho hg H locs hP hD hS ls hl
  exact lv_if_ne C.1 C.2.1 hd ht (fun h => kt (fun q => h ((zI_eq ha z0_in).mpr q)) ho hg H locs hP hD hS ls hl) (fun h => kf ((zI_eq ha z0_in).mp h) ho hg H locs hP hD hS ls hl)
theorem r_icmp_lt (C : Cx p s m args meth c D tys A nL cc own ret) {a b : Int} {off : Int} (tgt : Nat) (ha : inR a) (hb : inR b) (ht : (pc : Int) + off = (tgt : Int)) (hd : decode cc pc = .ok (.if_icmp .lt off, 3)) (kt : a < b → V p l e R s m args below meth c cells slots Q D A ly ids ad nL μ tgt lv st) (kf : ¬ (a < b) → V p l e R s m args below meth c cells slots Q D A ly ids ad nL μ (pc + 3) lv st) : V p l e R s m args below meth c cells slots Q D A ly ids ad nL μ pc lv (nu b :: nu a :: st) := by
  intro ho hg H locs hP hD hS ls hl
  exact lv_icmp_lt C.1 C.2.1 hd ht (fun h => kt ((zI_lt ha hb).mp h) ho hg H locs hP hD hS ls hl) (fun h => kf (fun q => h ((zI_lt ha hb).mpr q)) ho hg H locs hP hD hS ls hl)
theorem r_if_lt (C : Cx p s m args meth c D tys A nL cc own ret) {a : Int} {off : Int} (tgt : Nat) (ha : inR a) (ht : (pc : Int) + off = (tgt : Int)) (hd : decode cc pc = .ok (.ifCond .lt off, 3)) (kt : a < 0 → V p l e R s m args below meth c cells slots Q D A ly ids ad nL μ tgt lv st) (kf : ¬ (a < 0) → V p l e R s m args below meth c cells slots Q D A ly ids ad nL μ (pc + 3) lv st) : V p l e R s m args below meth c cells slots Q D A ly ids ad nL μ pc lv (nu a :: st) := by
  intro ho hg H locs hP hD hS ls hl
  exact lv_if_lt C.1 C.2.1 hd ht (fun h => kt ((zI_lt ha z0_in).mp h) ho hg H locs hP hD hS ls hl) (fun h => kf (fun q => h ((zI_lt ha z0_in).mpr q)) ho hg H locs hP hD hS ls hl)
theorem r_icmp_ge (C : Cx p s m args meth c D tys A nL cc own ret) {a b : Int} {off : Int} (tgt : Nat) (ha : inR a) (hb : inR b) (ht : (pc : Int) + off = (tgt : Int)) (hd : decode cc pc = .ok (.if_icmp .ge off, 3)) (kt : b ≤ a → V p l e R s m args below meth c cells slots Q D A ly ids ad nL μ tgt lv st) (kf : ¬ (b ≤ a) → V p l e R s m args below meth c cells slots Q D A ly ids ad nL μ (pc + 3) lv st) : V p l e R s m args below meth c cells slots Q D A ly ids ad nL μ pc lv (nu b :: nu a :: st) := by
  intro ho hg H locs hP hD hS ls hl
  exact lv_icmp_ge C.1 C.2.1 hd ht (fun h => kt ((zI_le hb ha).mp h) ho hg H locs hP hD hS ls hl) (fun h => kf (fun q => h ((zI_le hb ha).mpr q)) ho hg H locs hP hD hS ls hl)
theorem r_if_ge (C : Cx p s m args meth c D tys A nL cc own ret) {a : Int} {off : Int} (tgt : Nat) (ha : inR a) (ht : (pc : Int) + off = (tgt : Int)) (hd : decode cc pc = .ok (.ifCond .ge off, 3)) (kt : 0 ≤ a → V p l e R s m args below meth c cells slots Q D A ly ids ad nL μ tgt lv st) (kf : ¬ (0 ≤ a) → V p l e R s m args below meth c cells slots Q D A ly ids ad nL μ (pc + 3) lv st) : V p l e R s m args below meth c cells slots Q D A ly ids ad nL μ pc lv (nu a :: st) := by
  intro ho hg H locs hP hD hS ls hl
  exact lv_if_ge C.1 C.2.1 hd ht (fun h => kt ((zI_le z0_in ha).mp h) ho hg H locs hP hD hS ls hl) (fun h => kf (fun q => h ((zI_le z0_in ha).mpr q)) ho hg H locs hP hD hS ls hl)
theorem r_icmp_gt (C : Cx p s m args meth c D tys A nL cc own ret) {a b : Int} {off : Int} (tgt : Nat) (ha : inR a) (hb : inR b) (ht : (pc : Int) + off = (tgt : Int)) (hd : decode cc pc = .ok (.if_icmp .gt off, 3)) (kt : b < a → V p l e R s m args below meth c cells slots Q D A ly ids ad nL μ tgt lv st) (kf : ¬ (b < a) → V p l e R s m args below meth c cells slots Q D A ly ids ad nL μ (pc + 3) lv st) : V p l e R s m args below meth c cells slots Q D A ly ids ad nL μ pc lv (nu b :: nu a :: st) := by
  intro ho hg H locs hP hD hS ls hl
  exact lv_icmp_gt C.1 C.2.1 hd ht (fun h => kt ((zI_lt hb ha).mp h) ho hg H locs hP hD hS ls hl) (fun h => kf (fun q => h ((zI_lt hb ha).mpr q)) ho hg H locs hP hD hS ls hl)
theorem r_if_gt (C : Cx p s m args meth c D tys A nL cc own ret) {a : Int} {off : Int} (tgt : Nat) (ha : inR a) (ht : (pc : Int) + off = (tgt : Int)) (hd : decode cc pc = .ok (.ifCond .gt off, 3)) (kt : 0 < a → V p l e R s m args below meth c cells slots Q D A ly ids ad nL μ tgt lv st) (kf : ¬ (0 < a) → V p l e R s m args below meth c cells slots Q D A ly ids ad nL μ (pc + 3) lv st) : V p l e R s m args below meth c cells slots Q D A ly ids ad nL μ pc lv (nu a :: st) := by
  intro ho hg H locs hP hD hS ls hl
  exact lv_if_gt C.1 C.2.1 hd ht (fun h => kt ((zI_lt z0_in ha).mp h) ho hg H locs hP hD hS ls hl) (fun h => kf (fun q => h ((zI_lt z0_in ha).mpr q)) ho hg H locs hP hD hS ls hl)
theorem r_icmp_le (C : Cx p s m args meth c D tys A nL cc own ret) {a b : Int} {off : Int} (tgt : Nat) (ha : inR a) (hb : inR b) (ht : (pc : Int) + off = (tgt : Int)) (hd : decode cc pc = .ok (.if_icmp .le off, 3)) (kt : a ≤ b → V p l e R s m args below meth c cells slots Q D A ly ids ad nL μ tgt lv st) (kf : ¬ (a ≤ b) → V p l e R s m args below meth c cells slots Q D A ly ids ad nL μ (pc + 3) lv st) : V p l e R s m args below meth c cells slots Q D A ly ids ad nL μ pc lv (nu b :: nu a :: st) := by
  intro ho hg H locs hP hD hS ls hl
  exact lv_icmp_le C.1 C.2.1 hd ht (fun h => kt ((zI_le ha hb).mp h) ho hg H locs hP hD hS ls hl) (fun h => kf (fun q => h ((zI_le ha hb).mpr q)) ho hg H locs hP hD hS ls hl)
theorem r_if_le (C : Cx p s m args meth c D tys A nL cc own ret) {a : Int} {off : Int} (tgt : Nat) (ha : inR a) (ht : (pc : Int) + off = (tgt : Int)) (hd : decode cc pc = .ok (.ifCond .le off, 3)) (kt : a ≤ 0 → V p l e R s m args below meth c cells slots Q D A ly ids ad nL μ tgt lv st) (kf : ¬ (a ≤ 0) → V p l e R s m args below meth c cells slots Q D A ly ids ad nL μ (pc + 3) lv st) : V p l e R s m args below meth c cells slots Q D A ly ids ad nL μ pc lv (nu a :: st) := by
  intro ho hg H locs hP hD hS ls hl
  exact lv_if_le C.1 C.2.1 hd ht (fun h => kt ((zI_le ha z0_in).mp h) ho hg H locs hP hD hS ls hl) (fun h => kf (fun q => h ((zI_le ha z0_in).mpr q)) ho hg H locs hP hD hS ls hl)
theorem r_ifnull (C : Cx p s m args meth c D tys A nL cc own ret) {x off : Int} (tgt : Nat) (ht : (pc : Int) + off = (tgt : Int)) (hd : decode cc pc = .ok (.ifnull off, 3)) (kt : x < 0 → V p l e R s m args below meth c cells slots Q D A ly ids ad nL μ tgt lv st) (kf : ¬ x < 0 → V p l e R s m args below meth c cells slots Q D A ly ids ad nL μ (pc + 3) lv st) : V p l e R s m args below meth c cells slots Q D A ly ids ad nL μ pc lv (rf x :: st) := by
  intro ho hg H locs hP hD hS ls hl
  rw [List.map_cons, vv_rf]
  by_cases hx : x < 0
  · rw [rv_null hx]
    exact lv_ifnullN C.1 C.2.1 hd ht (kt hx ho hg H locs hP hD hS ls hl)
  · rw [rv_at (by omega)]
    exact lv_ifnull C.1 C.2.1 hd (kf hx ho hg H locs hP hD hS ls hl)
theorem r_ifnonnull (C : Cx p s m args meth c D tys A nL cc own ret) {x off : Int} (tgt : Nat) (ht : (pc : Int) + off = (tgt : Int)) (hd : decode cc pc = .ok (.ifnonnull off, 3)) (kt : ¬ x < 0 → V p l e R s m args below meth c cells slots Q D A ly ids ad nL μ tgt lv st) (kf : x < 0 → V p l e R s m args below meth c cells slots Q D A ly ids ad nL μ (pc + 3) lv st) : V p l e R s m args below meth c cells slots Q D A ly ids ad nL μ pc lv (rf x :: st) := by
  intro ho hg H locs hP hD hS ls hl
  rw [List.map_cons, vv_rf]
  by_cases hx : x < 0
  · rw [rv_null hx]
    exact lv_ifnonnullN C.1 C.2.1 hd (kf hx ho hg H locs hP hD hS ls hl)
  · rw [rv_at (by omega)]
    exact lv_ifnonnull C.1 C.2.1 hd ht (kt hx ho hg H locs hP hD hS ls hl)
theorem r_swOut (C : Cx p s m args meth c D tys A nL cc own ret) {a dflt lo hi : Int} {offs : Array Int} {len : Nat} (tgt : Nat) (ha : inR a) (h : a < lo ∨ hi < a) (ht : (pc : Int) + dflt = (tgt : Int)) (hd : decode cc pc = .ok (.tableswitch dflt lo hi offs, len)) (k : V p l e R s m args below meth c cells slots Q D A ly ids ad nL μ tgt lv st) : V p l e R s m args below meth c cells slots Q D A ly ids ad nL μ pc lv (nu a :: st) := by
  intro ho hg H locs hP hD hS ls hl
  exact lv_tableOut C.1 C.2.1 hd (by rw [zI_toInt ha]; exact h) ht (k ho hg H locs hP hD hS ls hl)
theorem r_swIn (C : Cx p s m args meth c D tys A nL cc own ret) {a dflt lo hi off : Int} {offs : Array Int} {len : Nat} (tgt : Nat) (v : Int) (hv : a = v) (ha : inR v) (h1 : lo ≤ v) (h2 : v ≤ hi) (ho : offs[(v - lo).toNat]? = some off) (ht : (pc : Int) + off = (tgt : Int)) (hd : decode cc pc = .ok (.tableswitch dflt lo hi offs, len)) (k : V p l e R s m args below meth c cells slots Q D A ly ids ad nL μ tgt lv st) : V p l e R s m args below meth c cells slots Q D A ly ids ad nL μ pc lv (nu a :: st) := by
  subst hv
  intro ho' hg H locs hP hD hS ls hl
  exact lv_tableIn C.1 C.2.1 hd (by rw [zI_toInt ha]; omega) (by rw [zI_toInt ha]; omega) (by rw [zI_toInt ha]; exact ho) ht (k ho' hg H locs hP hD hS ls hl)
/-- what the memory's ranges and ids are may be used from here on -/
theorem V_in (h : ok μ → gho ids μ → V p l e R s m args below meth c cells slots Q D A ly ids ad nL μ pc lv st) : V p l e R s m args below meth c cells slots Q D A ly ids ad nL μ pc lv st := fun ho hg => h ho hg ho hg
/-- fewer locals known -/
def leL : LV → LV → Prop
  | [], _ => True
  | none :: a, _ :: b => leL a b
  | some x :: a, some y :: b => x = y ∧ leL a b
  | _, _ => False
theorem leL_get : ∀ (lw lv : LV), leL lw lv → ∀ (i : Nat) (v : AV), lw[i]? = some (some v) → lv[i]? = some (some v)
  | [], _, _, i, v, h => by simp at h
  | none :: a, [], hle, i, v, h => absurd hle (by simp [leL])
  | none :: a, y :: b, hle, i, v, h => by
    cases i with
    | zero => simp at h
    | succ i => simpa using leL_get a b hle i v (by simpa using h)
  | some x :: a, [], hle, i, v, h => absurd hle (by simp [leL])
  | some x :: a, none :: b, hle, i, v, h => absurd hle (by simp [leL])
  | some x :: a, some y :: b, hle, i, v, h => by
    obtain ⟨h1, h2⟩ := hle
    cases i with
    | zero =>
      simp only [List.getElem?_cons_zero, Option.some.injEq] at h ⊢
      rw [← h, h1]
    | succ i => simpa using leL_get a b h2 i v (by simpa using h)
theorem V_lv {lw : LV} (hle : leL lw lv) (k : V p l e R s m args below meth c cells slots Q D A ly ids ad nL μ pc lw st) : V p l e R s m args below meth c cells slots Q D A ly ids ad nL μ pc lv st := by
  intro ho hg H locs hP hD hS ls hl
  exact k ho hg H locs hP hD hS ls (lvh_sub hl (leL_get lw lv hle))
end VB
/-- programs as functions: a test, a new memory, a call -/
def lm {α : Type} (m : Mem) (k : Mem → α) : α := k m
def bd (x : Option (Int × Mem)) (k : Int → Mem → Option (Int × Mem)) : Option (Int × Mem) := match x with
  | none => none
  | some q => k q.1 q.2
theorem of_g {c : Prop} [Decidable c] {x : Option (Int × Mem)} {y : Int × Mem} (h : (if c then x else none) = some y) : c ∧ x = some y := by
  by_cases hc : c
  · rw [if_pos hc] at h
    exact ⟨hc, h⟩
  · rw [if_neg hc] at h
    cases h
theorem of_lm {m : Mem} {k : Mem → Option (Int × Mem)} {y : Int × Mem} (h : lm m k = some y) {μ1 : Mem} (e : μ1 = m) : k μ1 = some y := by
  rw [e]
  exact h
theorem of_bd {x : Option (Int × Mem)} {k : Int → Mem → Option (Int × Mem)} {y : Int × Mem} (h : bd x k = some y) : ∃ r m, x = some (r, m) ∧ k r m = some y := by
  cases x with
  | none => cases h
  | some q => exact ⟨q.1, q.2, rfl, h⟩
theorem of_ret {r r' : Int} {m m' : Mem} (h : some (r, m) = some (r', m')) : r = r' ∧ m = m' := by
  cases h
  exact ⟨rfl, rfl⟩
theorem if_t {c : Prop} [Decidable c] {x y z : Option (Int × Mem)} (h : (if c then x else y) = z) (hc : c) : x = z := by rwa [if_pos hc] at h
theorem if_f {c : Prop} [Decidable c] {x y z : Option (Int × Mem)} (h : (if c then x else y) = z) (hc : ¬ c) : y = z := by rwa [if_neg hc] at h
