/-! HEAP: fields, arrays, calls, returns -/
def ptr (ad : Nat → Nat) (x : Int) : Option Nat := if x < 0 then none else some (ad x.toNat)
theorem ptr_rv (ad : Nat → Nat) (x : Int) : va_rf (ptr ad x) = rv ad x := by
  unfold ptr rv
  split <;> rfl
/-- an object's cell, an array of numbers, an array of references -/
abbrev ceO (ad : Nat → Nat) (ci : Nat) (cs : List AV) : va_E := .inr (ci, cs.map (vv ad))
abbrev ceN (cA : ClassId) (n : Nat) (f : Nat → Int) : va_E := .inl (cA, n, .inl (fun i => zI (f i)))
abbrev ceR (ad : Nat → Nat) (cA : ClassId) (n : Nat) (f : Nat → Int) : va_E := .inl (cA, n, .inr (.inr (.inr (.inr (fun i => ptr ad (f i))))))
theorem ceN_up (cA : ClassId) (n : Nat) (f : Nat → Int) (k : Nat) (v : Int) : (Sum.inl (cA, n, Sum.inl (upd (fun i => zI (f i)) k (zI v))) : va_E) = ceN cA n (upf f k v) := by
  have : upd (fun i => zI (f i)) k (zI v) = fun i => zI (upf f k v i) := by
    funext i
    unfold upd upf
    split <;> rfl
  rw [this]
theorem ceR_up (ad : Nat → Nat) (cA : ClassId) (n : Nat) (f : Nat → Int) (k : Nat) (v : Int) : (Sum.inl (cA, n, Sum.inr (Sum.inr (Sum.inr (Sum.inr (va_up (fun i => ptr ad (f i)) k (ptr ad v)))))) : va_E) = ceR ad cA n (upf f k v) := by
  have : va_up (fun i => ptr ad (f i)) k (ptr ad v) = fun i => ptr ad (upf f k v i) := by
    funext i
    unfold va_up upf
    split <;> rfl
  rw [this]
section VH
variable {p : Program} {l : Launch} {e : Env} {R : Room} {s : State} {m : MethodId} {args : Array Value} {below : List Frame} {meth : Method} {c : Code} {cells slots : Nat} {Q : State → Prop} {D : va_G} {tys : List (ClassId × FieldType)} {A : Nat → Prop} {ly : Lay} {ids : List Nat} {ad : Nat → Nat} {nL : Nat} {cc : ByteArray} {own : String} {ret : Option FieldType} {μ : Mem} {pc : Nat} {lv : LV} {st : List AV}
theorem r_getf (C : Cx p s m args meth c D tys A nL cc own ret) {x : Int} (o : Nat) (h0 : 0 ≤ x) (hxo : x.toNat = o) (hm : gho ids μ → o ∈ ids) {ci : Nat} {cs : List AV} (hly : ly ad o (μ o) = ceO ad ci cs) {Cn : String} {T : u_T} {N : Nat} (hc : vwCl[ci]? = some (Cn, T, N)) (hin : ∀ w ∈ u_ws Cn T N, w ∈ WS) (k : Nat) (hk : k < N) {index : Nat} (hw : Cond.fieldLink own index (T k).1 (T k).2.1 (T k).2.2.1 ∈ WS) {v : AV} (hv : cs[k]? = some v) (hd : decode cc pc = .ok (.getfield index, 3)) (kk : V p l e R s m args below meth c cells slots Q D A ly ids ad nL μ (pc + 3) lv (v :: st)) : V p l e R s m args below meth c cells slots Q D A ly ids ad nL μ pc lv (rf x :: st) := by
  subst hxo
  intro ho hg H locs hP hD hS ls hl
  obtain ⟨q0, hq, -⟩ := wld_get (ly := ly) (ad := ad) (μ := μ) (hm hg)
  rw [hly] at hq
  rw [List.map_cons, vv_rf, rv_at h0]
  exact va_get (D := D) (ci := ci) (v := vv ad v) C.1 C.2.1 C.2.2.2.2.1 hin C.2.2.2.1 C.2.2.2.2.2.1 hP q0 hq hc k hk (C.2.2.2.2.1 _ hw) (fun _ h => h) (by rw [List.getElem?_map, hv]; rfl) hd (kk ho hg H locs hP hD hS ls hl)
theorem r_getfN (C : Cx p s m args meth c D tys A nL cc own ret) {x : Int} (o : Nat) (h0 : 0 ≤ x) (hxo : x.toNat = o) (hm : gho ids μ → o ∈ ids) {ci : Nat} {cs : List AV} (hly : ly ad o (μ o) = ceO ad ci cs) {Cn : String} {T : u_T} {N : Nat} (hc : vwCl[ci]? = some (Cn, T, N)) (hin : ∀ w ∈ u_ws Cn T N, w ∈ WS) (k : Nat) (hk : k < N) {index : Nat} {host : String} (hw : Cond.fieldLinkNest own index (T k).1 (T k).2.1 (T k).2.2.1 host ∈ lw_tbl) {v : AV} (hv : cs[k]? = some v) (hd : decode cc pc = .ok (.getfield index, 3)) (kk : V p l e R s m args below meth c cells slots Q D A ly ids ad nL μ (pc + 3) lv (v :: st)) : V p l e R s m args below meth c cells slots Q D A ly ids ad nL μ pc lv (rf x :: st) := by
  subst hxo
  intro ho hg H locs hP hD hS ls hl
  obtain ⟨q0, hq, -⟩ := wld_get (ly := ly) (ad := ad) (μ := μ) (hm hg)
  rw [hly] at hq
  rw [List.map_cons, vv_rf, rv_at h0]
  exact va_getN (D := D) (ci := ci) (v := vv ad v) C.1 C.2.1 C.2.2.2.2.1 hin C.2.2.2.1 C.2.2.2.2.2.1 hP q0 hq hc k hk (va_Nw.use rfl (C.2.2.2.2.2.2.2.2.2 _ hw rfl)) (fun _ h => h) (by rw [List.getElem?_map, hv]; rfl) hd (kk ho hg H locs hP hD hS ls hl)
theorem r_putf (C : Cx p s m args meth c D tys A nL cc own ret) {x z : Int} (o : Nat) (h0 : 0 ≤ x) (hxo : x.toNat = o) (hm : gho ids μ → o ∈ ids) (h90 : o ≠ 90) {ci : Nat} {cs cs' : List AV} (hly : ly ad o (μ o) = ceO ad ci cs) (k : Nat) (hly' : ly ad o (upf (μ o) k z) = ceO ad ci cs') (hcs : cs.set k (nu z) = cs') (hkl : k < cs.length) (hz : inR z) {Cn : String} {T : u_T} {N : Nat} (hc : vwCl[ci]? = some (Cn, T, N)) (hin : ∀ w ∈ u_ws Cn T N, w ∈ WS) (ty0 : Nat → FieldType) (hty : ∀ k, k < N → parseFieldDescriptor (T k).2.2.1 = some (ty0 k)) (hnm : ∀ a, a < N → ∀ b, b < N → a ≠ b → (T a).2.1 ≠ (T b).2.1) (hk : k < N) {index : Nat} (hw : Cond.fieldLink own index (T k).1 (T k).2.1 (T k).2.2.1 ∈ WS) (hfin : (T k).2.2.2 = false) (hd2 : parseFieldDescriptor (T k).2.2.1 = some .int) (hd : decode cc pc = .ok (.putfield index, 3)) (kk : ∀ μ1 : Mem, μ1 = up μ o k z → V p l e R s m args below meth c cells slots Q D A ly ids ad nL μ1 (pc + 3) lv st) : V p l e R s m args below meth c cells slots Q D A ly ids ad nL μ pc lv (nu z :: rf x :: st) := by
  subst hxo
  subst hcs
  intro ho hg H locs hP hD hS ls hl
  obtain ⟨q0, hq, hi⟩ := wld_get (ly := ly) (ad := ad) (μ := μ) (hm hg)
  rw [hly] at hq
  rw [List.map_cons, List.map_cons, vv_rf, rv_at h0, vv_nu]
  refine va_put (D := D) (ci := ci) (v := iv z) (ty := .int) C.1 C.2.1 C.2.2.2.2.1 hin ty0 hty hnm C.2.2.2.1 C.2.2.2.2.2.1 hP hD hS q0 hq hc k hk (C.2.2.2.2.1 _ hw) (fun _ h => h) hfin hd2 rfl rfl (by rw [List.length_map]; exact hkl) hd (fun H1 locs1 hP1 hD1 hS1 => ?_)
  have he : (Sum.inr (ci, (cs.map (vv ad)).set k (iv z)) : va_E) = ceO ad ci (cs.set k (nu z)) := by
    show (Sum.inr (ci, (cs.map (vv ad)).set k (iv z)) : va_E) = Sum.inr (ci, (cs.set k (nu z)).map (vv ad))
    rw [List.map_set]
    rfl
  rw [he, wld_set hD hi hly'] at hP1 hD1
  exact kk _ rfl (ok_up ho hz) (gho_up hg h90) H1 locs1 hP1 hD1 hS1 ls hl
theorem r_putfN (C : Cx p s m args meth c D tys A nL cc own ret) {x z : Int} (o : Nat) (h0 : 0 ≤ x) (hxo : x.toNat = o) (hm : gho ids μ → o ∈ ids) (h90 : o ≠ 90) {ci : Nat} {cs cs' : List AV} (hly : ly ad o (μ o) = ceO ad ci cs) (k : Nat) (hly' : ly ad o (upf (μ o) k z) = ceO ad ci cs') (hcs : cs.set k (nu z) = cs') (hkl : k < cs.length) (hz : inR z) {Cn : String} {T : u_T} {N : Nat} (hc : vwCl[ci]? = some (Cn, T, N)) (hin : ∀ w ∈ u_ws Cn T N, w ∈ WS) (ty0 : Nat → FieldType) (hty : ∀ k, k < N → parseFieldDescriptor (T k).2.2.1 = some (ty0 k)) (hnm : ∀ a, a < N → ∀ b, b < N → a ≠ b → (T a).2.1 ≠ (T b).2.1) (hk : k < N) {index : Nat} {host : String} (hw : Cond.fieldLinkNest own index (T k).1 (T k).2.1 (T k).2.2.1 host ∈ lw_tbl) (hfin : (T k).2.2.2 = false) (hd2 : parseFieldDescriptor (T k).2.2.1 = some .int) (hd : decode cc pc = .ok (.putfield index, 3)) (kk : ∀ μ1 : Mem, μ1 = up μ o k z → V p l e R s m args below meth c cells slots Q D A ly ids ad nL μ1 (pc + 3) lv st) : V p l e R s m args below meth c cells slots Q D A ly ids ad nL μ pc lv (nu z :: rf x :: st) := by
  subst hxo
  subst hcs
  intro ho hg H locs hP hD hS ls hl
  obtain ⟨q0, hq, hi⟩ := wld_get (ly := ly) (ad := ad) (μ := μ) (hm hg)
  rw [hly] at hq
  rw [List.map_cons, List.map_cons, vv_rf, rv_at h0, vv_nu]
  refine va_putN (D := D) (ci := ci) (v := iv z) (ty := .int) C.1 C.2.1 C.2.2.2.2.1 hin ty0 hty hnm C.2.2.2.1 C.2.2.2.2.2.1 hP hD hS q0 hq hc k hk (va_Nw.use rfl (C.2.2.2.2.2.2.2.2.2 _ hw rfl)) (fun _ h => h) hfin hd2 rfl rfl (by rw [List.length_map]; exact hkl) hd (fun H1 locs1 hP1 hD1 hS1 => ?_)
  have he : (Sum.inr (ci, (cs.map (vv ad)).set k (iv z)) : va_E) = ceO ad ci (cs.set k (nu z)) := by
    show (Sum.inr (ci, (cs.map (vv ad)).set k (iv z)) : va_E) = Sum.inr (ci, (cs.set k (nu z)).map (vv ad))
    rw [List.map_set]
    rfl
  rw [he, wld_set hD hi hly'] at hP1 hD1
  exact kk _ rfl (ok_up ho hz) (gho_up hg h90) H1 locs1 hP1 hD1 hS1 ls hl
theorem r_iald (C : Cx p s m args meth c D tys A nL cc own ret) {x z : Int} (o : Nat) (h0 : 0 ≤ x) (hxo : x.toNat = o) (hm : gho ids μ → o ∈ ids) (t0 : Nat) {cA : ClassId} {n : Nat} (hly : ly ad o (μ o) = ceN cA n (μ o)) (ht : tys[t0]? = some (cA, .int)) (hz : 0 ≤ z ∧ z < (n : Int)) (hn : n < 2147483648) (hd : decode cc pc = .ok (.iaload, 1)) (kk : V p l e R s m args below meth c cells slots Q D A ly ids ad nL μ (pc + 1) lv (nu (μ o z.toNat) :: st)) : V p l e R s m args below meth c cells slots Q D A ly ids ad nL μ pc lv (nu z :: rf x :: st) := by
  subst hxo
  intro ho hg H locs hP hD hS ls hl
  obtain ⟨q0, hq, -⟩ := wld_get (ly := ly) (ad := ad) (μ := μ) (hm hg)
  rw [hly] at hq
  rw [List.map_cons, List.map_cons, vv_rf, rv_at h0, vv_nu]
  have hzr : inR z := ⟨by omega, by omega⟩
  refine va_iald C.1 C.2.1 C.2.2.2.2.2.1 hP q0 t0 hq ht (zI_in hz.1 hz.2 hn) hd ?_
  rw [zI_clamp hzr]
  exact kk ho hg H locs hP hD hS ls hl
theorem r_bald (C : Cx p s m args meth c D tys A nL cc own ret) {x z : Int} (o : Nat) (h0 : 0 ≤ x) (hxo : x.toNat = o) (hm : gho ids μ → o ∈ ids) (t0 : Nat) {cA : ClassId} {n : Nat} (hly : ly ad o (μ o) = ceN cA n (μ o)) (ht : tys[t0]? = some (cA, .byte)) (hz : 0 ≤ z ∧ z < (n : Int)) (hn : n < 2147483648) (hd : decode cc pc = .ok (.baload, 1)) (kk : V p l e R s m args below meth c cells slots Q D A ly ids ad nL μ (pc + 1) lv (nu (μ o z.toNat) :: st)) : V p l e R s m args below meth c cells slots Q D A ly ids ad nL μ pc lv (nu z :: rf x :: st) := by
  subst hxo
  intro ho hg H locs hP hD hS ls hl
  obtain ⟨q0, hq, -⟩ := wld_get (ly := ly) (ad := ad) (μ := μ) (hm hg)
  rw [hly] at hq
  rw [List.map_cons, List.map_cons, vv_rf, rv_at h0, vv_nu]
  have hzr : inR z := ⟨by omega, by omega⟩
  refine va_bald C.1 C.2.1 C.2.2.2.2.2.1 hP q0 t0 hq ht (zI_in hz.1 hz.2 hn) hd ?_
  rw [zI_clamp hzr]
  exact kk ho hg H locs hP hD hS ls hl
theorem r_zald (C : Cx p s m args meth c D tys A nL cc own ret) {x z : Int} (o : Nat) (h0 : 0 ≤ x) (hxo : x.toNat = o) (hm : gho ids μ → o ∈ ids) (t0 : Nat) {cA : ClassId} {n : Nat} (hly : ly ad o (μ o) = ceN cA n (μ o)) (ht : tys[t0]? = some (cA, .boolean)) (hz : 0 ≤ z ∧ z < (n : Int)) (hn : n < 2147483648) (hd : decode cc pc = .ok (.baload, 1)) (kk : V p l e R s m args below meth c cells slots Q D A ly ids ad nL μ (pc + 1) lv (nu (μ o z.toNat) :: st)) : V p l e R s m args below meth c cells slots Q D A ly ids ad nL μ pc lv (nu z :: rf x :: st) := by
  subst hxo
  intro ho hg H locs hP hD hS ls hl
  obtain ⟨q0, hq, -⟩ := wld_get (ly := ly) (ad := ad) (μ := μ) (hm hg)
  rw [hly] at hq
  rw [List.map_cons, List.map_cons, vv_rf, rv_at h0, vv_nu]
  have hzr : inR z := ⟨by omega, by omega⟩
  refine va_zald C.1 C.2.1 C.2.2.2.2.2.1 hP q0 t0 hq ht (zI_in hz.1 hz.2 hn) hd ?_
  rw [zI_clamp hzr]
  exact kk ho hg H locs hP hD hS ls hl
theorem r_iast (C : Cx p s m args meth c D tys A nL cc own ret) {x z v : Int} (o : Nat) (h0 : 0 ≤ x) (hxo : x.toNat = o) (hm : gho ids μ → o ∈ ids) (h90 : o ≠ 90) (t0 : Nat) {cA : ClassId} {n : Nat} (hly : ∀ f, ly ad o f = ceN cA n f) (ht : tys[t0]? = some (cA, .int)) (hz : 0 ≤ z ∧ z < (n : Int)) (hn : n < 2147483648) (hv : inR (v)) (hd : decode cc pc = .ok (.iastore, 1)) (kk : ∀ μ1 : Mem, μ1 = up μ o z.toNat (v) → V p l e R s m args below meth c cells slots Q D A ly ids ad nL μ1 (pc + 1) lv st) : V p l e R s m args below meth c cells slots Q D A ly ids ad nL μ pc lv (nu v :: nu z :: rf x :: st) := by
  subst hxo
  intro ho hg H locs hP hD hS ls hl
  obtain ⟨q0, hq, hi⟩ := wld_get (ly := ly) (ad := ad) (μ := μ) (hm hg)
  rw [hly] at hq
  rw [List.map_cons, List.map_cons, List.map_cons, vv_rf, rv_at h0, vv_nu, vv_nu]
  have hzr : inR z := ⟨by omega, by omega⟩
  refine va_iast C.1 C.2.1 C.2.2.2.2.2.1 hP hD hS q0 t0 hq ht (zI_in hz.1 hz.2 hn) hd (fun H1 locs1 hP1 hD1 hS1 => ?_)
  rw [zI_clamp hzr, ceN_up, wld_set hD hi (hly _)] at hP1 hD1
  exact kk _ rfl (ok_up ho hv) (gho_up hg h90) H1 locs1 hP1 hD1 hS1 ls hl
theorem nar_b (v : Int) : vp_nar .byte (zI v) = zI (zi2b v) := by
  rw [vp_nar_byte, zi2b, zI_of]
theorem nar_z (v : Int) : vp_nar .boolean (zI v) = zI (zand v 1) := by
  rw [zand, zI_of]
  rfl
theorem r_bast (C : Cx p s m args meth c D tys A nL cc own ret) {x z v : Int} (o : Nat) (h0 : 0 ≤ x) (hxo : x.toNat = o) (hm : gho ids μ → o ∈ ids) (h90 : o ≠ 90) (t0 : Nat) {cA : ClassId} {n : Nat} (hly : ∀ f, ly ad o f = ceN cA n f) (ht : tys[t0]? = some (cA, .byte)) (hz : 0 ≤ z ∧ z < (n : Int)) (hn : n < 2147483648) (hv : inR (zi2b v)) (hd : decode cc pc = .ok (.bastore, 1)) (kk : ∀ μ1 : Mem, μ1 = up μ o z.toNat (zi2b v) → V p l e R s m args below meth c cells slots Q D A ly ids ad nL μ1 (pc + 1) lv st) : V p l e R s m args below meth c cells slots Q D A ly ids ad nL μ pc lv (nu v :: nu z :: rf x :: st) := by
  subst hxo
  intro ho hg H locs hP hD hS ls hl
  obtain ⟨q0, hq, hi⟩ := wld_get (ly := ly) (ad := ad) (μ := μ) (hm hg)
  rw [hly] at hq
  rw [List.map_cons, List.map_cons, List.map_cons, vv_rf, rv_at h0, vv_nu, vv_nu]
  have hzr : inR z := ⟨by omega, by omega⟩
  refine va_bast C.1 C.2.1 C.2.2.2.2.2.1 hP hD hS q0 t0 hq ht (zI_in hz.1 hz.2 hn) hd (fun H1 locs1 hP1 hD1 hS1 => ?_)
  rw [zI_clamp hzr, nar_b, ceN_up, wld_set hD hi (hly _)] at hP1 hD1
  exact kk _ rfl (ok_up ho hv) (gho_up hg h90) H1 locs1 hP1 hD1 hS1 ls hl
theorem r_zast (C : Cx p s m args meth c D tys A nL cc own ret) {x z v : Int} (o : Nat) (h0 : 0 ≤ x) (hxo : x.toNat = o) (hm : gho ids μ → o ∈ ids) (h90 : o ≠ 90) (t0 : Nat) {cA : ClassId} {n : Nat} (hly : ∀ f, ly ad o f = ceN cA n f) (ht : tys[t0]? = some (cA, .boolean)) (hz : 0 ≤ z ∧ z < (n : Int)) (hn : n < 2147483648) (hv : inR (zand v 1)) (hd : decode cc pc = .ok (.bastore, 1)) (kk : ∀ μ1 : Mem, μ1 = up μ o z.toNat (zand v 1) → V p l e R s m args below meth c cells slots Q D A ly ids ad nL μ1 (pc + 1) lv st) : V p l e R s m args below meth c cells slots Q D A ly ids ad nL μ pc lv (nu v :: nu z :: rf x :: st) := by
  subst hxo
  intro ho hg H locs hP hD hS ls hl
  obtain ⟨q0, hq, hi⟩ := wld_get (ly := ly) (ad := ad) (μ := μ) (hm hg)
  rw [hly] at hq
  rw [List.map_cons, List.map_cons, List.map_cons, vv_rf, rv_at h0, vv_nu, vv_nu]
  have hzr : inR z := ⟨by omega, by omega⟩
  refine va_zast C.1 C.2.1 C.2.2.2.2.2.1 hP hD hS q0 t0 hq ht (zI_in hz.1 hz.2 hn) hd (fun H1 locs1 hP1 hD1 hS1 => ?_)
  rw [zI_clamp hzr, nar_z, ceN_up, wld_set hD hi (hly _)] at hP1 hD1
  exact kk _ rfl (ok_up ho hv) (gho_up hg h90) H1 locs1 hP1 hD1 hS1 ls hl
theorem r_aald (C : Cx p s m args meth c D tys A nL cc own ret) {x z : Int} (o : Nat) (h0 : 0 ≤ x) (hxo : x.toNat = o) (hm : gho ids μ → o ∈ ids) (t0 : Nat) {cA : ClassId} {n : Nat} {ty : FieldType} {g : Nat → Int} (hly : ly ad o (μ o) = ceR ad cA n g) (ht : tys[t0]? = some (cA, ty)) (hr : ty.isReference = true) (hz : 0 ≤ z ∧ z < (n : Int)) (hn : n < 2147483648) (hd : decode cc pc = .ok (.aaload, 1)) (kk : V p l e R s m args below meth c cells slots Q D A ly ids ad nL μ (pc + 1) lv (rf (g z.toNat) :: st)) : V p l e R s m args below meth c cells slots Q D A ly ids ad nL μ pc lv (nu z :: rf x :: st) := by
  subst hxo
  intro ho hg H locs hP hD hS ls hl
  obtain ⟨q0, hq, -⟩ := wld_get (ly := ly) (ad := ad) (μ := μ) (hm hg)
  rw [hly] at hq
  rw [List.map_cons, List.map_cons, vv_rf, rv_at h0, vv_nu]
  have hzr : inR z := ⟨by omega, by omega⟩
  have hin : vp_in (zI z) n := zI_in hz.1 hz.2 hn
  have hlt : (zI z).toNatClampNeg < n := Nat.not_le.mp fun q => hin (Or.inr q)
  refine W.aald (v := va_rf (ptr ad (g (zI z).toNatClampNeg))) (ty := ty) C.1 C.2.1 (hP q0 _ hq) ((C.2.2.2.2.2.1.2 t0 _ ht).1 n (fun j => va_rf (ptr ad (g j)))) hr (fun q => by cases q) (by show ¬ (zI z < 0 ∨ (arrV _ _ _).slots.size ≤ _); rw [arrV_size]; exact hin) (by show (arrV _ _ _).slots[_]? = _; rw [arrV_read _ _ hlt]) rfl rfl hd ?_
  rw [ptr_rv, zI_clamp hzr]
  exact kk ho hg H locs hP hD hS ls hl
theorem r_alen (C : Cx p s m args meth c D tys A nL cc own ret) {x : Int} (o : Nat) (h0 : 0 ≤ x) (hxo : x.toNat = o) (hm : gho ids μ → o ∈ ids) (t0 : Nat) {cA : ClassId} {n : Nat} (hly : ly ad o (μ o) = ceN cA n (μ o)) {ty : FieldType} (ht : tys[t0]? = some (cA, ty)) (hd : decode cc pc = .ok (.arraylength, 1)) (kk : V p l e R s m args below meth c cells slots Q D A ly ids ad nL μ (pc + 1) lv (nu n :: st)) : V p l e R s m args below meth c cells slots Q D A ly ids ad nL μ pc lv (rf x :: st) := by
  subst hxo
  intro ho hg H locs hP hD hS ls hl
  obtain ⟨q0, hq, -⟩ := wld_get (ly := ly) (ad := ad) (μ := μ) (hm hg)
  rw [hly] at hq
  rw [List.map_cons, vv_rf, rv_at h0]
  exact va_alen (v := zI n) C.1 C.2.1 C.2.2.2.2.2.1 hP q0 t0 hq ht rfl hd (kk ho hg H locs hP hD hS ls hl)
end VH
