/-! THE MAKING OF ALL: V0 is V, but for which ids there are; references are read from the memory -/
def refpos (o k : Nat) : Bool :=
  o == 0 || (o == 1 && [0, 1, 2, 4, 5].contains k) || (o == 2 && [0, 1].contains k) || (o == 3 && [0].contains k) || o == 4 || (o == 5 && [0, 1].contains k) || (o == 6 && [0, 1, 2, 3, 4].contains k) || (o == 7 && [0, 1, 2, 3, 4, 6, 7, 8, 9, 10, 11, 12, 13, 16].contains k) || (o == 8 && [0, 1, 2, 3, 4, 8, 9, 11, 12].contains k) || (o == 300 && [5, 6, 7, 8, 9, 10, 11, 12, 13, 14, 18, 23, 24, 25, 27, 28, 29, 30, 31, 34, 35, 36, 37, 38, 39, 40, 41, 42, 43, 44, 46, 47, 48, 49, 50, 52, 53].contains k) || o == 19 || o == 20 || o == 21 || o == 23 || o == 31 || o == 337
/-- every reference that the memory holds is null or to an id that is there -/
def clo (ids : List Nat) (μ : Mem) : Prop := ∀ a ∈ ids, ∀ k, refpos a k = true → μ a k < 0 ∨ (μ a k).toNat ∈ ids
theorem clo_up {ids : List Nat} {μ : Mem} {o k : Nat} {v : Int} (h : clo ids μ) (hr : refpos o k = false) : clo ids (up μ o k v) := by
  intro a ha j hj
  unfold up
  split
  · rename_i e
    subst e
    unfold upf
    split
    · rename_i e2
      subst e2
      rw [hr] at hj
      cases hj
    · exact h a ha j hj
  · exact h a ha j hj
theorem clo_upR {ids : List Nat} {μ : Mem} {o k : Nat} {v : Int} (h : clo ids μ) (hv : v < 0 ∨ v.toNat ∈ ids) : clo ids (up μ o k v) := by
  intro a ha j hj
  unfold up
  split
  · rename_i e
    subst e
    unfold upf
    split
    · exact hv
    · exact h a ha j hj
  · exact h a ha j hj
section W0
variable {p : Program} {l : Launch} {e : Env} {R : Room} {s : State} {m : MethodId} {args : Array Value} {below : List Frame} {meth : Method} {c : Code} {cells slots : Nat} {Q : State → Prop} {D : va_G} {tys : List (ClassId × FieldType)} {A : Nat → Prop} {ly : Lay} {ids : List Nat} {ad : Nat → Nat} {nL : Nat} {cc : ByteArray} {own : String} {ret : Option FieldType} {μ : Mem} {pc : Nat} {lv : LV} {st : List AV} {aq : AQ} {r : Int} {μ' : Mem}
def V0 (p : Program) (l : Launch) (e : Env) (R : Room) (s : State) (m : MethodId) (args : Array Value) (below : List Frame) (meth : Method) (c : Code) (cells slots : Nat) (Q : State → Prop) (D : va_G) (A : Nat → Prop) (ly : Lay) (ids : List Nat) (ad : Nat → Nat) (nL : Nat) (μ : Mem) (pc : Nat) (lv : LV) (st : List AV) : Prop :=
  ok μ → clo ids μ → ∀ (H : Heap) (locs : List Loc), va_P D vwCl (wld ly ids ad μ) H → va_D A (wld ly ids ad μ) → va_S A s.heap H locs → ∀ ls : Array Slot, lv_has ls nL (lvp ad lv) → W p l e R s m args below meth c H locs cells slots Q (F0 m pc ls (st.map (vv ad)))
theorem V0_in (h : ok μ → clo ids μ → V0 p l e R s m args below meth c cells slots Q D A ly ids ad nL μ pc lv st) : V0 p l e R s m args below meth c cells slots Q D A ly ids ad nL μ pc lv st := fun ho hg => h ho hg ho hg
theorem V0_lv {lw : LV} (hle : leL lw lv) (k : V0 p l e R s m args below meth c cells slots Q D A ly ids ad nL μ pc lw st) : V0 p l e R s m args below meth c cells slots Q D A ly ids ad nL μ pc lv st := by
  intro ho hg H locs hP hD hS ls hl
  exact k ho hg H locs hP hD hS ls (lvh_sub hl (leL_get lw lv hle))
theorem V0_lw {lw : LV} (k : V0 p l e R s m args below meth c cells slots Q D A ly ids ad nL μ pc lw st) (hle : leL lw lv) : V0 p l e R s m args below meth c cells slots Q D A ly ids ad nL μ pc lv st := V0_lv hle k
theorem q_iconst (C : Cx p s m args meth c D tys A nL cc own ret) {n : Int} (hd : decode cc pc = .ok (.iconst n, 1)) (k : V0 p l e R s m args below meth c cells slots Q D A ly ids ad nL μ (pc + 1) lv (nu n :: st)) : V0 p l e R s m args below meth c cells slots Q D A ly ids ad nL μ pc lv st := by
  intro ho hg H locs hP hD hS ls hl
  exact lv_iconst (v := zI n) C.1 C.2.1 hd rfl (k ho hg H locs hP hD hS ls hl)
theorem q_bipush (C : Cx p s m args meth c D tys A nL cc own ret) {n : Int} (hd : decode cc pc = .ok (.bipush n, 2)) (hv : (Int8.ofInt n).toInt32 = zI n) (k : V0 p l e R s m args below meth c cells slots Q D A ly ids ad nL μ (pc + 2) lv (nu n :: st)) : V0 p l e R s m args below meth c cells slots Q D A ly ids ad nL μ pc lv st := by
  intro ho hg H locs hP hD hS ls hl
  exact lv_bipush (v := zI n) C.1 C.2.1 hd hv (k ho hg H locs hP hD hS ls hl)
theorem q_sipush (C : Cx p s m args meth c D tys A nL cc own ret) {n : Int} (hd : decode cc pc = .ok (.sipush n, 3)) (hv : (Int16.ofInt n).toInt32 = zI n) (k : V0 p l e R s m args below meth c cells slots Q D A ly ids ad nL μ (pc + 3) lv (nu n :: st)) : V0 p l e R s m args below meth c cells slots Q D A ly ids ad nL μ pc lv st := by
  intro ho hg H locs hP hD hS ls hl
  exact lv_sipush (v := zI n) C.1 C.2.1 hd hv (k ho hg H locs hP hD hS ls hl)
theorem q_ldc (C : Cx p s m args meth c D tys A nL cc own ret) {index : Nat} {v : Int32} {n : Int} (hw : Cond.constant own index v ∈ WS) (hv : v = zI n) (hd : decode cc pc = .ok (.ldc index, 2)) (k : V0 p l e R s m args below meth c cells slots Q D A ly ids ad nL μ (pc + 2) lv (nu n :: st)) : V0 p l e R s m args below meth c cells slots Q D A ly ids ad nL μ pc lv st := by
  subst hv
  intro ho hg H locs hP hD hS ls hl
  exact lv_ldc C.1 C.2.1 C.2.2.2.1 (C.2.2.2.2.1 _ hw) hd (k ho hg H locs hP hD hS ls hl)
theorem q_iload_n (C : Cx p s m args meth c D tys A nL cc own ret) {i : Fin 4} (j : Nat) {x : Int} (hk : lv[j]? = some (some (nu x))) (hj : (i : Nat) = j) (hd : decode cc pc = .ok (.iload_n i, 1)) (k : V0 p l e R s m args below meth c cells slots Q D A ly ids ad nL μ (pc + 1) lv (nu x :: st)) : V0 p l e R s m args below meth c cells slots Q D A ly ids ad nL μ pc lv st := by
  intro ho hg H locs hP hD hS ls hl
  exact lv_iload_n C.1 C.2.1 hd hj (lvh_at hl hk) (k ho hg H locs hP hD hS ls hl)
theorem q_iload (C : Cx p s m args meth c D tys A nL cc own ret) {j : Nat} {x : Int} (hk : lv[j]? = some (some (nu x))) (hd : decode cc pc = .ok (.iload j, 2)) (k : V0 p l e R s m args below meth c cells slots Q D A ly ids ad nL μ (pc + 2) lv (nu x :: st)) : V0 p l e R s m args below meth c cells slots Q D A ly ids ad nL μ pc lv st := by
  intro ho hg H locs hP hD hS ls hl
  exact lv_iload C.1 C.2.1 hd (lvh_at hl hk) (k ho hg H locs hP hD hS ls hl)
theorem q_aload_n (C : Cx p s m args meth c D tys A nL cc own ret) {i : Fin 4} (j : Nat) {x : Int} (hk : lv[j]? = some (some (rf x))) (hj : (i : Nat) = j) (hd : decode cc pc = .ok (.aload_n i, 1)) (k : V0 p l e R s m args below meth c cells slots Q D A ly ids ad nL μ (pc + 1) lv (rf x :: st)) : V0 p l e R s m args below meth c cells slots Q D A ly ids ad nL μ pc lv st := by
  intro ho hg H locs hP hD hS ls hl
  have h1 := lvh_at hl hk
  have h2 := k ho hg H locs hP hD hS ls hl
  rw [List.map_cons, vv_rf] at h2
  rw [vv_rf] at h1
  by_cases hx : x < 0
  · rw [rv_null hx] at h1 h2
    exact lv_aload_nN C.1 C.2.1 hd hj h1 h2
  · rw [rv_at (by omega)] at h1 h2
    exact lv_aload_n C.1 C.2.1 hd hj h1 h2
theorem q_aload (C : Cx p s m args meth c D tys A nL cc own ret) {j : Nat} {x : Int} (hk : lv[j]? = some (some (rf x))) (hd : decode cc pc = .ok (.aload j, 2)) (k : V0 p l e R s m args below meth c cells slots Q D A ly ids ad nL μ (pc + 2) lv (rf x :: st)) : V0 p l e R s m args below meth c cells slots Q D A ly ids ad nL μ pc lv st := by
  intro ho hg H locs hP hD hS ls hl
  have h1 := lvh_at hl hk
  have h2 := k ho hg H locs hP hD hS ls hl
  rw [List.map_cons, vv_rf] at h2
  rw [vv_rf] at h1
  by_cases hx : x < 0
  · rw [rv_null hx] at h1 h2
    exact lv_aloadN C.1 C.2.1 hd h1 h2
  · rw [rv_at (by omega)] at h1 h2
    exact lv_aload C.1 C.2.1 hd h1 h2
theorem q_istore_n (C : Cx p s m args meth c D tys A nL cc own ret) {i : Fin 4} (j : Nat) {x : Int} {lw : LV} (hl' : lv.set j (some (nu x)) = lw) (hj : (i : Nat) = j) (hn : j < nL) (hd : decode cc pc = .ok (.istore_n i, 1)) (k : V0 p l e R s m args below meth c cells slots Q D A ly ids ad nL μ (pc + 1) lw st) : V0 p l e R s m args below meth c cells slots Q D A ly ids ad nL μ pc lv (nu x :: st) := by
  subst hl'
  intro ho hg H locs hP hD hS ls hl
  exact lv_istore_n C.1 C.2.1 hd hj hl hn rfl (fun ls' h' => k ho hg H locs hP hD hS ls' (lvh_set (v := nu x) h'))
theorem q_istore (C : Cx p s m args meth c D tys A nL cc own ret) {j : Nat} {x : Int} {lw : LV} (hl' : lv.set j (some (nu x)) = lw) (hn : j < nL) (hd : decode cc pc = .ok (.istore j, 2)) (k : V0 p l e R s m args below meth c cells slots Q D A ly ids ad nL μ (pc + 2) lw st) : V0 p l e R s m args below meth c cells slots Q D A ly ids ad nL μ pc lv (nu x :: st) := by
  subst hl'
  intro ho hg H locs hP hD hS ls hl
  exact lv_istore C.1 C.2.1 hd hl hn rfl (fun ls' h' => k ho hg H locs hP hD hS ls' (lvh_set (v := nu x) h'))
theorem q_astore_n (C : Cx p s m args meth c D tys A nL cc own ret) {i : Fin 4} (j : Nat) {x : Int} {lw : LV} (hl' : lv.set j (some (rf x)) = lw) (hj : (i : Nat) = j) (hn : j < nL) (hd : decode cc pc = .ok (.astore_n i, 1)) (k : V0 p l e R s m args below meth c cells slots Q D A ly ids ad nL μ (pc + 1) lw st) : V0 p l e R s m args below meth c cells slots Q D A ly ids ad nL μ pc lv (rf x :: st) := by
  subst hl'
  intro ho hg H locs hP hD hS ls hl
  rw [List.map_cons, vv_rf]
  have h9 : ∀ ls' : Array Slot, lv_has ls' nL ((j, rv ad x) :: (lvp ad lv).filter (fun q => !(q.1 == j) && !(q.1 + 1 == j && q.2.category == 2))) → W p l e R s m args below meth c H locs cells slots Q (F0 m (pc + 1) ls' (st.map (vv ad))) := fun ls' h' => k ho hg H locs hP hD hS ls' (lvh_set (v := rf x) h')
  by_cases hx : x < 0
  · rw [rv_null hx] at h9 ⊢
    exact lv_astore_nN C.1 C.2.1 hd hj hl hn rfl h9
  · rw [rv_at (by omega)] at h9 ⊢
    exact lv_astore_n C.1 C.2.1 hd hj hl hn rfl h9
theorem q_astore (C : Cx p s m args meth c D tys A nL cc own ret) {j : Nat} {x : Int} {lw : LV} (hl' : lv.set j (some (rf x)) = lw) (hn : j < nL) (hd : decode cc pc = .ok (.astore j, 2)) (k : V0 p l e R s m args below meth c cells slots Q D A ly ids ad nL μ (pc + 2) lw st) : V0 p l e R s m args below meth c cells slots Q D A ly ids ad nL μ pc lv (rf x :: st) := by
  subst hl'
  intro ho hg H locs hP hD hS ls hl
  rw [List.map_cons, vv_rf]
  have h9 : ∀ ls' : Array Slot, lv_has ls' nL ((j, rv ad x) :: (lvp ad lv).filter (fun q => !(q.1 == j) && !(q.1 + 1 == j && q.2.category == 2))) → W p l e R s m args below meth c H locs cells slots Q (F0 m (pc + 2) ls' (st.map (vv ad))) := fun ls' h' => k ho hg H locs hP hD hS ls' (lvh_set (v := rf x) h')
  by_cases hx : x < 0
  · rw [rv_null hx] at h9 ⊢
    exact lv_astoreN C.1 C.2.1 hd hl hn rfl h9
  · rw [rv_at (by omega)] at h9 ⊢
    exact lv_astore C.1 C.2.1 hd hl hn rfl h9
theorem q_iinc (C : Cx p s m args meth c D tys A nL cc own ret) {j : Nat} {n x : Int} {lw : LV} (hk : lv[j]? = some (some (nu x))) (hl' : lv.set j (some (nu (x + n))) = lw) (hn : j < nL) (hd : decode cc pc = .ok (.iinc j n, 3)) (k : V0 p l e R s m args below meth c cells slots Q D A ly ids ad nL μ (pc + 3) lw st) : V0 p l e R s m args below meth c cells slots Q D A ly ids ad nL μ pc lv st := by
  subst hl'
  intro ho hg H locs hP hD hS ls hl
  obtain ⟨q, hq⟩ := List.getElem?_of_mem (lvp_mem (ad := ad) hk)
  exact lv_iinc (v := zI (x + n)) C.1 C.2.1 hd hl hq (zI_add x n) hn rfl (fun ls' h' => k ho hg H locs hP hD hS ls' (lvh_set (v := nu (x + n)) h'))
theorem q_iadd (C : Cx p s m args meth c D tys A nL cc own ret) {a b : Int} (hd : decode cc pc = .ok (.iadd, 1)) (k : V0 p l e R s m args below meth c cells slots Q D A ly ids ad nL μ (pc + 1) lv (nu (a + b) :: st)) : V0 p l e R s m args below meth c cells slots Q D A ly ids ad nL μ pc lv (nu b :: nu a :: st) := by
  intro ho hg H locs hP hD hS ls hl
  refine lv_iadd C.1 C.2.1 hd ?_
  rw [zI_add]
  exact k ho hg H locs hP hD hS ls hl
theorem q_isub (C : Cx p s m args meth c D tys A nL cc own ret) {a b : Int} (hd : decode cc pc = .ok (.isub, 1)) (k : V0 p l e R s m args below meth c cells slots Q D A ly ids ad nL μ (pc + 1) lv (nu (a - b) :: st)) : V0 p l e R s m args below meth c cells slots Q D A ly ids ad nL μ pc lv (nu b :: nu a :: st) := by
  intro ho hg H locs hP hD hS ls hl
  refine lv_isub C.1 C.2.1 hd ?_
  rw [zI_sub]
  exact k ho hg H locs hP hD hS ls hl
theorem q_dup (C : Cx p s m args meth c D tys A nL cc own ret) {v : AV} (hd : decode cc pc = .ok (.dup, 1)) (k : V0 p l e R s m args below meth c cells slots Q D A ly ids ad nL μ (pc + 1) lv (v :: v :: st)) : V0 p l e R s m args below meth c cells slots Q D A ly ids ad nL μ pc lv (v :: st) := by
  intro ho hg H locs hP hD hS ls hl
  exact lv_dup C.1 C.2.1 hd (vv_cat ad v) (k ho hg H locs hP hD hS ls hl)
theorem q_pop (C : Cx p s m args meth c D tys A nL cc own ret) {v : AV} (hd : decode cc pc = .ok (.pop, 1)) (k : V0 p l e R s m args below meth c cells slots Q D A ly ids ad nL μ (pc + 1) lv st) : V0 p l e R s m args below meth c cells slots Q D A ly ids ad nL μ pc lv (v :: st) := by
  intro ho hg H locs hP hD hS ls hl
  exact lv_pop C.1 C.2.1 hd (vv_cat ad v) (k ho hg H locs hP hD hS ls hl)
theorem q_goto (C : Cx p s m args meth c D tys A nL cc own ret) {off : Int} (tgt : Nat) (ht : (pc : Int) + off = (tgt : Int)) (hd : decode cc pc = .ok (.goto off, 3)) (k : V0 p l e R s m args below meth c cells slots Q D A ly ids ad nL μ tgt lv st) : V0 p l e R s m args below meth c cells slots Q D A ly ids ad nL μ pc lv st := by
  intro ho hg H locs hP hD hS ls hl
  exact lv_goto C.1 C.2.1 hd ht (k ho hg H locs hP hD hS ls hl)
theorem q_icmp_eq (C : Cx p s m args meth c D tys A nL cc own ret) {a b : Int} {off : Int} (tgt : Nat) (ha : inR a) (hb : inR b) (ht : (pc : Int) + off = (tgt : Int)) (hd : decode cc pc = .ok (.if_icmp .eq off, 3)) (kt : a = b → V0 p l e R s m args below meth c cells slots Q D A ly ids ad nL μ tgt lv st) (kf : ¬ (a = b) → V0 p l e R s m args below meth c cells slots Q D A ly ids ad nL μ (pc + 3) lv st) : V0 p l e R s m args below meth c cells slots Q D A ly ids ad nL μ pc lv (nu b :: nu a :: st) := by
  intro ho hg H locs hP hD hS ls hl
  exact lv_icmp_eq C.1 C.2.1 hd ht (fun h => kt ((zI_eq ha hb).mp h) ho hg H locs hP hD hS ls hl) (fun h => kf (fun q => h ((zI_eq ha hb).mpr q)) ho hg H locs hP hD hS ls hl)
theorem q_if_eq (C : Cx p s m args meth c D tys A nL cc own ret) {a : Int} {off : Int} (tgt : Nat) (ha : inR a) (ht : (pc : Int) + off = (tgt : Int)) (hd : decode cc pc = .ok (.ifCond .eq off, 3)) (kt : a = 0 → V0 p l e R s m args below meth c cells slots Q D A ly ids ad nL μ tgt lv st) (kf : ¬ (a = 0) → V0 p l e R s m args below meth c cells slots Q D A ly ids ad nL μ (pc + 3) lv st) : V0 p l e R s m args below meth c cells slots Q D A ly ids ad nL μ pc lv (nu a :: st) := by
  intro ho hg H locs hP hD hS ls hl
  exact lv_if_eq C.1 C.2.1 hd ht (fun h => kt ((zI_eq ha z0_in).mp h) ho hg H locs hP hD hS ls hl) (fun h => kf (fun q => h ((zI_eq ha z0_in).mpr q)) ho hg H locs hP hD hS ls hl)
theorem q_icmp_lt (C : Cx p s m args meth c D tys A nL cc own ret) {a b : Int} {off : Int} (tgt : Nat) (ha : inR a) (hb : inR b) (ht : (pc : Int) + off = (tgt : Int)) (hd : decode cc pc = .ok (.if_icmp .lt off, 3)) (kt : a < b → V0 p l e R s m args below meth c cells slots Q D A ly ids ad nL μ tgt lv st) (kf : ¬ (a < b) → V0 p l e R s m args below meth c cells slots Q D A ly ids ad nL μ (pc + 3) lv st) : V0 p l e R s m args below meth c cells slots Q D A ly ids ad nL μ pc lv (nu b :: nu a :: st) := by
  intro ho hg H locs hP hD hS ls hl
  exact lv_icmp_lt C.1 C.2.1 hd ht (fun h => kt ((zI_lt ha hb).mp h) ho hg H locs hP hD hS ls hl) (fun h => kf (fun q => h ((zI_lt ha hb).mpr q)) ho hg H locs hP hD hS ls hl)
theorem q_if_lt (C : Cx p s m args meth c D tys A nL cc own ret) {a : Int} {off : Int} (tgt : Nat) (ha : inR a) (ht : (pc : Int) + off = (tgt : Int)) (hd : decode cc pc = .ok (.ifCond .lt off, 3)) (kt : a < 0 → V0 p l e R s m args below meth c cells slots Q D A ly ids ad nL μ tgt lv st) (kf : ¬ (a < 0) → V0 p l e R s m args below meth c cells slots Q D A ly ids ad nL μ (pc + 3) lv st) : V0 p l e R s m args below meth c cells slots Q D A ly ids ad nL μ pc lv (nu a :: st) := by
  intro ho hg H locs hP hD hS ls hl
  exact lv_if_lt C.1 C.2.1 hd ht (fun h => kt ((zI_lt ha z0_in).mp h) ho hg H locs hP hD hS ls hl) (fun h => kf (fun q => h ((zI_lt ha z0_in).mpr q)) ho hg H locs hP hD hS ls hl)
theorem q_icmp_ge (C : Cx p s m args meth c D tys A nL cc own ret) {a b : Int} {off : Int} (tgt : Nat) (ha : inR a) (hb : inR b) (ht : (pc : Int) + off = (tgt : Int)) (hd : decode cc pc = .ok (.if_icmp .ge off, 3)) (kt : b ≤ a → V0 p l e R s m args below meth c cells slots Q D A ly ids ad nL μ tgt lv st) (kf : ¬ (b ≤ a) → V0 p l e R s m args below meth c cells slots Q D A ly ids ad nL μ (pc + 3) lv st) : V0 p l e R s m args below meth c cells slots Q D A ly ids ad nL μ pc lv (nu b :: nu a :: st) := by
  intro ho hg H locs hP hD hS ls hl
  exact lv_icmp_ge C.1 C.2.1 hd ht (fun h => kt ((zI_le hb ha).mp h) ho hg H locs hP hD hS ls hl) (fun h => kf (fun q => h ((zI_le hb ha).mpr q)) ho hg H locs hP hD hS ls hl)
theorem q_if_ge (C : Cx p s m args meth c D tys A nL cc own ret) {a : Int} {off : Int} (tgt : Nat) (ha : inR a) (ht : (pc : Int) + off = (tgt : Int)) (hd : decode cc pc = .ok (.ifCond .ge off, 3)) (kt : 0 ≤ a → V0 p l e R s m args below meth c cells slots Q D A ly ids ad nL μ tgt lv st) (kf : ¬ (0 ≤ a) → V0 p l e R s m args below meth c cells slots Q D A ly ids ad nL μ (pc + 3) lv st) : V0 p l e R s m args below meth c cells slots Q D A ly ids ad nL μ pc lv (nu a :: st) := by
  intro ho hg H locs hP hD hS ls hl
  exact lv_if_ge C.1 C.2.1 hd ht (fun h => kt ((zI_le z0_in ha).mp h) ho hg H locs hP hD hS ls hl) (fun h => kf (fun q => h ((zI_le z0_in ha).mpr q)) ho hg H locs hP hD hS ls hl)
theorem q_icmp_gt (C : Cx p s m args meth c D tys A nL cc own ret) {a b : Int} {off : Int} (tgt : Nat) (ha : inR a) (hb : inR b) (ht : (pc : Int) + off = (tgt : Int)) (hd : decode cc pc = .ok (.if_icmp .gt off, 3)) (kt : b < a → V0 p l e R s m args below meth c cells slots Q D A ly ids ad nL μ tgt lv st) (kf : ¬ (b < a) → V0 p l e R s m args below meth c cells slots Q D A ly ids ad nL μ (pc + 3) lv st) : V0 p l e R s m args below meth c cells slots Q D A ly ids ad nL μ pc lv (nu b :: nu a :: st) := by
  intro ho hg H locs hP hD hS ls hl
  exact lv_icmp_gt C.1 C.2.1 hd ht (fun h => kt ((zI_lt hb ha).mp h) ho hg H locs hP hD hS ls hl) (fun h => kf (fun q => h ((zI_lt hb ha).mpr q)) ho hg H locs hP hD hS ls hl)
theorem q_if_gt (C : Cx p s m args meth c D tys A nL cc own ret) {a : Int} {off : Int} (tgt : Nat) (ha : inR a) (ht : (pc : Int) + off = (tgt : Int)) (hd : decode cc pc = .ok (.ifCond .gt off, 3)) (kt : 0 < a → V0 p l e R s m args below meth c cells slots Q D A ly ids ad nL μ tgt lv st) (kf : ¬ (0 < a) → V0 p l e R s m args below meth c cells slots Q D A ly ids ad nL μ (pc + 3) lv st) : V0 p l e R s m args below meth c cells slots Q D A ly ids ad nL μ pc lv (nu a :: st) := by
  intro ho hg H locs hP hD hS ls hl
  exact lv_if_gt C.1 C.2.1 hd ht (fun h => kt ((zI_lt z0_in ha).mp h) ho hg H locs hP hD hS ls hl) (fun h => kf (fun q => h ((zI_lt z0_in ha).mpr q)) ho hg H locs hP hD hS ls hl)
theorem q_icmp_le (C : Cx p s m args meth c D tys A nL cc own ret) {a b : Int} {off : Int} (tgt : Nat) (ha : inR a) (hb : inR b) (ht : (pc : Int) + off = (tgt : Int)) (hd : decode cc pc = .ok (.if_icmp .le off, 3)) (kt : a ≤ b → V0 p l e R s m args below meth c cells slots Q D A ly ids ad nL μ tgt lv st) (kf : ¬ (a ≤ b) → V0 p l e R s m args below meth c cells slots Q D A ly ids ad nL μ (pc + 3) lv st) : V0 p l e R s m args below meth c cells slots Q D A ly ids ad nL μ pc lv (nu b :: nu a :: st) := by
  intro ho hg H locs hP hD hS ls hl
  exact lv_icmp_le C.1 C.2.1 hd ht (fun h => kt ((zI_le ha hb).mp h) ho hg H locs hP hD hS ls hl) (fun h => kf (fun q => h ((zI_le ha hb).mpr q)) ho hg H locs hP hD hS ls hl)
theorem q_if_le (C : Cx p s m args meth c D tys A nL cc own ret) {a : Int} {off : Int} (tgt : Nat) (ha : inR a) (ht : (pc : Int) + off = (tgt : Int)) (hd : decode cc pc = .ok (.ifCond .le off, 3)) (kt : a ≤ 0 → V0 p l e R s m args below meth c cells slots Q D A ly ids ad nL μ tgt lv st) (kf : ¬ (a ≤ 0) → V0 p l e R s m args below meth c cells slots Q D A ly ids ad nL μ (pc + 3) lv st) : V0 p l e R s m args below meth c cells slots Q D A ly ids ad nL μ pc lv (nu a :: st) := by
  intro ho hg H locs hP hD hS ls hl
  exact lv_if_le C.1 C.2.1 hd ht (fun h => kt ((zI_le ha z0_in).mp h) ho hg H locs hP hD hS ls hl) (fun h => kf (fun q => h ((zI_le ha z0_in).mpr q)) ho hg H locs hP hD hS ls hl)
theorem q_swOut (C : Cx p s m args meth c D tys A nL cc own ret) {a dflt lo hi : Int} {offs : Array Int} {len : Nat} (tgt : Nat) (ha : inR a) (h : a < lo ∨ hi < a) (ht : (pc : Int) + dflt = (tgt : Int)) (hd : decode cc pc = .ok (.tableswitch dflt lo hi offs, len)) (k : V0 p l e R s m args below meth c cells slots Q D A ly ids ad nL μ tgt lv st) : V0 p l e R s m args below meth c cells slots Q D A ly ids ad nL μ pc lv (nu a :: st) := by
  intro ho hg H locs hP hD hS ls hl
  exact lv_tableOut C.1 C.2.1 hd (by rw [zI_toInt ha]; exact h) ht (k ho hg H locs hP hD hS ls hl)
theorem q_swIn (C : Cx p s m args meth c D tys A nL cc own ret) {a dflt lo hi off : Int} {offs : Array Int} {len : Nat} (tgt : Nat) (v : Int) (hv : a = v) (ha : inR v) (h1 : lo ≤ v) (h2 : v ≤ hi) (ho : offs[(v - lo).toNat]? = some off) (ht : (pc : Int) + off = (tgt : Int)) (hd : decode cc pc = .ok (.tableswitch dflt lo hi offs, len)) (k : V0 p l e R s m args below meth c cells slots Q D A ly ids ad nL μ tgt lv st) : V0 p l e R s m args below meth c cells slots Q D A ly ids ad nL μ pc lv (nu a :: st) := by
  subst hv
  intro ho' hg H locs hP hD hS ls hl
  exact lv_tableIn C.1 C.2.1 hd (by rw [zI_toInt ha]; omega) (by rw [zI_toInt ha]; omega) (by rw [zI_toInt ha]; exact ho) ht (k ho' hg H locs hP hD hS ls hl)
theorem q_getf (C : Cx p s m args meth c D tys A nL cc own ret) {x : Int} (o : Nat) (h0 : 0 ≤ x) (hxo : x.toNat = o) (hm : clo ids μ → o ∈ ids) {ci : Nat} {cs : List AV} (hly : ly ad o (μ o) = ceO ad ci cs) {Cn : String} {T : u_T} {N : Nat} (hc : vwCl[ci]? = some (Cn, T, N)) (hin : ∀ w ∈ u_ws Cn T N, w ∈ WS) (k : Nat) (hk : k < N) {index : Nat} (hw : Cond.fieldLink own index (T k).1 (T k).2.1 (T k).2.2.1 ∈ WS) {v : AV} (hv : cs[k]? = some v) (hd : decode cc pc = .ok (.getfield index, 3)) (kk : V0 p l e R s m args below meth c cells slots Q D A ly ids ad nL μ (pc + 3) lv (v :: st)) : V0 p l e R s m args below meth c cells slots Q D A ly ids ad nL μ pc lv (rf x :: st) := by
  subst hxo
  intro ho hg H locs hP hD hS ls hl
  obtain ⟨q0, hq, -⟩ := wld_get (ly := ly) (ad := ad) (μ := μ) (hm hg)
  rw [hly] at hq
  rw [List.map_cons, vv_rf, rv_at h0]
  exact va_get (D := D) (ci := ci) (v := vv ad v) C.1 C.2.1 C.2.2.2.2.1 hin C.2.2.2.1 C.2.2.2.2.2.1 hP q0 hq hc k hk (C.2.2.2.2.1 _ hw) (fun _ h => h) (by rw [List.getElem?_map, hv]; rfl) hd (kk ho hg H locs hP hD hS ls hl)
theorem q_putf (C : Cx p s m args meth c D tys A nL cc own ret) {x z : Int} (o : Nat) (h0 : 0 ≤ x) (hxo : x.toNat = o) (hm : clo ids μ → o ∈ ids) {ci : Nat} {cs cs' : List AV} (hly : ly ad o (μ o) = ceO ad ci cs) (k : Nat) (h90 : refpos o k = false) (hly' : ly ad o (upf (μ o) k z) = ceO ad ci cs') (hcs : cs.set k (nu z) = cs') (hkl : k < cs.length) (hz : inR z) {Cn : String} {T : u_T} {N : Nat} (hc : vwCl[ci]? = some (Cn, T, N)) (hin : ∀ w ∈ u_ws Cn T N, w ∈ WS) (ty0 : Nat → FieldType) (hty : ∀ k, k < N → parseFieldDescriptor (T k).2.2.1 = some (ty0 k)) (hnm : ∀ a, a < N → ∀ b, b < N → a ≠ b → (T a).2.1 ≠ (T b).2.1) (hk : k < N) {index : Nat} (hw : Cond.fieldLink own index (T k).1 (T k).2.1 (T k).2.2.1 ∈ WS) (hfin : (T k).2.2.2 = false) (hd2 : parseFieldDescriptor (T k).2.2.1 = some .int) (hd : decode cc pc = .ok (.putfield index, 3)) (kk : ∀ μ1 : Mem, μ1 = up μ o k z → V0 p l e R s m args below meth c cells slots Q D A ly ids ad nL μ1 (pc + 3) lv st) : V0 p l e R s m args below meth c cells slots Q D A ly ids ad nL μ pc lv (nu z :: rf x :: st) := by
  subst hxo
  subst hcs
  intro ho hg H locs hP hD hS ls hl
  obtain ⟨q0, hq, hi⟩ := wld_get (ly := ly) (ad := ad) (μ := μ) (hm hg)
  rw [hly] at hq
  rw [List.map_cons, List.map_cons, vv_rf, rv_at h0, vv_nu]
  refine va_put (D := D) (ci := ci) (v := iv z) (ty := .int) C.1 C.2.1 C.2.2.2.2.1 hin ty0 hty hnm C.2.2.2.1 C.2.2.2.2.2.1 hP hD hS q0 hq hc k hk (C.2.2.2.2.1 _ hw) (fun _ h => h) hfin hd2 rfl rfl (by rw [List.length_map]; exact hkl) hd (fun H1 locs1 hP1 hD1 hS1 => ?_)
  have he : (Sum.inr (ci, (cs.map (vv ad)).set k (iv z)) : va_E) = ceO ad ci (cs.set k (nu z)) := by
    show (Sum.inr (ci, (cs.map (vv ad)).set k (iv z)) : va_E) = Sum.inr (ci, (cs.set k (nu z)).map (vv ad))
    rw [List.map_set]
    rfl
  rw [he, wld_set hD hi hly'] at hP1 hD1
  exact kk _ rfl (ok_up ho hz) (clo_up hg h90) H1 locs1 hP1 hD1 hS1 ls hl
theorem q_iald (C : Cx p s m args meth c D tys A nL cc own ret) {x z : Int} (o : Nat) (h0 : 0 ≤ x) (hxo : x.toNat = o) (hm : clo ids μ → o ∈ ids) (t0 : Nat) {cA : ClassId} {n : Nat} (hly : ly ad o (μ o) = ceN cA n (μ o)) (ht : tys[t0]? = some (cA, .int)) (hz : 0 ≤ z ∧ z < (n : Int)) (hn : n < 2147483648) (hd : decode cc pc = .ok (.iaload, 1)) (kk : V0 p l e R s m args below meth c cells slots Q D A ly ids ad nL μ (pc + 1) lv (nu (μ o z.toNat) :: st)) : V0 p l e R s m args below meth c cells slots Q D A ly ids ad nL μ pc lv (nu z :: rf x :: st) := by
  subst hxo
  intro ho hg H locs hP hD hS ls hl
  obtain ⟨q0, hq, -⟩ := wld_get (ly := ly) (ad := ad) (μ := μ) (hm hg)
  rw [hly] at hq
  rw [List.map_cons, List.map_cons, vv_rf, rv_at h0, vv_nu]
  have hzr : inR z := ⟨by omega, by omega⟩
  refine va_iald C.1 C.2.1 C.2.2.2.2.2.1 hP q0 t0 hq ht (zI_in hz.1 hz.2 hn) hd ?_
  rw [zI_clamp hzr]
  exact kk ho hg H locs hP hD hS ls hl
theorem q_iast (C : Cx p s m args meth c D tys A nL cc own ret) {x z v : Int} (o : Nat) (h0 : 0 ≤ x) (hxo : x.toNat = o) (hm : clo ids μ → o ∈ ids) (h90 : refpos o z.toNat = false) (t0 : Nat) {cA : ClassId} {n : Nat} (hly : ∀ f, ly ad o f = ceN cA n f) (ht : tys[t0]? = some (cA, .int)) (hz : 0 ≤ z ∧ z < (n : Int)) (hn : n < 2147483648) (hv : inR (v)) (hd : decode cc pc = .ok (.iastore, 1)) (kk : ∀ μ1 : Mem, μ1 = up μ o z.toNat (v) → V0 p l e R s m args below meth c cells slots Q D A ly ids ad nL μ1 (pc + 1) lv st) : V0 p l e R s m args below meth c cells slots Q D A ly ids ad nL μ pc lv (nu v :: nu z :: rf x :: st) := by
  subst hxo
  intro ho hg H locs hP hD hS ls hl
  obtain ⟨q0, hq, hi⟩ := wld_get (ly := ly) (ad := ad) (μ := μ) (hm hg)
  rw [hly] at hq
  rw [List.map_cons, List.map_cons, List.map_cons, vv_rf, rv_at h0, vv_nu, vv_nu]
  have hzr : inR z := ⟨by omega, by omega⟩
  refine va_iast C.1 C.2.1 C.2.2.2.2.2.1 hP hD hS q0 t0 hq ht (zI_in hz.1 hz.2 hn) hd (fun H1 locs1 hP1 hD1 hS1 => ?_)
  rw [zI_clamp hzr, ceN_up, wld_set hD hi (hly _)] at hP1 hD1
  exact kk _ rfl (ok_up ho hv) (clo_up hg h90) H1 locs1 hP1 hD1 hS1 ls hl
theorem q_alen (C : Cx p s m args meth c D tys A nL cc own ret) {x : Int} (o : Nat) (h0 : 0 ≤ x) (hxo : x.toNat = o) (hm : clo ids μ → o ∈ ids) (t0 : Nat) {cA : ClassId} {n : Nat} (hly : ly ad o (μ o) = ceN cA n (μ o)) {ty : FieldType} (ht : tys[t0]? = some (cA, ty)) (hd : decode cc pc = .ok (.arraylength, 1)) (kk : V0 p l e R s m args below meth c cells slots Q D A ly ids ad nL μ (pc + 1) lv (nu n :: st)) : V0 p l e R s m args below meth c cells slots Q D A ly ids ad nL μ pc lv (rf x :: st) := by
  subst hxo
  intro ho hg H locs hP hD hS ls hl
  obtain ⟨q0, hq, -⟩ := wld_get (ly := ly) (ad := ad) (μ := μ) (hm hg)
  rw [hly] at hq
  rw [List.map_cons, vv_rf, rv_at h0]
  exact va_alen (v := zI n) C.1 C.2.1 C.2.2.2.2.2.1 hP q0 t0 hq ht rfl hd (kk ho hg H locs hP hD hS ls hl)
def PW0 (D : va_G) (tys : List (ClassId × FieldType)) (ly : Lay) (ids : List Nat) (ad : Nat → Nat) (μ : Mem) (sz : Nat) (U : State) : Prop :=
  U.heap.size = sz ∧ ok μ ∧ clo ids μ ∧ va_P D vwCl (wld ly ids ad μ) U.heap ∧ va_K D vwCl tys U ∧ va_D (fun _ => True) (wld ly ids ad μ) ∧ NW U ∧ CF ad (va_A (wld ly ids ad μ) sz) U
def PE0 (D : va_G) (tys : List (ClassId × FieldType)) (ly : Lay) (ids : List Nat) (ad : Nat → Nat) (A : Nat → Prop) (μ : Mem) (t : State) : Prop :=
  ok μ ∧ clo ids μ ∧ va_P D vwCl (wld ly ids ad μ) t.heap ∧ va_K D vwCl tys t ∧ va_D A (wld ly ids ad μ)
def aI0 (D : va_G) (tys : List (ClassId × FieldType)) (ly : Lay) (ids : List Nat) (ad : Nat → Nat) (A : Nat → Prop) (r : Int) (μ' : Mem) : Array Value → State → Outcome → State → Prop := va_Qi (fun r0 u => (r0 = zI r ∧ u = μ') ∧ inR r) (PE0 D tys ly ids ad A) A
def aV0 (D : va_G) (tys : List (ClassId × FieldType)) (ly : Lay) (ids : List Nat) (ad : Nat → Nat) (A : Nat → Prop) (_ : Int) (μ' : Mem) : Array Value → State → Outcome → State → Prop := va_Qv (fun u => u = μ') (PE0 D tys ly ids ad A) A
def K0 (aq : AQ) (l : Launch) (D : va_G) (tys : List (ClassId × FieldType)) (ly : Lay) (ids : List Nat) (ad : Nat → Nat) (lev : Nat) (y : MethodName) (cc : ByteArray) (mL : Nat) (ret : Option FieldType) (As : List AV) (μ : Mem) (r : Int) (μ' : Mem) : Prop :=
  ∀ sz : Nat, Met l y (Cond.code y cc mL ret :: WS) (rmk lev) (va_Pc (As.map (vv ad)) (PW0 D tys ly ids ad μ sz)) (aq D tys ly ids ad (va_A (wld ly ids ad μ) sz) r μ') 0 0 (va_A (wld ly ids ad μ) sz)
theorem K0.of {aq : AQ} {l : Launch} {D : va_G} {tys : List (ClassId × FieldType)} {ly : Lay} {ids : List Nat} {ad : Nat → Nat} {lev : Nat} {y : MethodName} {cc : ByteArray} {mL : Nat} {ret : Option FieldType} {As : List AV} {μ : Mem} {r : Int} {μ' : Mem} (hy : plainName y.cls = true) (hn : As.length ≤ mL)
    (body : ∀ (p : Program) (e : Env) (s : State) (m : MethodId) (args : Array Value) (below : List Frame) (meth : Method) (c : Code) (A : Nat → Prop), Cx p s m args meth c D tys A mL cc y.cls ret → CF ad A s → V0 p l e (rmk lev) s m args below meth c 0 0 (MQ below (aq D tys ly ids ad A r μ') args s 0 0 A) D A ly ids ad mL μ 0 (entL As mL) []) : K0 aq l D tys ly ids ad lev y cc mL ret As μ r μ' := by
  intro sz
  refine Met.ofW (cc := cc) (maxL := mL) (ret := ret) hy rfl ?_
  intro p e s m args below meth c s₁ B hml hv
  obtain ⟨rfl, rfl, ho, hg, hP, hK, hD, hNW, hCF⟩ := hv
  have hts := atoms_spec (ws := Cond.code y cc mL ret :: WS) B.pre
  have C : Cx p s m (As.map (vv ad)).toArray meth c D tys (va_A (wld ly ids ad μ) s.heap.size) mL cc y.cls ret := ⟨B.exec, B.bytes, hml, findClass_of_methodNamed B.named, fun w hw => hts w (List.mem_cons_of_mem _ hw), hK, fun q hq => Or.inr hq, B.returns, B.notSynchronized, hNW⟩
  have K := body p e s m _ below meth c _ C hCF ho hg s.heap [] hP hD.self va_S.rf _ (ent_has ad As mL hn)
  rw [lg_entry_eq]
  exact K
theorem q_iret (C : Cx p s m args meth c D tys A nL cc own ret) (hr : ret = some .int) (hrr : inR r) (hd : decode cc pc = .ok (.ireturn, 1)) : V0 p l e R s m args below meth c 0 0 (MQ below (aI0 D tys ly ids ad A r μ) args s 0 0 A) D A ly ids ad nL μ pc lv [nu r] := by
  intro ho hg H locs hP hD hS ls hl
  exact W.iret (v := zI r) C.1 C.2.1 (C.2.2.2.2.2.2.2.1.trans hr) (fun t ht hW => ⟨⟨zI r, μ, rfl, ⟨⟨rfl, rfl⟩, hrr⟩, ⟨ho, hg, by rw [ht]; exact hP, va_K.moved hW.alike C.2.2.2.2.2.1, hD⟩⟩, hS.F ht⟩) hS.2.2 hd C.2.2.2.2.2.2.2.2.1
theorem q_vret (C : Cx p s m args meth c D tys A nL cc own ret) (hr : ret = none) (hd : decode cc pc = .ok (.return_, 1)) : V0 p l e R s m args below meth c 0 0 (MQ below (aV0 D tys ly ids ad A r μ) args s 0 0 A) D A ly ids ad nL μ pc lv [] := by
  intro ho hg H locs hP hD hS ls hl
  exact W.vret C.1 C.2.1 (C.2.2.2.2.2.2.2.1.trans hr) (fun t ht hW => ⟨⟨μ, rfl, rfl, ⟨ho, hg, by rw [ht]; exact hP, va_K.moved hW.alike C.2.2.2.2.2.1, hD⟩⟩, hS.F ht⟩) hS.2.2 hd C.2.2.2.2.2.2.2.2.1
theorem q_callVI (C : Cx p s m args meth c D tys A nL cc own ret) (hCF : CF ad A s) {y : MethodName} {bytes : ByteArray} {mL index lev lev' : Nat} {ret2 : Option FieldType} {As : List AV} {x : Int} (o : Nat) (h0 : 0 ≤ x) (hxo : x.toNat = o) (hm : clo ids μ → o ∈ ids) {ci : Nat} {cs : List AV} (hly : ly ad o (μ o) = ceO ad ci cs) {T : u_T} {N : Nat} (hc : vwCl[ci]? = some (y.cls, T, N)) (hM : K0 aI0 l D tys ly ids ad lev y bytes mL ret2 (rf x :: As) μ r μ') (hR : R = rmk lev') (hlev : lev + 1 ≤ lev') (hmL : mL ≤ 40) (hcs : cells + 0 ≤ (rmk lev').cells ∧ slots + 0 ≤ (rmk lev').slots) (hlk : Cond.methodLink own index y ∈ WS) (hcode : Cond.code y bytes mL ret2 ∈ WS) (hini : Cond.initialized y.cls ∈ WS) (hinst : Cond.instanceMethod y ∈ WS) (hsel : Cond.selects y.cls y y ∈ WS) (n : Nat) (hdd : y.cls ≠ "java/lang/invoke/MethodHandle" ∧ y.cls ≠ "java/lang/invoke/VarHandle" ∧ (parseMethodDescriptor y.desc).map (fun d => d.parameters.length) = some n) (hn : As.length = n) (hst8 : st.length ≤ 8) (hd : decode cc pc = .ok (.invokevirtual index, 3)) (kk : inR r → V0 p l e R s m args below meth c cells slots Q D A ly ids ad nL μ' (pc + 3) lv (nu r :: st)) : V0 p l e R s m args below meth c cells slots Q D A ly ids ad nL μ pc lv (As.reverse ++ rf x :: st) := by
  subst hR
  intro ho hg H locs hP hD hS ls hl
  have hts := C.2.2.2.2.1
  have hlR : (rmk lev).frames + 1 ≤ (rmk lev').frames ∧ 8 + (mL + 11) + (rmk lev).locals ≤ (rmk lev').locals := ⟨hlev, by show 8 + (mL + 11) + 60 * lev ≤ 60 * lev'; omega⟩
  have hFc : ∀ q, va_A (wld ly ids ad μ) H.size q → A q := fun q h => by
    rcases h with ⟨k, ee, h⟩ | h
    · exact hD.2 k (q, ee) h
    · exact C.2.2.2.2.2.2.1 q (Nat.le_trans hS.1 h)
  have hpre : ∀ U : State, U.heap = H → s.WarmedH U.vm → va_Pc ((rf x :: As).map (vv ad)) (PW0 D tys ly ids ad μ H.size) ((rf x :: As).map (vv ad)).toArray U := fun U hU hW => ⟨rfl, by rw [hU], ho, hg, by rw [hU]; exact hP, va_K.moved hW.alike C.2.2.2.2.2.1, hD.weaken (fun _ _ _ _ => trivial), NW.warm hW C.2.2.2.2.2.2.2.2.2, hCF.move hW (fun q h1 h2 => by rw [hU]; exact hS.2.1 q h1 h2) hFc⟩
  have hbl : FrameBlind (va_Pc ((rf x :: As).map (vv ad)) (PW0 D tys ly ids ad μ H.size)) := fun a U g mk q => by
    obtain ⟨q0, q1, q2, q3, q4, q5, q6, q7, q8⟩ := q
    exact ⟨q0, q1, q2, q3, q4, va_K.moved (u := U) (U := U.calling g mk a) (Vm.Alike.refl U.vm) q5, q6, fun w hw hn => va_Nw.same (u := U) (by cases w <;> first | rfl | (simp [nestW] at hn; done)) rfl (q7 w hw hn), CF.same q8⟩
  subst hxo
  obtain ⟨q0, hq, -⟩ := wld_get (ly := ly) (ad := ad) (μ := μ) (hm hg)
  rw [hly] at hq
  have hstk : ((As.reverse ++ rf x :: st).map (vv ad)) = (As.map (vv ad)).reverse ++ .ref (ad x.toNat) :: st.map (vv ad) := by
    rw [List.map_append, List.map_reverse, List.map_cons, vv_rf, rv_at h0]
  have hre : (Value.ref (ad x.toNat) :: As.map (vv ad)) = (rf x :: As).map (vv ad) := by
    rw [List.map_cons, vv_rf, rv_at h0]
  rw [hstk]
  have hcz : cells + 0 ≤ (rmk lev').cells ∧ slots + 0 ≤ (rmk lev').slots := hcs
  refine va_calli (va_runV (As := As.map (vv ad)) (rest := st.map (vv ad)) (n := n) ⟨C.1, C.2.1, C.2.2.1, C.2.2.2.1, hts⟩ (hM H.size) ⟨callB_of n hts (WS_good hcode) rfl rfl rfl (hts _ hini) (hts _ hlk) hdd hlR, hts _ hinst, hts _ hsel⟩ ⟨hbl, va_recv C.2.2.2.2.2.1 hP hc hq, fun U hU hW => by rw [hre]; exact hpre U hU hW⟩ rfl (by rw [List.length_map]; exact hn) hl.1 rfl (lv_room (by rw [List.map_map]; exact Nat.le_trans (Nat.le_of_eq (sum_cat ad st)) hst8)) hd ⟨hcz.1, hcz.2⟩) hS (fun q _ h => hFc q h) hFc (fun r0 u t H1 locs1 ht hvm hw hB hz1 hk1 hS1 => ?_)
  obtain ⟨⟨rfl, rfl⟩, hrr⟩ := hw
  obtain ⟨ho1, hg1, hP1, hK1, hD1⟩ := hB
  rw [ht] at hP1
  have K := kk hrr ho1 hg1 H1 locs1 hP1 (hD1.weaken (fun k q _ h => hFc q.1 h)) hS1 ls hl
  exact K
theorem q_callVV (C : Cx p s m args meth c D tys A nL cc own ret) (hCF : CF ad A s) {y : MethodName} {bytes : ByteArray} {mL index lev lev' : Nat} {ret2 : Option FieldType} {As : List AV} {x : Int} (o : Nat) (h0 : 0 ≤ x) (hxo : x.toNat = o) (hm : clo ids μ → o ∈ ids) {ci : Nat} {cs : List AV} (hly : ly ad o (μ o) = ceO ad ci cs) {T : u_T} {N : Nat} (hc : vwCl[ci]? = some (y.cls, T, N)) (hM : K0 aV0 l D tys ly ids ad lev y bytes mL ret2 (rf x :: As) μ r μ') (hR : R = rmk lev') (hlev : lev + 1 ≤ lev') (hmL : mL ≤ 40) (hcs : cells + 0 ≤ (rmk lev').cells ∧ slots + 0 ≤ (rmk lev').slots) (hlk : Cond.methodLink own index y ∈ WS) (hcode : Cond.code y bytes mL ret2 ∈ WS) (hini : Cond.initialized y.cls ∈ WS) (hinst : Cond.instanceMethod y ∈ WS) (hsel : Cond.selects y.cls y y ∈ WS) (n : Nat) (hdd : y.cls ≠ "java/lang/invoke/MethodHandle" ∧ y.cls ≠ "java/lang/invoke/VarHandle" ∧ (parseMethodDescriptor y.desc).map (fun d => d.parameters.length) = some n) (hn : As.length = n) (hst8 : st.length ≤ 8) (hd : decode cc pc = .ok (.invokevirtual index, 3)) (kk : V0 p l e R s m args below meth c cells slots Q D A ly ids ad nL μ' (pc + 3) lv st) : V0 p l e R s m args below meth c cells slots Q D A ly ids ad nL μ pc lv (As.reverse ++ rf x :: st) := by
  subst hR
  intro ho hg H locs hP hD hS ls hl
  have hts := C.2.2.2.2.1
  have hlR : (rmk lev).frames + 1 ≤ (rmk lev').frames ∧ 8 + (mL + 11) + (rmk lev).locals ≤ (rmk lev').locals := ⟨hlev, by show 8 + (mL + 11) + 60 * lev ≤ 60 * lev'; omega⟩
  have hFc : ∀ q, va_A (wld ly ids ad μ) H.size q → A q := fun q h => by
    rcases h with ⟨k, ee, h⟩ | h
    · exact hD.2 k (q, ee) h
    · exact C.2.2.2.2.2.2.1 q (Nat.le_trans hS.1 h)
  have hpre : ∀ U : State, U.heap = H → s.WarmedH U.vm → va_Pc ((rf x :: As).map (vv ad)) (PW0 D tys ly ids ad μ H.size) ((rf x :: As).map (vv ad)).toArray U := fun U hU hW => ⟨rfl, by rw [hU], ho, hg, by rw [hU]; exact hP, va_K.moved hW.alike C.2.2.2.2.2.1, hD.weaken (fun _ _ _ _ => trivial), NW.warm hW C.2.2.2.2.2.2.2.2.2, hCF.move hW (fun q h1 h2 => by rw [hU]; exact hS.2.1 q h1 h2) hFc⟩
  have hbl : FrameBlind (va_Pc ((rf x :: As).map (vv ad)) (PW0 D tys ly ids ad μ H.size)) := fun a U g mk q => by
    obtain ⟨q0, q1, q2, q3, q4, q5, q6, q7, q8⟩ := q
    exact ⟨q0, q1, q2, q3, q4, va_K.moved (u := U) (U := U.calling g mk a) (Vm.Alike.refl U.vm) q5, q6, fun w hw hn => va_Nw.same (u := U) (by cases w <;> first | rfl | (simp [nestW] at hn; done)) rfl (q7 w hw hn), CF.same q8⟩
  subst hxo
  obtain ⟨q0, hq, -⟩ := wld_get (ly := ly) (ad := ad) (μ := μ) (hm hg)
  rw [hly] at hq
  have hstk : ((As.reverse ++ rf x :: st).map (vv ad)) = (As.map (vv ad)).reverse ++ .ref (ad x.toNat) :: st.map (vv ad) := by
    rw [List.map_append, List.map_reverse, List.map_cons, vv_rf, rv_at h0]
  have hre : (Value.ref (ad x.toNat) :: As.map (vv ad)) = (rf x :: As).map (vv ad) := by
    rw [List.map_cons, vv_rf, rv_at h0]
  rw [hstk]
  have hcz : cells + 0 ≤ (rmk lev').cells ∧ slots + 0 ≤ (rmk lev').slots := hcs
  refine va_callv (va_runV (As := As.map (vv ad)) (rest := st.map (vv ad)) (n := n) ⟨C.1, C.2.1, C.2.2.1, C.2.2.2.1, hts⟩ (hM H.size) ⟨callB_of n hts (WS_good hcode) rfl rfl rfl (hts _ hini) (hts _ hlk) hdd hlR, hts _ hinst, hts _ hsel⟩ ⟨hbl, va_recv C.2.2.2.2.2.1 hP hc hq, fun U hU hW => by rw [hre]; exact hpre U hU hW⟩ rfl (by rw [List.length_map]; exact hn) hl.1 rfl (lv_room (by rw [List.map_map]; exact Nat.le_trans (Nat.le_of_eq (sum_cat ad st)) hst8)) hd ⟨hcz.1, hcz.2⟩) hS (fun q _ h => hFc q h) hFc (fun u t H1 locs1 ht hvm hw hB hz1 hk1 hS1 => ?_)
  subst hw
  obtain ⟨ho1, hg1, hP1, hK1, hD1⟩ := hB
  rw [ht] at hP1
  have K := kk ho1 hg1 H1 locs1 hP1 (hD1.weaken (fun k q _ h => hFc q.1 h)) hS1 ls hl
  exact K
theorem q_callSI (C : Cx p s m args meth c D tys A nL cc own ret) (hCF : CF ad A s) {y : MethodName} {bytes : ByteArray} {mL index lev lev' : Nat} {ret2 : Option FieldType} {As : List AV} (hM : K0 aI0 l D tys ly ids ad lev y bytes mL ret2 (As) μ r μ') (hR : R = rmk lev') (hlev : lev + 1 ≤ lev') (hmL : mL ≤ 40) (hcs : cells + 0 ≤ (rmk lev').cells ∧ slots + 0 ≤ (rmk lev').slots) (hlk : Cond.methodLink own index y ∈ WS) (hcode : Cond.code y bytes mL ret2 ∈ WS) (hini : Cond.initialized y.cls ∈ WS) (hst : Cond.static y ∈ WS) (n : Nat) (hdd : y.cls ≠ "java/lang/invoke/MethodHandle" ∧ y.cls ≠ "java/lang/invoke/VarHandle" ∧ (parseMethodDescriptor y.desc).map (fun d => d.parameters.length) = some n) (hn : As.length = n) (hst8 : st.length ≤ 8) (hd : decode cc pc = .ok (.invokestatic index, 3)) (kk : inR r → V0 p l e R s m args below meth c cells slots Q D A ly ids ad nL μ' (pc + 3) lv (nu r :: st)) : V0 p l e R s m args below meth c cells slots Q D A ly ids ad nL μ pc lv (As.reverse ++ st) := by
  subst hR
  intro ho hg H locs hP hD hS ls hl
  have hts := C.2.2.2.2.1
  have hlR : (rmk lev).frames + 1 ≤ (rmk lev').frames ∧ 8 + (mL + 11) + (rmk lev).locals ≤ (rmk lev').locals := ⟨hlev, by show 8 + (mL + 11) + 60 * lev ≤ 60 * lev'; omega⟩
  have hFc : ∀ q, va_A (wld ly ids ad μ) H.size q → A q := fun q h => by
    rcases h with ⟨k, ee, h⟩ | h
    · exact hD.2 k (q, ee) h
    · exact C.2.2.2.2.2.2.1 q (Nat.le_trans hS.1 h)
  have hpre : ∀ U : State, U.heap = H → s.WarmedH U.vm → va_Pc ((As).map (vv ad)) (PW0 D tys ly ids ad μ H.size) ((As).map (vv ad)).toArray U := fun U hU hW => ⟨rfl, by rw [hU], ho, hg, by rw [hU]; exact hP, va_K.moved hW.alike C.2.2.2.2.2.1, hD.weaken (fun _ _ _ _ => trivial), NW.warm hW C.2.2.2.2.2.2.2.2.2, hCF.move hW (fun q h1 h2 => by rw [hU]; exact hS.2.1 q h1 h2) hFc⟩
  have hbl : FrameBlind (va_Pc ((As).map (vv ad)) (PW0 D tys ly ids ad μ H.size)) := fun a U g mk q => by
    obtain ⟨q0, q1, q2, q3, q4, q5, q6, q7, q8⟩ := q
    exact ⟨q0, q1, q2, q3, q4, va_K.moved (u := U) (U := U.calling g mk a) (Vm.Alike.refl U.vm) q5, q6, fun w hw hn => va_Nw.same (u := U) (by cases w <;> first | rfl | (simp [nestW] at hn; done)) rfl (q7 w hw hn), CF.same q8⟩
  have hstk : ((As.reverse ++ st).map (vv ad)) = (As.map (vv ad)).reverse ++ st.map (vv ad) := by
    rw [List.map_append, List.map_reverse]
  rw [hstk]
  have hcz : cells + 0 ≤ (rmk lev').cells ∧ slots + 0 ≤ (rmk lev').slots := hcs
  refine va_calli (va_runS (As := As.map (vv ad)) (rest := st.map (vv ad)) (n := n) ⟨C.1, C.2.1, C.2.2.1, C.2.2.2.1, hts⟩ (hM H.size) ⟨callB_of n hts (WS_good hcode) rfl rfl rfl (hts _ hini) (hts _ hlk) hdd hlR, hts _ hst⟩ ⟨hbl, hpre⟩ rfl (by rw [List.length_map]; exact hn) hl.1 rfl (lv_room (by rw [List.map_map]; exact Nat.le_trans (Nat.le_of_eq (sum_cat ad st)) hst8)) hd ⟨hcz.1, hcz.2⟩) hS (fun q _ h => hFc q h) hFc (fun r0 u t H1 locs1 ht hvm hw hB hz1 hk1 hS1 => ?_)
  obtain ⟨⟨rfl, rfl⟩, hrr⟩ := hw
  obtain ⟨ho1, hg1, hP1, hK1, hD1⟩ := hB
  rw [ht] at hP1
  have K := kk hrr ho1 hg1 H1 locs1 hP1 (hD1.weaken (fun k q _ h => hFc q.1 h)) hS1 ls hl
  exact K
theorem q_gsW (C : Cx p s m args meth c D tys A nL cc own ret) (hCF : CF ad A s) {index : Nat} (hw : Cond.fieldLink own index "StoneWorks$Table" "WITHOUT" "[I" ∈ WS) (hd : decode cc pc = .ok (.getstatic index, 3)) (kk : V0 p l e R s m args below meth c cells slots Q D A ly ids ad nL μ (pc + 3) lv (rf 1010 :: st)) : V0 p l e R s m args below meth c cells slots Q D A ly ids ad nL μ pc lv st := by
  intro ho hg H locs hP hD hS ls hl
  exact va_gets C.1 C.2.1 hCF.2.2.1.1 hS C.2.2.2.1 (C.2.2.2.2.1 _ hw) (fun _ h => h) hd (kk ho hg H locs hP hD hS ls hl)
theorem q_caW (C : Cx p s m args meth c D tys A nL cc own ret) (hCF : CF ad A s) {z : Int} (hz : 0 ≤ z ∧ z < (kWithout.length : Int)) (hd : decode cc pc = .ok (.iaload, 1)) (kk : V0 p l e R s m args below meth c cells slots Q D A ly ids ad nL μ (pc + 1) lv (nu (kWithout.getD z.toNat 0) :: st)) : V0 p l e R s m args below meth c cells slots Q D A ly ids ad nL μ pc lv (nu z :: rf 1010 :: st) := by
  intro ho hg H locs hP hD hS ls hl
  have hkl : kWithout.length < 10 := by decide
  have hzr : inR z := ⟨by omega, by omega⟩
  refine va_ti C.1 C.2.1 hCF.2.2.1.2 hS (zI_in hz.1 hz.2 (by decide)) rfl hd ?_
  rw [show (zI (nu z).2).toNatClampNeg = z.toNat from zI_clamp hzr]
  exact kk ho hg H locs hP hD hS ls hl
theorem q_clW (C : Cx p s m args meth c D tys A nL cc own ret) (hCF : CF ad A s) (hd : decode cc pc = .ok (.arraylength, 1)) (kk : V0 p l e R s m args below meth c cells slots Q D A ly ids ad nL μ (pc + 1) lv (nu kWithout.length :: st)) : V0 p l e R s m args below meth c cells slots Q D A ly ids ad nL μ pc lv (rf 1010 :: st) := by
  intro ho hg H locs hP hD hS ls hl
  exact va_tlen (v := zI kWithout.length) C.1 C.2.1 hCF.2.2.1.2 hS rfl hd (kk ho hg H locs hP hD hS ls hl)
theorem q_objI (C : Cx p s m args meth c D tys A nL cc own ret) {x : Int} (h0 : 0 ≤ x) {index : Nat} (hlk : Cond.methodLink own index Lib.objectInit ∈ WS) (hin : Cond.instanceMethod Lib.objectInit ∈ WS) (hcode : Cond.code Lib.objectInit ⟨#[0xb1]⟩ 1 none ∈ WS) (hf : 1 ≤ R.frames) (hlo : st.length + 12 ≤ R.locals) (hd : decode cc pc = .ok (.invokespecial index, 3)) (kk : V0 p l e R s m args below meth c cells slots Q D A ly ids ad nL μ (pc + 3) lv st) : V0 p l e R s m args below meth c cells slots Q D A ly ids ad nL μ pc lv (rf x :: st) := by
  intro ho hg H locs hP hD hS ls hl
  rw [List.map_cons, vv_rf, rv_at h0]
  have hts := C.2.2.2.2.1
  refine W.objInit C.1 C.2.1 C.2.2.2.1 (hts _ hlk) (hts _ hin) (hts _ hcode) rfl (by rw [C.2.2.1]; exact hl.1) rfl hd hf ?_ (kk ho hg H locs hP hD hS ls hl)
  have h1 : ((st.map (vv ad)).map fun v => v.category).sum = st.length := by rw [List.map_map]; exact sum_cat ad st
  rw [h1]
  show 2 * 0 + st.length + 12 ≤ R.locals
  omega
theorem h_callVV (C : Cx p s m args meth c D tys A nL cc own ret) (hCF : CF ad A s) {y : MethodName} {bytes : ByteArray} {mL index lev : Nat} {ret2 : Option FieldType} {As : List AV} {x : Int} (o : Nat) (h0 : 0 ≤ x) (hxo : x.toNat = o) (hm : clo ids μ → o ∈ ids) {ci : Nat} {cs : List AV} (hly : ly ad o (μ o) = ceO ad ci cs) {T : u_T} {N : Nat} (hc : vwCl[ci]? = some (y.cls, T, N)) (hM : K0 aV0 l D tys ly ids ad lev y bytes mL ret2 (rf x :: As) μ r μ') (hlR : (rmk lev).frames + 1 ≤ R.frames ∧ 8 + (mL + 11) + (rmk lev).locals ≤ R.locals) (hcs : cells + 0 ≤ R.cells ∧ slots + 0 ≤ R.slots) (hlk : Cond.methodLink own index y ∈ WS) (hcode : Cond.code y bytes mL ret2 ∈ WS) (hini : Cond.initialized y.cls ∈ WS) (hinst : Cond.instanceMethod y ∈ WS) (hsel : Cond.selects y.cls y y ∈ WS) (n : Nat) (hdd : y.cls ≠ "java/lang/invoke/MethodHandle" ∧ y.cls ≠ "java/lang/invoke/VarHandle" ∧ (parseMethodDescriptor y.desc).map (fun d => d.parameters.length) = some n) (hn : As.length = n) (hst8 : st.length ≤ 8) (hd : decode cc pc = .ok (.invokevirtual index, 3)) (kk : V0 p l e R s m args below meth c cells slots Q D A ly ids ad nL μ' (pc + 3) lv st) : V0 p l e R s m args below meth c cells slots Q D A ly ids ad nL μ pc lv (As.reverse ++ rf x :: st) := by
  intro ho hg H locs hP hD hS ls hl
  have hts := C.2.2.2.2.1
  have hFc : ∀ q, va_A (wld ly ids ad μ) H.size q → A q := fun q h => by
    rcases h with ⟨k, ee, h⟩ | h
    · exact hD.2 k (q, ee) h
    · exact C.2.2.2.2.2.2.1 q (Nat.le_trans hS.1 h)
  have hpre : ∀ U : State, U.heap = H → s.WarmedH U.vm → va_Pc ((rf x :: As).map (vv ad)) (PW0 D tys ly ids ad μ H.size) ((rf x :: As).map (vv ad)).toArray U := fun U hU hW => ⟨rfl, by rw [hU], ho, hg, by rw [hU]; exact hP, va_K.moved hW.alike C.2.2.2.2.2.1, hD.weaken (fun _ _ _ _ => trivial), NW.warm hW C.2.2.2.2.2.2.2.2.2, hCF.move hW (fun q h1 h2 => by rw [hU]; exact hS.2.1 q h1 h2) hFc⟩
  have hbl : FrameBlind (va_Pc ((rf x :: As).map (vv ad)) (PW0 D tys ly ids ad μ H.size)) := fun a U g mk q => by
    obtain ⟨q0, q1, q2, q3, q4, q5, q6, q7, q8⟩ := q
    exact ⟨q0, q1, q2, q3, q4, va_K.moved (u := U) (U := U.calling g mk a) (Vm.Alike.refl U.vm) q5, q6, fun w hw hn => va_Nw.same (u := U) (by cases w <;> first | rfl | (simp [nestW] at hn; done)) rfl (q7 w hw hn), CF.same q8⟩
  subst hxo
  obtain ⟨q0, hq, -⟩ := wld_get (ly := ly) (ad := ad) (μ := μ) (hm hg)
  rw [hly] at hq
  have hstk : ((As.reverse ++ rf x :: st).map (vv ad)) = (As.map (vv ad)).reverse ++ .ref (ad x.toNat) :: st.map (vv ad) := by
    rw [List.map_append, List.map_reverse, List.map_cons, vv_rf, rv_at h0]
  have hre : (Value.ref (ad x.toNat) :: As.map (vv ad)) = (rf x :: As).map (vv ad) := by
    rw [List.map_cons, vv_rf, rv_at h0]
  rw [hstk]
  have hcz := hcs
  refine va_callv (va_runV (As := As.map (vv ad)) (rest := st.map (vv ad)) (n := n) ⟨C.1, C.2.1, C.2.2.1, C.2.2.2.1, hts⟩ (hM H.size) ⟨callB_of n hts (WS_good hcode) rfl rfl rfl (hts _ hini) (hts _ hlk) hdd hlR, hts _ hinst, hts _ hsel⟩ ⟨hbl, va_recv C.2.2.2.2.2.1 hP hc hq, fun U hU hW => by rw [hre]; exact hpre U hU hW⟩ rfl (by rw [List.length_map]; exact hn) hl.1 rfl (lv_room (by rw [List.map_map]; exact Nat.le_trans (Nat.le_of_eq (sum_cat ad st)) hst8)) hd ⟨hcz.1, hcz.2⟩) hS (fun q _ h => hFc q h) hFc (fun u t H1 locs1 ht hvm hw hB hz1 hk1 hS1 => ?_)
  subst hw
  obtain ⟨ho1, hg1, hP1, hK1, hD1⟩ := hB
  rw [ht] at hP1
  have K := kk ho1 hg1 H1 locs1 hP1 (hD1.weaken (fun k q _ h => hFc q.1 h)) hS1 ls hl
  exact K
theorem h_callSI (C : Cx p s m args meth c D tys A nL cc own ret) (hCF : CF ad A s) {y : MethodName} {bytes : ByteArray} {mL index lev : Nat} {ret2 : Option FieldType} {As : List AV} (hM : K0 aI0 l D tys ly ids ad lev y bytes mL ret2 (As) μ r μ') (hlR : (rmk lev).frames + 1 ≤ R.frames ∧ 8 + (mL + 11) + (rmk lev).locals ≤ R.locals) (hcs : cells + 0 ≤ R.cells ∧ slots + 0 ≤ R.slots) (hlk : Cond.methodLink own index y ∈ WS) (hcode : Cond.code y bytes mL ret2 ∈ WS) (hini : Cond.initialized y.cls ∈ WS) (hst : Cond.static y ∈ WS) (n : Nat) (hdd : y.cls ≠ "java/lang/invoke/MethodHandle" ∧ y.cls ≠ "java/lang/invoke/VarHandle" ∧ (parseMethodDescriptor y.desc).map (fun d => d.parameters.length) = some n) (hn : As.length = n) (hst8 : st.length ≤ 8) (hd : decode cc pc = .ok (.invokestatic index, 3)) (kk : inR r → V0 p l e R s m args below meth c cells slots Q D A ly ids ad nL μ' (pc + 3) lv (nu r :: st)) : V0 p l e R s m args below meth c cells slots Q D A ly ids ad nL μ pc lv (As.reverse ++ st) := by
  intro ho hg H locs hP hD hS ls hl
  have hts := C.2.2.2.2.1
  have hFc : ∀ q, va_A (wld ly ids ad μ) H.size q → A q := fun q h => by
    rcases h with ⟨k, ee, h⟩ | h
    · exact hD.2 k (q, ee) h
    · exact C.2.2.2.2.2.2.1 q (Nat.le_trans hS.1 h)
  have hpre : ∀ U : State, U.heap = H → s.WarmedH U.vm → va_Pc ((As).map (vv ad)) (PW0 D tys ly ids ad μ H.size) ((As).map (vv ad)).toArray U := fun U hU hW => ⟨rfl, by rw [hU], ho, hg, by rw [hU]; exact hP, va_K.moved hW.alike C.2.2.2.2.2.1, hD.weaken (fun _ _ _ _ => trivial), NW.warm hW C.2.2.2.2.2.2.2.2.2, hCF.move hW (fun q h1 h2 => by rw [hU]; exact hS.2.1 q h1 h2) hFc⟩
  have hbl : FrameBlind (va_Pc ((As).map (vv ad)) (PW0 D tys ly ids ad μ H.size)) := fun a U g mk q => by
    obtain ⟨q0, q1, q2, q3, q4, q5, q6, q7, q8⟩ := q
    exact ⟨q0, q1, q2, q3, q4, va_K.moved (u := U) (U := U.calling g mk a) (Vm.Alike.refl U.vm) q5, q6, fun w hw hn => va_Nw.same (u := U) (by cases w <;> first | rfl | (simp [nestW] at hn; done)) rfl (q7 w hw hn), CF.same q8⟩
  have hstk : ((As.reverse ++ st).map (vv ad)) = (As.map (vv ad)).reverse ++ st.map (vv ad) := by
    rw [List.map_append, List.map_reverse]
  rw [hstk]
  have hcz := hcs
  refine va_calli (va_runS (As := As.map (vv ad)) (rest := st.map (vv ad)) (n := n) ⟨C.1, C.2.1, C.2.2.1, C.2.2.2.1, hts⟩ (hM H.size) ⟨callB_of n hts (WS_good hcode) rfl rfl rfl (hts _ hini) (hts _ hlk) hdd hlR, hts _ hst⟩ ⟨hbl, hpre⟩ rfl (by rw [List.length_map]; exact hn) hl.1 rfl (lv_room (by rw [List.map_map]; exact Nat.le_trans (Nat.le_of_eq (sum_cat ad st)) hst8)) hd ⟨hcz.1, hcz.2⟩) hS (fun q _ h => hFc q h) hFc (fun r0 u t H1 locs1 ht hvm hw hB hz1 hk1 hS1 => ?_)
  obtain ⟨⟨rfl, rfl⟩, hrr⟩ := hw
  obtain ⟨ho1, hg1, hP1, hK1, hD1⟩ := hB
  rw [ht] at hP1
  have K := kk hrr ho1 hg1 H1 locs1 hP1 (hD1.weaken (fun k q _ h => hFc q.1 h)) hS1 ls hl
  exact K
theorem h_callVI (C : Cx p s m args meth c D tys A nL cc own ret) (hCF : CF ad A s) {y : MethodName} {bytes : ByteArray} {mL index lev : Nat} {ret2 : Option FieldType} {As : List AV} {x : Int} (o : Nat) (h0 : 0 ≤ x) (hxo : x.toNat = o) (hm : clo ids μ → o ∈ ids) {ci : Nat} {cs : List AV} (hly : ly ad o (μ o) = ceO ad ci cs) {T : u_T} {N : Nat} (hc : vwCl[ci]? = some (y.cls, T, N)) (hM : K0 aI0 l D tys ly ids ad lev y bytes mL ret2 (rf x :: As) μ r μ') (hlR : (rmk lev).frames + 1 ≤ R.frames ∧ 8 + (mL + 11) + (rmk lev).locals ≤ R.locals) (hcs : cells + 0 ≤ R.cells ∧ slots + 0 ≤ R.slots) (hlk : Cond.methodLink own index y ∈ WS) (hcode : Cond.code y bytes mL ret2 ∈ WS) (hini : Cond.initialized y.cls ∈ WS) (hinst : Cond.instanceMethod y ∈ WS) (hsel : Cond.selects y.cls y y ∈ WS) (n : Nat) (hdd : y.cls ≠ "java/lang/invoke/MethodHandle" ∧ y.cls ≠ "java/lang/invoke/VarHandle" ∧ (parseMethodDescriptor y.desc).map (fun d => d.parameters.length) = some n) (hn : As.length = n) (hst8 : st.length ≤ 8) (hd : decode cc pc = .ok (.invokevirtual index, 3)) (kk : inR r → V0 p l e R s m args below meth c cells slots Q D A ly ids ad nL μ' (pc + 3) lv (nu r :: st)) : V0 p l e R s m args below meth c cells slots Q D A ly ids ad nL μ pc lv (As.reverse ++ rf x :: st) := by
  intro ho hg H locs hP hD hS ls hl
  have hts := C.2.2.2.2.1
  have hFc : ∀ q, va_A (wld ly ids ad μ) H.size q → A q := fun q h => by
    rcases h with ⟨k, ee, h⟩ | h
    · exact hD.2 k (q, ee) h
    · exact C.2.2.2.2.2.2.1 q (Nat.le_trans hS.1 h)
  have hpre : ∀ U : State, U.heap = H → s.WarmedH U.vm → va_Pc ((rf x :: As).map (vv ad)) (PW0 D tys ly ids ad μ H.size) ((rf x :: As).map (vv ad)).toArray U := fun U hU hW => ⟨rfl, by rw [hU], ho, hg, by rw [hU]; exact hP, va_K.moved hW.alike C.2.2.2.2.2.1, hD.weaken (fun _ _ _ _ => trivial), NW.warm hW C.2.2.2.2.2.2.2.2.2, hCF.move hW (fun q h1 h2 => by rw [hU]; exact hS.2.1 q h1 h2) hFc⟩
  have hbl : FrameBlind (va_Pc ((rf x :: As).map (vv ad)) (PW0 D tys ly ids ad μ H.size)) := fun a U g mk q => by
    obtain ⟨q0, q1, q2, q3, q4, q5, q6, q7, q8⟩ := q
    exact ⟨q0, q1, q2, q3, q4, va_K.moved (u := U) (U := U.calling g mk a) (Vm.Alike.refl U.vm) q5, q6, fun w hw hn => va_Nw.same (u := U) (by cases w <;> first | rfl | (simp [nestW] at hn; done)) rfl (q7 w hw hn), CF.same q8⟩
  subst hxo
  obtain ⟨q0, hq, -⟩ := wld_get (ly := ly) (ad := ad) (μ := μ) (hm hg)
  rw [hly] at hq
  have hstk : ((As.reverse ++ rf x :: st).map (vv ad)) = (As.map (vv ad)).reverse ++ .ref (ad x.toNat) :: st.map (vv ad) := by
    rw [List.map_append, List.map_reverse, List.map_cons, vv_rf, rv_at h0]
  have hre : (Value.ref (ad x.toNat) :: As.map (vv ad)) = (rf x :: As).map (vv ad) := by
    rw [List.map_cons, vv_rf, rv_at h0]
  rw [hstk]
  have hcz := hcs
  refine va_calli (va_runV (As := As.map (vv ad)) (rest := st.map (vv ad)) (n := n) ⟨C.1, C.2.1, C.2.2.1, C.2.2.2.1, hts⟩ (hM H.size) ⟨callB_of n hts (WS_good hcode) rfl rfl rfl (hts _ hini) (hts _ hlk) hdd hlR, hts _ hinst, hts _ hsel⟩ ⟨hbl, va_recv C.2.2.2.2.2.1 hP hc hq, fun U hU hW => by rw [hre]; exact hpre U hU hW⟩ rfl (by rw [List.length_map]; exact hn) hl.1 rfl (lv_room (by rw [List.map_map]; exact Nat.le_trans (Nat.le_of_eq (sum_cat ad st)) hst8)) hd ⟨hcz.1, hcz.2⟩) hS (fun q _ h => hFc q h) hFc (fun r0 u t H1 locs1 ht hvm hw hB hz1 hk1 hS1 => ?_)
  obtain ⟨⟨rfl, rfl⟩, hrr⟩ := hw
  obtain ⟨ho1, hg1, hP1, hK1, hD1⟩ := hB
  rw [ht] at hP1
  have K := kk hrr ho1 hg1 H1 locs1 hP1 (hD1.weaken (fun k q _ h => hFc q.1 h)) hS1 ls hl
  exact K
end W0
