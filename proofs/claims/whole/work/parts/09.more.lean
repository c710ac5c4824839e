section VB
variable {p : Program} {l : Launch} {e : Env} {R : Room} {s : State} {m : MethodId} {args : Array Value} {below : List Frame} {meth : Method} {c : Code} {cells slots : Nat} {Q : State → Prop} {D : va_G} {tys : List (ClassId × FieldType)} {A : Nat → Prop} {ly : Lay} {ids : List Nat} {ad : Nat → Nat} {nL : Nat} {cc : ByteArray} {own : String} {ret : Option FieldType} {μ : Mem} {pc : Nat} {lv : LV} {st : List AV}
theorem V_lw {lw : LV} (k : V p l e R s m args below meth c cells slots Q D A ly ids ad nL μ pc lw st) (hle : leL lw lv) : V p l e R s m args below meth c cells slots Q D A ly ids ad nL μ pc lv st := V_lv hle k
theorem rowz {z n : Int} (h : 0 ≤ z ∧ z < n) : 0 ≤ ((z.toNat : Nat) : Int) ∧ ((z.toNat : Nat) : Int) < n := by omega
theorem row0 {b k : Nat} : (0 : Int) ≤ (b : Int) + (k : Int) := by omega
theorem row9 {b k : Nat} {n : Int} (h : 0 ≤ (k : Int) ∧ (k : Int) < n) (hb : (b : Int) + n ≤ 90 ∨ 90 < b) : ((b : Int) + (k : Int)).toNat ≠ 90 := by omega
theorem ly_g40 (cy : Nat → ClassId) (ad : Nat → Nat) {x : Int} (h : 40 ≤ x ∧ x < 45) (f : Nat → Int) : lay cy ad x.toNat f = ceN (cy 0) 6 f := by
  have h1 := ly_r40 cy ad (z := x - 40) ⟨by omega, by omega⟩ f
  rwa [show 40 + (x - 40) = x by omega] at h1
theorem ba_g40 {ids : List Nat} {μ : Mem} {x : Int} (h : 40 ≤ x ∧ x < 45) (hg : gho ids μ) : x.toNat ∈ ids := by
  have h1 := ba_r40 (z := x - 40) ⟨by omega, by omega⟩ hg
  rwa [show 40 + (x - 40) = x by omega] at h1
theorem ly_g45 (cy : Nat → ClassId) (ad : Nat → Nat) {x : Int} (h : 45 ≤ x ∧ x < 50) (f : Nat → Int) : lay cy ad x.toNat f = ceN (cy 0) 4 f := by
  have h1 := ly_r45 cy ad (z := x - 45) ⟨by omega, by omega⟩ f
  rwa [show 45 + (x - 45) = x by omega] at h1
theorem ba_g45 {ids : List Nat} {μ : Mem} {x : Int} (h : 45 ≤ x ∧ x < 50) (hg : gho ids μ) : x.toNat ∈ ids := by
  have h1 := ba_r45 (z := x - 45) ⟨by omega, by omega⟩ hg
  rwa [show 45 + (x - 45) = x by omega] at h1
theorem ly_g338 (cy : Nat → ClassId) (ad : Nat → Nat) {x : Int} (h : 338 ≤ x ∧ x < 378) (f : Nat → Int) : lay cy ad x.toNat f = ceN (cy 0) 40 f := by
  have h1 := ly_r338 cy ad (z := x - 338) ⟨by omega, by omega⟩ f
  rwa [show 338 + (x - 338) = x by omega] at h1
theorem ba_g338 {ids : List Nat} {μ : Mem} {x : Int} (h : 338 ≤ x ∧ x < 378) (hg : gho ids μ) : x.toNat ∈ ids := by
  have h1 := ba_r338 (z := x - 338) ⟨by omega, by omega⟩ hg
  rwa [show 338 + (x - 338) = x by omega] at h1
theorem rg0 {b n : Nat} {x : Int} (h : (b : Int) ≤ x ∧ x < (n : Int)) : 0 ≤ x := by omega
theorem rg9 {b n : Nat} {x : Int} (h : (b : Int) ≤ x ∧ x < (n : Int)) (hb : n ≤ 90 ∨ 90 < b) : x.toNat ≠ 90 := by omega
theorem r_ineg (C : Cx p s m args meth c D tys A nL cc own ret) {a : Int} (hd : decode cc pc = .ok (.ineg, 1)) (k : V p l e R s m args below meth c cells slots Q D A ly ids ad nL μ (pc + 1) lv (nu (-a) :: st)) : V p l e R s m args below meth c cells slots Q D A ly ids ad nL μ pc lv (nu a :: st) := by
  intro ho hg H locs hP hD hS ls hl
  refine lv_ineg C.1 C.2.1 hd ?_
  have h9 := k ho hg H locs hP hD hS ls hl
  rw [List.map_cons, vv_nu] at h9
  rw [show -(zI (nu a).2) = zI (-a) from (Int32.ofInt_neg a).symm]
  exact h9
theorem r_ldcw (C : Cx p s m args meth c D tys A nL cc own ret) {index : Nat} {v : Int32} {n : Int} (hw : Cond.constant own index v ∈ WS) (hv : v = zI n) (hd : decode cc pc = .ok (.ldc_w index, 3)) (k : V p l e R s m args below meth c cells slots Q D A ly ids ad nL μ (pc + 3) lv (nu n :: st)) : V p l e R s m args below meth c cells slots Q D A ly ids ad nL μ pc lv st := by
  subst hv
  intro ho hg H locs hP hD hS ls hl
  exact lv_ldcw C.1 C.2.1 C.2.2.2.1 (C.2.2.2.2.1 _ hw) hd (k ho hg H locs hP hD hS ls hl)
theorem r_aastS {cy : Nat → ClassId} (C : Cx p s m args meth c D (tyl cy) A nL cc own ret) {x z v : Int} (o : Nat) (h0 : 0 ≤ x) (hxo : x.toNat = o) (hm : gho ids μ → o ∈ ids) (h90 : o ≠ 90) {n : Nat} (hly : ∀ f, lay cy ad o f = ceR ad (cy 4) n f) (hq : stq μ v) (hz : 0 ≤ z ∧ z < (n : Int)) (hn : n < 2147483648) (hd : decode cc pc = .ok (.aastore, 1)) (kk : ∀ μ1 : Mem, μ1 = up μ o z.toNat v → V p l e R s m args below meth c cells slots Q D A (lay cy) ids ad nL μ1 (pc + 1) lv st) : V p l e R s m args below meth c cells slots Q D A (lay cy) ids ad nL μ pc lv (rf v :: nu z :: rf x :: st) := by
  subst hxo
  intro ho hg H locs hP hD hS ls hl
  obtain ⟨q0, hq0, hi⟩ := wld_get (ly := lay cy) (ad := ad) (μ := μ) (hm hg)
  obtain ⟨qk, hqk, -⟩ := wld_get (ly := lay cy) (ad := ad) (μ := μ) (st_m hq hg)
  rw [hly] at hq0
  rw [ly_st cy ad hq] at hqk
  rw [List.map_cons, List.map_cons, List.map_cons, vv_rf, vv_rf, rv_at h0, rv_at (st_0 hq), vv_nu]
  have hzr : inR z := ⟨by omega, by omega⟩
  refine va_astq (r := (RX4, TX4, 6)) C.1 C.2.1 C.2.2.2.2.2.1 hP hD hS q0 4 qk 4 hq0 rfl hqk rfl (zI_in hz.1 hz.2 hn) hd (fun H1 locs1 hP1 hD1 hS1 => ?_)
  have hsome : some (ad v.toNat) = ptr ad v := by
    unfold ptr
    rw [if_neg (by omega)]
  rw [zI_clamp hzr, hsome, ceR_up, wld_set hD hi (hly _)] at hP1 hD1
  exact kk _ rfl (ok_up ho ⟨by omega, by omega⟩) (gho_up hg h90) H1 locs1 hP1 hD1 hS1 ls hl
theorem r_gsW (C : Cx p s m args meth c D tys A nL cc own ret) (hCF : CF ad A s) {index : Nat} (hw : Cond.fieldLink own index "StoneWorks$Table" "WITHOUT" "[I" ∈ WS) (hd : decode cc pc = .ok (.getstatic index, 3)) (kk : V p l e R s m args below meth c cells slots Q D A ly ids ad nL μ (pc + 3) lv (rf 1010 :: st)) : V p l e R s m args below meth c cells slots Q D A ly ids ad nL μ pc lv st := by
  intro ho hg H locs hP hD hS ls hl
  exact va_gets C.1 C.2.1 hCF.2.2.1.1 hS C.2.2.2.1 (C.2.2.2.2.1 _ hw) (fun _ h => h) hd (kk ho hg H locs hP hD hS ls hl)
theorem r_caW (C : Cx p s m args meth c D tys A nL cc own ret) (hCF : CF ad A s) {z : Int} (hz : 0 ≤ z ∧ z < (kWithout.length : Int)) (hd : decode cc pc = .ok (.iaload, 1)) (kk : V p l e R s m args below meth c cells slots Q D A ly ids ad nL μ (pc + 1) lv (nu (kWithout.getD z.toNat 0) :: st)) : V p l e R s m args below meth c cells slots Q D A ly ids ad nL μ pc lv (nu z :: rf 1010 :: st) := by
  intro ho hg H locs hP hD hS ls hl
  have hkl : kWithout.length < 10 := by decide
  have hzr : inR z := ⟨by omega, by omega⟩
  refine va_ti C.1 C.2.1 hCF.2.2.1.2 hS (zI_in hz.1 hz.2 (by decide)) rfl hd ?_
  rw [show (zI (nu z).2).toNatClampNeg = z.toNat from zI_clamp hzr]
  exact kk ho hg H locs hP hD hS ls hl
theorem r_clW (C : Cx p s m args meth c D tys A nL cc own ret) (hCF : CF ad A s) (hd : decode cc pc = .ok (.arraylength, 1)) (kk : V p l e R s m args below meth c cells slots Q D A ly ids ad nL μ (pc + 1) lv (nu kWithout.length :: st)) : V p l e R s m args below meth c cells slots Q D A ly ids ad nL μ pc lv (rf 1010 :: st) := by
  intro ho hg H locs hP hD hS ls hl
  exact va_tlen (v := zI kWithout.length) C.1 C.2.1 hCF.2.2.1.2 hS rfl hd (kk ho hg H locs hP hD hS ls hl)
theorem r_gsF (C : Cx p s m args meth c D tys A nL cc own ret) (hCF : CF ad A s) {index : Nat} (hw : Cond.fieldLink own index "StoneWorks$TableReader" "NUMBERS_FROM" "[I" ∈ WS) (hd : decode cc pc = .ok (.getstatic index, 3)) (kk : V p l e R s m args below meth c cells slots Q D A ly ids ad nL μ (pc + 3) lv (rf 1011 :: st)) : V p l e R s m args below meth c cells slots Q D A ly ids ad nL μ pc lv st := by
  intro ho hg H locs hP hD hS ls hl
  exact va_gets C.1 C.2.1 hCF.2.2.2.1.1 hS C.2.2.2.1 (C.2.2.2.2.1 _ hw) (fun _ h => h) hd (kk ho hg H locs hP hD hS ls hl)
theorem r_caF (C : Cx p s m args meth c D tys A nL cc own ret) (hCF : CF ad A s) {z : Int} (hz : 0 ≤ z ∧ z < (kFrom.length : Int)) (hd : decode cc pc = .ok (.iaload, 1)) (kk : V p l e R s m args below meth c cells slots Q D A ly ids ad nL μ (pc + 1) lv (nu (kFrom.getD z.toNat 0) :: st)) : V p l e R s m args below meth c cells slots Q D A ly ids ad nL μ pc lv (nu z :: rf 1011 :: st) := by
  intro ho hg H locs hP hD hS ls hl
  have hkl : kFrom.length < 10 := by decide
  have hzr : inR z := ⟨by omega, by omega⟩
  refine va_ti C.1 C.2.1 hCF.2.2.2.1.2 hS (zI_in hz.1 hz.2 (by decide)) rfl hd ?_
  rw [show (zI (nu z).2).toNatClampNeg = z.toNat from zI_clamp hzr]
  exact kk ho hg H locs hP hD hS ls hl
theorem r_clF (C : Cx p s m args meth c D tys A nL cc own ret) (hCF : CF ad A s) (hd : decode cc pc = .ok (.arraylength, 1)) (kk : V p l e R s m args below meth c cells slots Q D A ly ids ad nL μ (pc + 1) lv (nu kFrom.length :: st)) : V p l e R s m args below meth c cells slots Q D A ly ids ad nL μ pc lv (rf 1011 :: st) := by
  intro ho hg H locs hP hD hS ls hl
  exact va_tlen (v := zI kFrom.length) C.1 C.2.1 hCF.2.2.2.1.2 hS rfl hd (kk ho hg H locs hP hD hS ls hl)
theorem r_gsG (C : Cx p s m args meth c D tys A nL cc own ret) (hCF : CF ad A s) {index : Nat} (hw : Cond.fieldLink own index "StoneWorks$TableReader" "GREATEST" "[I" ∈ WS) (hd : decode cc pc = .ok (.getstatic index, 3)) (kk : V p l e R s m args below meth c cells slots Q D A ly ids ad nL μ (pc + 3) lv (rf 1012 :: st)) : V p l e R s m args below meth c cells slots Q D A ly ids ad nL μ pc lv st := by
  intro ho hg H locs hP hD hS ls hl
  exact va_gets C.1 C.2.1 hCF.2.2.2.2.1.1 hS C.2.2.2.1 (C.2.2.2.2.1 _ hw) (fun _ h => h) hd (kk ho hg H locs hP hD hS ls hl)
theorem r_caG (C : Cx p s m args meth c D tys A nL cc own ret) (hCF : CF ad A s) {z : Int} (hz : 0 ≤ z ∧ z < (kGreatest.length : Int)) (hd : decode cc pc = .ok (.iaload, 1)) (kk : V p l e R s m args below meth c cells slots Q D A ly ids ad nL μ (pc + 1) lv (nu (kGreatest.getD z.toNat 0) :: st)) : V p l e R s m args below meth c cells slots Q D A ly ids ad nL μ pc lv (nu z :: rf 1012 :: st) := by
  intro ho hg H locs hP hD hS ls hl
  have hkl : kGreatest.length < 10 := by decide
  have hzr : inR z := ⟨by omega, by omega⟩
  refine va_ti C.1 C.2.1 hCF.2.2.2.2.1.2 hS (zI_in hz.1 hz.2 (by decide)) rfl hd ?_
  rw [show (zI (nu z).2).toNatClampNeg = z.toNat from zI_clamp hzr]
  exact kk ho hg H locs hP hD hS ls hl
theorem r_clG (C : Cx p s m args meth c D tys A nL cc own ret) (hCF : CF ad A s) (hd : decode cc pc = .ok (.arraylength, 1)) (kk : V p l e R s m args below meth c cells slots Q D A ly ids ad nL μ (pc + 1) lv (nu kGreatest.length :: st)) : V p l e R s m args below meth c cells slots Q D A ly ids ad nL μ pc lv (rf 1012 :: st) := by
  intro ho hg H locs hP hD hS ls hl
  exact va_tlen (v := zI kGreatest.length) C.1 C.2.1 hCF.2.2.2.2.1.2 hS rfl hd (kk ho hg H locs hP hD hS ls hl)
theorem r_gsWN (C : Cx p s m args meth c D tys A nL cc own ret) (hCF : CF ad A s) {index : Nat} {host : String} (hw : Cond.fieldLinkNest own index "StoneWorks$Table" "WITHOUT" "[I" host ∈ lw_tbl) (hd : decode cc pc = .ok (.getstatic index, 3)) (kk : V p l e R s m args below meth c cells slots Q D A ly ids ad nL μ (pc + 3) lv (rf 1010 :: st)) : V p l e R s m args below meth c cells slots Q D A ly ids ad nL μ pc lv st := by
  intro ho hg H locs hP hD hS ls hl
  exact va_getsN C.1 C.2.1 hCF.2.2.1.1 hS C.2.2.2.1 (va_Nw.use rfl (C.2.2.2.2.2.2.2.2.2 _ hw rfl)) (fun _ h => h) hd (kk ho hg H locs hP hD hS ls hl)
theorem getD_rng (l : List Int) (h : (l.all (fun z => decide (-2147483648 ≤ z) && decide (z < 2147483648))) = true) (k : Nat) : inR (l.getD k 0) := by
  by_cases hk : k < l.length
  · have h1 := List.all_eq_true.mp h (l.getD k 0) (by rw [List.getD_eq_getElem?_getD, List.getElem?_eq_getElem hk]; exact List.getElem_mem hk)
    exact inR_lit h1
  · rw [List.getD_eq_getElem?_getD, List.getElem?_eq_none (by omega)]
    exact ⟨by decide, by decide⟩
theorem kWithout_r (k : Nat) : inR (kWithout.getD k 0) := getD_rng _ (by decide) k
theorem kFrom_r (k : Nat) : inR (kFrom.getD k 0) := getD_rng _ (by decide) k
theorem kGreatest_r (k : Nat) : inR (kGreatest.getD k 0) := getD_rng _ (by decide) k
end VB
theorem KK.ofF {aq : AQ} {l : Launch} {D : va_G} {tys : List (ClassId × FieldType)} {ly : Lay} {ids : List Nat} {ad : Nat → Nat} {lev : Nat} {y : MethodName} {cc : ByteArray} {mL : Nat} {ret : Option FieldType} {As : List AV} {μ : Mem} {r : Int} {μ' : Mem} (hy : plainFor y = true) (hn : As.length ≤ mL)
    (body : ∀ (p : Program) (e : Env) (s : State) (m : MethodId) (args : Array Value) (below : List Frame) (meth : Method) (c : Code) (A : Nat → Prop), Cx p s m args meth c D tys A mL cc y.cls ret → CF ad A s → V p l e (rmk lev) s m args below meth c 0 0 (MQ below (aq D tys ly ids ad A r μ') args s 0 0 A) D A ly ids ad mL μ 0 (entL As mL) []) : KK aq l D tys ly ids ad lev y cc mL ret As μ r μ' := by
  intro sz
  refine va_MetF (cc := cc) (maxL := mL) (ret := ret) hy rfl ?_
  intro p e s m args below meth c s₁ B hml hv
  obtain ⟨rfl, rfl, ho, hg, hP, hK, hD, hNW, hCF⟩ := hv
  have hts := atoms_spec (ws := Cond.code y cc mL ret :: WS) B.pre
  have C : Cx p s m (As.map (vv ad)).toArray meth c D tys (va_A (wld ly ids ad μ) s.heap.size) mL cc y.cls ret := ⟨B.exec, B.bytes, hml, findClass_of_methodNamed B.named, fun w hw => hts w (List.mem_cons_of_mem _ hw), hK, fun q hq => Or.inr hq, B.returns, B.notSynchronized, hNW⟩
  have K := body p e s m _ below meth c _ C hCF ho hg s.heap [] hP hD.self va_S.rf _ (ent_has ad As mL hn)
  rw [lg_entry_eq]
  exact K
