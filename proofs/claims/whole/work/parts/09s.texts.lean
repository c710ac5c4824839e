/-! TEXTS: a text is the id 1000 + i, its bytes the id 1020 + i -/
def slen (y : Int) : Int := (strLen.getD (y - 1020).toNat 0 : Nat)
def schr (y : Int) (k : Nat) : Int := ((strByt.getD (y - 1020).toNat []).getD k 0).toInt
abbrev txq (x : Int) : Prop := 1000 ≤ x ∧ x < 1008
abbrev tbq (y : Int) : Prop := 1020 ≤ y ∧ y < 1028
theorem slen_b (y : Int) : 0 ≤ slen y ∧ slen y < 10 := by
  unfold slen
  have h : ∀ k, strLen.getD k 0 < 10 := by
    intro k
    by_cases hk : k < 8
    · match k, hk with
      | 0, _ => decide
      | 1, _ => decide
      | 2, _ => decide
      | 3, _ => decide
      | 4, _ => decide
      | 5, _ => decide
      | 6, _ => decide
      | 7, _ => decide
    · rw [List.getD_eq_getElem?_getD, List.getElem?_eq_none (by show 8 ≤ k; omega)]
      decide
  have := h (y - 1020).toNat
  omega
theorem slen_r (y : Int) : inR (slen y) := by
  have := slen_b y
  exact ⟨by omega, by omega⟩
def zi2c (a : Int) : Int := ((zI a).toUInt32 % 65536).toInt32.toInt
section VS
variable {p : Program} {l : Launch} {e : Env} {R : Room} {s : State} {m : MethodId} {args : Array Value} {below : List Frame} {meth : Method} {c : Code} {cells slots : Nat} {Q : State → Prop} {D : va_G} {tys : List (ClassId × FieldType)} {A : Nat → Prop} {ly : Lay} {ids : List Nat} {ad : Nat → Nat} {nL : Nat} {cc : ByteArray} {own : String} {ret : Option FieldType} {μ : Mem} {pc : Nat} {lv : LV} {st : List AV}
theorem r_ldcS (C : Cx p s m args meth c D tys A nL cc own ret) (hCF : CF ad A s) {index : Nat} {tx : String} {i : Nat} (k : Nat) (hk : strR[k]? = some (own, index, tx, i)) (x : Int) (hx : (1000 : Int) + (i : Int) = x) (hd : decode cc pc = .ok (.ldc index, 2)) (kk : V p l e R s m args below meth c cells slots Q D A ly ids ad nL μ (pc + 2) lv (rf x :: st)) : V p l e R s m args below meth c cells slots Q D A ly ids ad nL μ pc lv st := by
  subst hx
  intro ho hg H locs hP hD hS ls hl
  have h1 := hCF.2.1 _ (List.mem_of_getElem? hk)
  have h2 := kk ho hg H locs hP hD hS ls hl
  rw [List.map_cons, vv_rf, rv_at (by omega), show ((1000 : Int) + (i : Int)).toNat = 1000 + i by omega] at h2
  exact va_ldcS C.1 C.2.1 C.2.2.2.1 h1 hd h2
theorem r_strV (C : Cx p s m args meth c D tys A nL cc own ret) (hCF : CF ad A s) {x : Int} (hx : txq x) {index : Nat} (hw : Cond.fieldLink own index "java/lang/String" "value" "[B" ∈ WS) (hd : decode cc pc = .ok (.getfield index, 3)) (kk : V p l e R s m args below meth c cells slots Q D A ly ids ad nL μ (pc + 3) lv (rf (x + 20) :: st)) : V p l e R s m args below meth c cells slots Q D A ly ids ad nL μ pc lv (rf x :: st) := by
  intro ho hg H locs hP hD hS ls hl
  have h1 := (hCF.1.1 (x - 1000).toNat (by omega)).2.2.1
  have h2 := kk ho hg H locs hP hD hS ls hl
  rw [List.map_cons, vv_rf, rv_at (by omega), show (x + 20).toNat = 1020 + (x - 1000).toNat by omega] at h2
  rw [List.map_cons, vv_rf, rv_at (by omega), show x.toNat = 1000 + (x - 1000).toNat by omega]
  exact vk_getf C.1 C.2.1 h1 hS C.2.2.2.1 (C.2.2.2.2.1 _ hw) (fun _ h => h) hd h2
theorem r_strC (C : Cx p s m args meth c D tys A nL cc own ret) (hCF : CF ad A s) {x : Int} (hx : txq x) {index : Nat} (hw : Cond.fieldLink own index "java/lang/String" "coder" "B" ∈ WS) (hd : decode cc pc = .ok (.getfield index, 3)) (kk : V p l e R s m args below meth c cells slots Q D A ly ids ad nL μ (pc + 3) lv (nu 0 :: st)) : V p l e R s m args below meth c cells slots Q D A ly ids ad nL μ pc lv (rf x :: st) := by
  intro ho hg H locs hP hD hS ls hl
  have h1 := (hCF.1.1 (x - 1000).toNat (by omega)).2.1
  have h2 := kk ho hg H locs hP hD hS ls hl
  rw [List.map_cons, vv_rf, rv_at (by omega), show x.toNat = 1000 + (x - 1000).toNat by omega]
  exact vk_getf C.1 C.2.1 h1 hS C.2.2.2.1 (C.2.2.2.2.1 _ hw) (fun _ h => h) hd h2
theorem r_strL (C : Cx p s m args meth c D tys A nL cc own ret) (hCF : CF ad A s) {y : Int} (hy : tbq y) (hd : decode cc pc = .ok (.arraylength, 1)) (kk : V p l e R s m args below meth c cells slots Q D A ly ids ad nL μ (pc + 1) lv (nu (slen y) :: st)) : V p l e R s m args below meth c cells slots Q D A ly ids ad nL μ pc lv (rf y :: st) := by
  intro ho hg H locs hP hD hS ls hl
  have h1 := (hCF.1.1 (y - 1020).toNat (by omega)).2.2.2
  rw [List.map_cons, vv_rf, rv_at (by omega), show y.toNat = 1020 + (y - 1020).toNat by omega]
  exact va_tlen (v := zI (slen y)) C.1 C.2.1 h1 hS rfl hd (kk ho hg H locs hP hD hS ls hl)
theorem r_strB (C : Cx p s m args meth c D tys A nL cc own ret) (hCF : CF ad A s) {y z : Int} (hy : tbq y) (hz : 0 ≤ z ∧ z < slen y) (hd : decode cc pc = .ok (.baload, 1)) (kk : V p l e R s m args below meth c cells slots Q D A ly ids ad nL μ (pc + 1) lv (nu (schr y z.toNat) :: st)) : V p l e R s m args below meth c cells slots Q D A ly ids ad nL μ pc lv (nu z :: rf y :: st) := by
  intro ho hg H locs hP hD hS ls hl
  have h1 := (hCF.1.1 (y - 1020).toNat (by omega)).2.2.2
  have hs := slen_b y
  have hzr : inR z := ⟨by omega, by omega⟩
  have hz2 : z < ((strLen.getD (y - 1020).toNat 0 : Nat) : Int) := hz.2
  rw [List.map_cons, List.map_cons, vv_rf, rv_at (by omega), show y.toNat = 1020 + (y - 1020).toNat by omega, vv_nu]
  refine va_tb C.1 C.2.1 h1 hS (zI_in hz.1 hz2 (by have : slen y = ((strLen.getD (y - 1020).toNat 0 : Nat) : Int) := rfl
                                                   omega)) rfl hd ?_
  have h2 := kk ho hg H locs hP hD hS ls hl
  rw [List.map_cons, vv_nu, schr, iv, zI_of] at h2
  rw [show (zI z).toNatClampNeg = z.toNat from zI_clamp hzr]
  exact h2
theorem r_gsC (C : Cx p s m args meth c D tys A nL cc own ret) (hCF : CF ad A s) {index : Nat} (hw : Cond.fieldLink own index "java/lang/String" "COMPACT_STRINGS" "Z" ∈ WS) (hd : decode cc pc = .ok (.getstatic index, 3)) (kk : V p l e R s m args below meth c cells slots Q D A ly ids ad nL μ (pc + 3) lv (nu 1 :: st)) : V p l e R s m args below meth c cells slots Q D A ly ids ad nL μ pc lv st := by
  intro ho hg H locs hP hD hS ls hl
  exact va_gets C.1 C.2.1 hCF.2.2.2.2.2.1 hS C.2.2.2.1 (C.2.2.2.2.1 _ hw) (fun _ h => h) hd (kk ho hg H locs hP hD hS ls hl)
theorem r_gsS (C : Cx p s m args meth c D tys A nL cc own ret) (hCF : CF ad A s) {index : Nat} (hw : Cond.fieldLink own index "jdk/internal/util/Preconditions" "SIOOBE_FORMATTER" "Ljava/util/function/BiFunction;" ∈ WS) (hd : decode cc pc = .ok (.getstatic index, 3)) (kk : ∀ y : Int, V p l e R s m args below meth c cells slots Q D A ly ids ad nL μ (pc + 3) lv (rf y :: st)) : V p l e R s m args below meth c cells slots Q D A ly ids ad nL μ pc lv st := by
  intro ho hg H locs hP hD hS ls hl
  rcases hCF.2.2.2.2.2.2 with h | h
  · have h2 := kk (-1) ho hg H locs hP hD hS ls hl
    rw [List.map_cons, vv_rf, rv_null (by decide)] at h2
    exact va_gets C.1 C.2.1 h hS C.2.2.2.1 (C.2.2.2.2.1 _ hw) (fun _ h => h) hd h2
  · exact va_gets C.1 C.2.1 h hS C.2.2.2.1 (C.2.2.2.2.1 _ hw) (fun _ h => h) hd (kk 1030 ho hg H locs hP hD hS ls hl)
theorem r_i2c (C : Cx p s m args meth c D tys A nL cc own ret) {a : Int} (hd : decode cc pc = .ok (.i2c, 1)) (k : V p l e R s m args below meth c cells slots Q D A ly ids ad nL μ (pc + 1) lv (nu (zi2c a) :: st)) : V p l e R s m args below meth c cells slots Q D A ly ids ad nL μ pc lv (nu a :: st) := by
  intro ho hg H locs hP hD hS ls hl
  refine lv_i2c C.1 C.2.1 hd rfl ?_
  have h9 := k ho hg H locs hP hD hS ls hl
  rw [List.map_cons, vv_nu, zi2c, iv, zI_of] at h9
  exact h9
theorem nar_char {r : Int} (h : 0 ≤ r ∧ r < 65536) : narrow .char (.int (zI r)) = .int (zI r) := by
  obtain ⟨k, rfl⟩ : ∃ k : Nat, r = (k : Int) := ⟨r.toNat, by omega⟩
  exact (pk_charN (q := k) (by omega)).1
theorem nar_byte {r : Int} (h : r = 0 ∨ r = 1) : narrow .byte (.int (zI r)) = .int (zI r) := by
  rcases h with rfl | rfl <;> rfl
theorem r_cret (C : Cx p s m args meth c D tys A nL cc own ret) {r : Int} (hr : ret = some .char) (hb : 0 ≤ r ∧ r < 65536) (hd : decode cc pc = .ok (.ireturn, 1)) : V p l e R s m args below meth c 0 0 (MQ below (aI D tys ly ids ad A r μ) args s 0 0 A) D A ly ids ad nL μ pc lv [nu r] := by
  intro ho hg H locs hP hD hS ls hl
  have hrr : inR r := ⟨by omega, by omega⟩
  exact W.zret (v := zI r) C.1 C.2.1 (C.2.2.2.2.2.2.2.1.trans hr) (nar_char hb) (fun t ht hW => ⟨⟨zI r, μ, rfl, ⟨⟨rfl, rfl⟩, hrr⟩, ⟨ho, hg, by rw [ht]; exact hP, va_K.moved hW.alike C.2.2.2.2.2.1, hD⟩⟩, hS.F ht⟩) hS.2.2 hd C.2.2.2.2.2.2.2.2.1
theorem r_bret (C : Cx p s m args meth c D tys A nL cc own ret) {r : Int} (hr : ret = some .byte) (hb : r = 0 ∨ r = 1) (hd : decode cc pc = .ok (.ireturn, 1)) : V p l e R s m args below meth c 0 0 (MQ below (aI D tys ly ids ad A r μ) args s 0 0 A) D A ly ids ad nL μ pc lv [nu r] := by
  intro ho hg H locs hP hD hS ls hl
  have hrr : inR r := by rcases hb with rfl | rfl <;> exact ⟨by decide, by decide⟩
  exact W.zret (v := zI r) C.1 C.2.1 (C.2.2.2.2.2.2.2.1.trans hr) (nar_byte hb) (fun t ht hW => ⟨⟨zI r, μ, rfl, ⟨⟨rfl, rfl⟩, hrr⟩, ⟨ho, hg, by rw [ht]; exact hP, va_K.moved hW.alike C.2.2.2.2.2.1, hD⟩⟩, hS.F ht⟩) hS.2.2 hd C.2.2.2.2.2.2.2.2.1
end VS
section VC
variable {p : Program} {l : Launch} {e : Env} {R : Room} {s : State} {m : MethodId} {args : Array Value} {below : List Frame} {meth : Method} {c : Code} {cells slots : Nat} {Q : State → Prop} {D : va_G} {tys : List (ClassId × FieldType)} {A : Nat → Prop} {ly : Lay} {ids : List Nat} {ad : Nat → Nat} {nL : Nat} {cc : ByteArray} {own : String} {ret : Option FieldType} {μ : Mem} {pc : Nat} {lv : LV} {st : List AV} {aq : AQ} {r : Int} {μ' : Mem}
theorem r_callVIs (C : Cx p s m args meth c D tys A nL cc own ret) (hCF : CF ad A s) {y : MethodName} {bytes : ByteArray} {mL index lev lev' : Nat} {ret2 : Option FieldType} {As : List AV} {x : Int} (hx : txq x) (hyc : y.cls = "java/lang/String") (hM : KK aI l D tys ly ids ad lev y bytes mL ret2 (rf x :: As) μ r μ') (hR : R = rmk lev') (hlev : lev + 1 ≤ lev') (hmL : mL ≤ 40) (hcs : cells + 0 ≤ (rmk lev').cells ∧ slots + 0 ≤ (rmk lev').slots) (hlk : Cond.methodLink own index y ∈ WS) (hcode : Cond.code y bytes mL ret2 ∈ WS) (hini : Cond.initialized y.cls ∈ WS) (hinst : Cond.instanceMethod y ∈ WS) (hsel : Cond.selects y.cls y y ∈ WS) (n : Nat) (hdd : y.cls ≠ "java/lang/invoke/MethodHandle" ∧ y.cls ≠ "java/lang/invoke/VarHandle" ∧ (parseMethodDescriptor y.desc).map (fun d => d.parameters.length) = some n) (hn : As.length = n) (hst8 : st.length ≤ 8) (hd : decode cc pc = .ok (.invokevirtual index, 3)) (kk : inR r → V p l e R s m args below meth c cells slots Q D A ly ids ad nL μ' (pc + 3) lv (nu r :: st)) : V p l e R s m args below meth c cells slots Q D A ly ids ad nL μ pc lv (As.reverse ++ rf x :: st) := by
  subst hR
  intro ho hg H locs hP hD hS ls hl
  have hts := C.2.2.2.2.1
  have hlR : (rmk lev).frames + 1 ≤ (rmk lev').frames ∧ 8 + (mL + 11) + (rmk lev).locals ≤ (rmk lev').locals := ⟨hlev, by show 8 + (mL + 11) + 60 * lev ≤ 60 * lev'; omega⟩
  have hFc : ∀ q, va_A (wld ly ids ad μ) H.size q → A q := fun q h => by
    rcases h with ⟨k, ee, h⟩ | h
    · exact hD.2 k (q, ee) h
    · exact C.2.2.2.2.2.2.1 q (Nat.le_trans hS.1 h)
  have hpre : ∀ U : State, U.heap = H → s.WarmedH U.vm → va_Pc ((rf x :: As).map (vv ad)) (PW D tys ly ids ad μ H.size) ((rf x :: As).map (vv ad)).toArray U := fun U hU hW => ⟨rfl, by rw [hU], ho, hg, by rw [hU]; exact hP, va_K.moved hW.alike C.2.2.2.2.2.1, hD.weaken (fun _ _ _ _ => trivial), NW.warm hW C.2.2.2.2.2.2.2.2.2, hCF.move hW (fun q h1 h2 => by rw [hU]; exact hS.2.1 q h1 h2) hFc⟩
  have hbl : FrameBlind (va_Pc ((rf x :: As).map (vv ad)) (PW D tys ly ids ad μ H.size)) := fun a U g mk q => by
    obtain ⟨q0, q1, q2, q3, q4, q5, q6, q7, q8⟩ := q
    exact ⟨q0, q1, q2, q3, q4, va_K.moved (u := U) (U := U.calling g mk a) (Vm.Alike.refl U.vm) q5, q6, fun w hw hn => va_Nw.same (u := U) (by cases w <;> first | rfl | (simp [nestW] at hn; done)) rfl (q7 w hw hn), CF.same q8⟩
  have h0 : 0 ≤ x := by omega
  have hrc := vk_recv hCF.1 (i := (x - 1000).toNat) (by omega) hS
  rw [show 1000 + (x - 1000).toNat = x.toNat by omega, ← hyc] at hrc
  have hstk : ((As.reverse ++ rf x :: st).map (vv ad)) = (As.map (vv ad)).reverse ++ .ref (ad x.toNat) :: st.map (vv ad) := by
    rw [List.map_append, List.map_reverse, List.map_cons, vv_rf, rv_at h0]
  have hre : (Value.ref (ad x.toNat) :: As.map (vv ad)) = (rf x :: As).map (vv ad) := by
    rw [List.map_cons, vv_rf, rv_at h0]
  rw [hstk]
  have hcz : cells + 0 ≤ (rmk lev').cells ∧ slots + 0 ≤ (rmk lev').slots := hcs
  refine va_calli (va_runV (As := As.map (vv ad)) (rest := st.map (vv ad)) (n := n) ⟨C.1, C.2.1, C.2.2.1, C.2.2.2.1, hts⟩ (hM H.size) ⟨callB_of n hts (WS_good hcode) rfl rfl rfl (hts _ hini) (hts _ hlk) hdd hlR, hts _ hinst, hts _ hsel⟩ ⟨hbl, hrc, fun U hU hW => by rw [hre]; exact hpre U hU hW⟩ rfl (by rw [List.length_map]; exact hn) hl.1 rfl (lv_room (by rw [List.map_map]; exact Nat.le_trans (Nat.le_of_eq (sum_cat ad st)) hst8)) hd ⟨hcz.1, hcz.2⟩) hS (fun q _ h => hFc q h) hFc (fun r0 u t H1 locs1 ht hvm hw hB hz1 hk1 hS1 => ?_)
  obtain ⟨⟨rfl, rfl⟩, hrr⟩ := hw
  obtain ⟨ho1, hg1, hP1, hK1, hD1⟩ := hB
  rw [ht] at hP1
  have K := kk hrr ho1 hg1 H1 locs1 hP1 (hD1.weaken (fun k q _ h => hFc q.1 h)) hS1 ls hl
  exact K
end VC
