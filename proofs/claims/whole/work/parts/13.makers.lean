/-! MAKERS -/
theorem nuP {z : Int} {P : Prop} (h : (nu z).1 = true) : P := by cases h
def okL (P : AV → Prop) : LV → Prop
  | [] => True
  | none :: l => okL P l
  | some v :: l => P v ∧ okL P l
theorem okL_mem {P : AV → Prop} : ∀ {lv : LV}, okL P lv → ∀ v, some v ∈ lv → P v
  | [], _, v, hv => absurd hv List.not_mem_nil
  | none :: l, h, v, hv => okL_mem (lv := l) h v (by simpa using hv)
  | some w :: l, h, v, hv => by
    rcases List.mem_cons.mp hv with e | e
    · cases e
      exact h.1
    · exact okL_mem h.2 v e
theorem up90 {μ μ1 : Mem} {o k : Nat} {v : Int} (h : μ1 = up μ o k v) (ho : o ≠ 90) : μ1 90 = μ 90 := by
  rw [h]
  exact up_ne (Ne.symm ho)
section VM
variable {p : Program} {l : Launch} {e : Env} {R : Room} {s : State} {m : MethodId} {args : Array Value} {below : List Frame} {meth : Method} {c : Code} {cells slots : Nat} {Q : State → Prop} {D : va_G} {tys : List (ClassId × FieldType)} {A : Nat → Prop} {ly : Lay} {ids : List Nat} {ad : Nat → Nat} {nL : Nat} {cc : ByteArray} {own : String} {ret : Option FieldType} {μ : Mem} {pc : Nat} {lv : LV} {st : List AV}
theorem r_aastG {cy : Nat → ClassId} (C : Cx p s m args meth c D (tyl cy) A nL cc own ret) {x z v : Int} (o : Nat) (h0 : 0 ≤ x) (hxo : x.toNat = o) (hm : gho ids μ → o ∈ ids) (h90 : o ≠ 90) {n : Nat} (hly : ∀ f, lay cy ad o f = ceR ad (cy 3) n f) (hq : gaq μ v) (hz : 0 ≤ z ∧ z < (n : Int)) (hn : n < 2147483648) (hd : decode cc pc = .ok (.aastore, 1)) (kk : ∀ μ1 : Mem, μ1 = up μ o z.toNat v → V p l e R s m args below meth c cells slots Q D A (lay cy) ids ad nL μ1 (pc + 1) lv st) : V p l e R s m args below meth c cells slots Q D A (lay cy) ids ad nL μ pc lv (rf v :: nu z :: rf x :: st) := by
  subst hxo
  intro ho hg H locs hP hD hS ls hl
  obtain ⟨q0, hq0, hi⟩ := wld_get (ly := lay cy) (ad := ad) (μ := μ) (hm hg)
  obtain ⟨qk, hqk, -⟩ := wld_get (ly := lay cy) (ad := ad) (μ := μ) (ga_m hq hg)
  rw [hly] at hq0
  rw [ly_ga cy ad hq] at hqk
  rw [List.map_cons, List.map_cons, List.map_cons, vv_rf, vv_rf, rv_at h0, rv_at (ga_0 hq), vv_nu]
  have hzr : inR z := ⟨by omega, by omega⟩
  refine va_astq (r := (RX0, TX0, 5)) C.1 C.2.1 C.2.2.2.2.2.1 hP hD hS q0 3 qk 0 hq0 rfl hqk rfl (zI_in hz.1 hz.2 hn) hd (fun H1 locs1 hP1 hD1 hS1 => ?_)
  have hsome : some (ad v.toNat) = ptr ad v := by
    unfold ptr
    rw [if_neg (by omega)]
  rw [zI_clamp hzr, hsome, ceR_up, wld_set hD hi (hly _)] at hP1 hD1
  exact kk _ rfl (ok_up ho ⟨by omega, by omega⟩) (gho_up hg h90) H1 locs1 hP1 hD1 hS1 ls hl
end VM
def f_X4_init (μ : Mem) (x0 a1 a2 : Int) : Option (Int × Mem) := if stq μ x0 then lm (up μ x0.toNat 2 0) fun μ2 => if stq μ2 x0 then lm (up μ2 x0.toNat 3 (-1)) fun μ6 => if stq μ6 x0 then lm (up μ6 x0.toNat 4 (-1)) fun μ10 => if stq μ10 x0 then lm (up μ10 x0.toNat 5 (-1)) fun μ14 => if stq μ14 x0 then lm (up μ14 x0.toNat 0 a1) fun μ18 => if stq μ18 x0 then lm (up μ18 x0.toNat 1 a2) fun μ22 => some (0, μ22) else none else none else none else none else none else none
theorem X4_init_90 {μ μ1 : Mem} {x0 a1 a2 r : Int} (hf : f_X4_init μ x0 a1 a2 = some (r, μ1)) : μ1 90 = μ 90 := by
  unfold f_X4_init at hf
  obtain ⟨g0, hf⟩ := of_g hf
  have h9 : 90 ≠ x0.toNat := Ne.symm (st_9 g0)
  replace hf := of_lm hf rfl
  obtain ⟨-, hf⟩ := of_g hf
  replace hf := of_lm hf rfl
  obtain ⟨-, hf⟩ := of_g hf
  replace hf := of_lm hf rfl
  obtain ⟨-, hf⟩ := of_g hf
  replace hf := of_lm hf rfl
  obtain ⟨-, hf⟩ := of_g hf
  replace hf := of_lm hf rfl
  obtain ⟨-, hf⟩ := of_g hf
  replace hf := of_lm hf rfl
  obtain ⟨-, rfl⟩ := of_ret hf
  rw [up_ne h9, up_ne h9, up_ne h9, up_ne h9, up_ne h9, up_ne h9]
set_option maxHeartbeats 4000000 in
set_option maxRecDepth 100000 in
theorem c_X4_init {l : Launch} {D : va_G} {cy : Nat → ClassId} {ids : List Nat} {ad : Nat → Nat} {μ μ' : Mem} {x0 a1 a2 r : Int} (h1 : inR a1) (h2 : inR a2) (hf : f_X4_init μ x0 a1 a2 = some (r, μ')) : KK aV l D (tyl cy) (lay cy) ids ad 2 yX4_init cX4_init 3 none [rf x0, nu a1, nu a2] μ r μ' := by
  refine KK.ofI (by decide +kernel) (Nat.le_of_ble_eq_true rfl) ?_
  intro p e s m args below meth c A C hCF hmn
  unfold f_X4_init at hf
  refine V_in (fun ho0 _ => ?_)
  refine r_aload_n C 0 rfl rfl dX4_init_0 ?_
  obtain ⟨g1, hf⟩ := of_g hf
  refine r_objI C (st_0 g1) tw_547 tw_25 tw_26 (by decide) (Nat.le_of_ble_eq_true rfl) dX4_init_1 ?_
  refine r_aload_n C 0 rfl rfl dX4_init_4 ?_
  refine r_iconst C dX4_init_5 ?_
  refine r_putf C _ (st_0 g1) rfl (st_m g1) (st_9 g1) (ly_st cy _ g1 _) 2 (ly_st cy _ g1 _) rfl (Nat.le_of_ble_eq_true rfl) (inR_lit rfl) rfl in_X4 tyX4 tyX4_ok nmX4 (by decide) tw_555 rfl rfl dX4_init_6 (fun μ2 hμ4 => ?_)
  replace hf := of_lm hf hμ4
  refine V_in (fun ho3 _ => ?_)
  refine r_aload_n C 0 rfl rfl dX4_init_9 ?_
  refine r_iconst C dX4_init_10 ?_
  obtain ⟨g5, hf⟩ := of_g hf
  refine r_putf C _ (st_0 g5) rfl (st_m g5) (st_9 g5) (ly_st cy _ g5 _) 3 (ly_st cy _ g5 _) rfl (Nat.le_of_ble_eq_true rfl) (inR_lit rfl) rfl in_X4 tyX4 tyX4_ok nmX4 (by decide) tw_560 rfl rfl dX4_init_11 (fun μ6 hμ8 => ?_)
  replace hf := of_lm hf hμ8
  refine V_in (fun ho7 _ => ?_)
  refine r_aload_n C 0 rfl rfl dX4_init_14 ?_
  refine r_iconst C dX4_init_15 ?_
  obtain ⟨g9, hf⟩ := of_g hf
  refine r_putf C _ (st_0 g9) rfl (st_m g9) (st_9 g9) (ly_st cy _ g9 _) 4 (ly_st cy _ g9 _) rfl (Nat.le_of_ble_eq_true rfl) (inR_lit rfl) rfl in_X4 tyX4 tyX4_ok nmX4 (by decide) tw_564 rfl rfl dX4_init_16 (fun μ10 hμ12 => ?_)
  replace hf := of_lm hf hμ12
  refine V_in (fun ho11 _ => ?_)
  refine r_aload_n C 0 rfl rfl dX4_init_19 ?_
  refine r_iconst C dX4_init_20 ?_
  obtain ⟨g13, hf⟩ := of_g hf
  refine r_putf C _ (st_0 g13) rfl (st_m g13) (st_9 g13) (ly_st cy _ g13 _) 5 (ly_st cy _ g13 _) rfl (Nat.le_of_ble_eq_true rfl) (inR_lit rfl) rfl in_X4 tyX4 tyX4_ok nmX4 (by decide) tw_567 rfl rfl dX4_init_21 (fun μ14 hμ16 => ?_)
  replace hf := of_lm hf hμ16
  refine V_in (fun ho15 _ => ?_)
  refine r_aload_n C 0 rfl rfl dX4_init_24 ?_
  refine r_iload_n C 1 rfl rfl dX4_init_25 ?_
  obtain ⟨g17, hf⟩ := of_g hf
  refine r_putfF C hmn _ (st_0 g17) rfl (st_m g17) (st_9 g17) (ly_st cy _ g17 _) 0 (ly_st cy _ g17 _) rfl (Nat.le_of_ble_eq_true rfl) h1 rfl in_X4 tyX4 tyX4_ok nmX4 (by decide) tw_548 rfl rfl rfl dX4_init_26 (fun μ18 hμ20 => ?_)
  replace hf := of_lm hf hμ20
  refine V_in (fun ho19 _ => ?_)
  refine r_aload_n C 0 rfl rfl dX4_init_29 ?_
  refine r_iload_n C 2 rfl rfl dX4_init_30 ?_
  obtain ⟨g21, hf⟩ := of_g hf
  refine r_putfF C hmn _ (st_0 g21) rfl (st_m g21) (st_9 g21) (ly_st cy _ g21 _) 1 (ly_st cy _ g21 _) rfl (Nat.le_of_ble_eq_true rfl) h2 rfl in_X4 tyX4 tyX4_ok nmX4 (by decide) tw_551 rfl rfl rfl dX4_init_31 (fun μ22 hμ24 => ?_)
  replace hf := of_lm hf hμ24
  refine V_in (fun ho23 _ => ?_)
  obtain ⟨-, rfl⟩ := of_ret hf
  exact r_vret C rfl dX4_init_34
def f_X0_init (μ : Mem) (x0 a1 : Int) : Option (Int × Mem) := if gaq μ x0 then lm (up μ x0.toNat 1 (-1)) fun μ2 => if gaq μ2 x0 then lm (up μ2 x0.toNat 2 0) fun μ6 => if gaq μ6 x0 then lm (up μ6 x0.toNat 3 0) fun μ10 => if gaq μ10 x0 then lm (up μ10 x0.toNat 4 0) fun μ14 => if gaq μ14 x0 then lm (up μ14 x0.toNat 0 a1) fun μ18 => some (0, μ18) else none else none else none else none else none
theorem X0_init_90 {μ μ1 : Mem} {x0 a1 r : Int} (hf : f_X0_init μ x0 a1 = some (r, μ1)) : μ1 90 = μ 90 := by
  unfold f_X0_init at hf
  obtain ⟨g0, hf⟩ := of_g hf
  have h9 : 90 ≠ x0.toNat := Ne.symm (ga_9 g0)
  replace hf := of_lm hf rfl
  obtain ⟨-, hf⟩ := of_g hf
  replace hf := of_lm hf rfl
  obtain ⟨-, hf⟩ := of_g hf
  replace hf := of_lm hf rfl
  obtain ⟨-, hf⟩ := of_g hf
  replace hf := of_lm hf rfl
  obtain ⟨-, hf⟩ := of_g hf
  replace hf := of_lm hf rfl
  obtain ⟨-, rfl⟩ := of_ret hf
  rw [up_ne h9, up_ne h9, up_ne h9, up_ne h9, up_ne h9]
set_option maxHeartbeats 4000000 in
set_option maxRecDepth 100000 in
theorem c_X0_init {l : Launch} {D : va_G} {cy : Nat → ClassId} {ids : List Nat} {ad : Nat → Nat} {μ μ' : Mem} {x0 a1 r : Int} (h1 : inR a1) (hf : f_X0_init μ x0 a1 = some (r, μ')) : KK aV l D (tyl cy) (lay cy) ids ad 2 yX0_init cX0_init 2 none [rf x0, nu a1] μ r μ' := by
  refine KK.ofI (by decide +kernel) (Nat.le_of_ble_eq_true rfl) ?_
  intro p e s m args below meth c A C hCF hmn
  unfold f_X0_init at hf
  refine V_in (fun ho0 _ => ?_)
  refine r_aload_n C 0 rfl rfl dX0_init_0 ?_
  obtain ⟨g1, hf⟩ := of_g hf
  refine r_objI C (ga_0 g1) tw_338 tw_25 tw_26 (by decide) (Nat.le_of_ble_eq_true rfl) dX0_init_1 ?_
  refine r_aload_n C 0 rfl rfl dX0_init_4 ?_
  refine r_iconst C dX0_init_5 ?_
  refine r_putf C _ (ga_0 g1) rfl (ga_m g1) (ga_9 g1) (ly_ga cy _ g1 _) 1 (ly_ga cy _ g1 _) rfl (Nat.le_of_ble_eq_true rfl) (inR_lit rfl) rfl in_X0 tyX0 tyX0_ok nmX0 (by decide) tw_343 rfl rfl dX0_init_6 (fun μ2 hμ4 => ?_)
  replace hf := of_lm hf hμ4
  refine V_in (fun ho3 _ => ?_)
  refine r_aload_n C 0 rfl rfl dX0_init_9 ?_
  refine r_iconst C dX0_init_10 ?_
  obtain ⟨g5, hf⟩ := of_g hf
  refine r_putf C _ (ga_0 g5) rfl (ga_m g5) (ga_9 g5) (ly_ga cy _ g5 _) 2 (ly_ga cy _ g5 _) rfl (Nat.le_of_ble_eq_true rfl) (inR_lit rfl) rfl in_X0 tyX0 tyX0_ok nmX0 (by decide) tw_347 rfl rfl dX0_init_11 (fun μ6 hμ8 => ?_)
  replace hf := of_lm hf hμ8
  refine V_in (fun ho7 _ => ?_)
  refine r_aload_n C 0 rfl rfl dX0_init_14 ?_
  refine r_iconst C dX0_init_15 ?_
  obtain ⟨g9, hf⟩ := of_g hf
  refine r_putf C _ (ga_0 g9) rfl (ga_m g9) (ga_9 g9) (ly_ga cy _ g9 _) 3 (ly_ga cy _ g9 _) rfl (Nat.le_of_ble_eq_true rfl) (inR_lit rfl) rfl in_X0 tyX0 tyX0_ok nmX0 (by decide) tw_350 rfl rfl dX0_init_16 (fun μ10 hμ12 => ?_)
  replace hf := of_lm hf hμ12
  refine V_in (fun ho11 _ => ?_)
  refine r_aload_n C 0 rfl rfl dX0_init_19 ?_
  refine r_iconst C dX0_init_20 ?_
  obtain ⟨g13, hf⟩ := of_g hf
  refine r_putf C _ (ga_0 g13) rfl (ga_m g13) (ga_9 g13) (ly_ga cy _ g13 _) 4 (ly_ga cy _ g13 _) rfl (Nat.le_of_ble_eq_true rfl) (inR_lit rfl) rfl in_X0 tyX0 tyX0_ok nmX0 (by decide) tw_353 rfl rfl dX0_init_21 (fun μ14 hμ16 => ?_)
  replace hf := of_lm hf hμ16
  refine V_in (fun ho15 _ => ?_)
  refine r_aload_n C 0 rfl rfl dX0_init_24 ?_
  refine r_iload_n C 1 rfl rfl dX0_init_25 ?_
  obtain ⟨g17, hf⟩ := of_g hf
  refine r_putfF C hmn _ (ga_0 g17) rfl (ga_m g17) (ga_9 g17) (ly_ga cy _ g17 _) 0 (ly_ga cy _ g17 _) rfl (Nat.le_of_ble_eq_true rfl) h1 rfl in_X0 tyX0 tyX0_ok nmX0 (by decide) tw_339 rfl rfl rfl dX0_init_26 (fun μ18 hμ20 => ?_)
  replace hf := of_lm hf hμ20
  refine V_in (fun ho19 _ => ?_)
  obtain ⟨-, rfl⟩ := of_ret hf
  exact r_vret C rfl dX0_init_29
def f_X3_addStone (μ : Mem) (a1 a2 : Int) : Option (Int × Mem) := if 30 ≤ (μ 6 6) then (some ((-1), μ)) else (if a1 < 1 then (some ((-1), μ)) else (if a1 ≤ 99 then (if a2 < 0 then (some ((-1), μ)) else (if a2 < 10 then (lm (newS μ) fun μ6 => if stq μ6 (100 + μ 90 0) then bd (f_X4_init μ6 (100 + μ 90 0) a1 a2) fun r10 μ11 => if 0 ≤ (μ 6 6) ∧ (μ 6 6) < 30 then if stq μ11 (100 + μ 90 0) then lm (up μ11 20 (μ 6 6).toNat (100 + μ 90 0)) fun μ16 => if inR ((μ16 6 6) + 1) then lm (up μ16 6 6 ((μ16 6 6) + 1)) fun μ20 => some (μ16 6 6, μ20) else none else none else none else none) else (some ((-1), μ)))) else (some ((-1), μ))))
set_option maxHeartbeats 4000000 in
set_option maxRecDepth 100000 in
theorem c_X3_addStone {l : Launch} {D : va_G} {cy : Nat → ClassId} {ids : List Nat} {ad : Nat → Nat} {μ μ1 : Mem} {a1 a2 r : Int} (hok : idsOK ids μ) (hb : 0 ≤ μ 90 0 ∧ μ 90 0 < 100 ∧ 0 ≤ μ 90 1 ∧ μ 90 1 < 100) (hrf : ∀ a, refA a = true → ∀ j, μ a j < 0 ∨ (μ a j).toNat ≠ 100 + (μ 90 0).toNat) (h1 : inR a1) (h2 : inR a2) (hf : f_X3_addStone μ a1 a2 = some (r, μ1)) : KN l D (tyl cy) (lay cy) ids ad 4 1 6 yX3_addStone cX3_addStone 3 (some .int) [rf 6, nu a1, nu a2] μ r μ1 := by
  refine KN.of (by decide) (Nat.le_of_ble_eq_true rfl) ?_
  intro p e s m args below meth c A C hCF
  unfold f_X3_addStone at hf
  have hfresh : 100 + (μ 90 0).toNat ∉ ids := fun h => by
    have h1 := (hok _).mp h
    unfold bas at h1
    rw [Bool.or_eq_true, Bool.and_eq_true, Nat.blt_eq, Nat.blt_eq, Nat.ble_eq] at h1
    omega
  refine V_in (fun ho0 _ => ?_)
  refine r_aload_n C 0 rfl rfl dX3_addStone_0 ?_
  refine r_getf C 6 (by decide) rfl (fx_m rfl) (ly_6 cy _ _) rfl in_X3 6 (by decide) tw_155 (v := nu (μ 6 6)) rfl dX3_addStone_1 ?_
  refine r_bipush C dX3_addStone_4 rfl ?_
  refine r_icmp_ge C 20 (ho0 _ _) (inR_lit rfl) rfl dX3_addStone_6 (fun c1 => ?_) (fun c1 => ?_)
  · replace hf := if_t hf c1
    refine r_iconst C dX3_addStone_20 ?_
    obtain ⟨rfl, rfl⟩ := of_ret hf
    exact r_iretN C rfl (inR_lit rfl) ⟨hok, fun _ _ => rfl, fun _ _ => rfl⟩ (by decide) (by decide) dX3_addStone_21
  · replace hf := if_f hf c1
    refine r_iload_n C 1 rfl rfl dX3_addStone_9 ?_
    refine r_iconst C dX3_addStone_10 ?_
    refine r_icmp_lt C 20 h1 (inR_lit rfl) rfl dX3_addStone_11 (fun c2 => ?_) (fun c2 => ?_)
    · replace hf := if_t hf c2
      refine r_iconst C dX3_addStone_20 ?_
      obtain ⟨rfl, rfl⟩ := of_ret hf
      exact r_iretN C rfl (inR_lit rfl) ⟨hok, fun _ _ => rfl, fun _ _ => rfl⟩ (by decide) (by decide) dX3_addStone_21
    · replace hf := if_f hf c2
      refine r_iload_n C 1 rfl rfl dX3_addStone_14 ?_
      refine r_bipush C dX3_addStone_15 rfl ?_
      refine r_icmp_le C 22 h1 (inR_lit rfl) rfl dX3_addStone_17 (fun c3 => ?_) (fun c3 => ?_)
      · replace hf := if_t hf c3
        refine r_iload_n C 2 rfl rfl dX3_addStone_22 ?_
        refine r_if_lt C 32 h2 rfl dX3_addStone_23 (fun c4 => ?_) (fun c4 => ?_)
        · replace hf := if_t hf c4
          refine r_iconst C dX3_addStone_32 ?_
          obtain ⟨rfl, rfl⟩ := of_ret hf
          exact r_iretN C rfl (inR_lit rfl) ⟨hok, fun _ _ => rfl, fun _ _ => rfl⟩ (by decide) (by decide) dX3_addStone_33
        · replace hf := if_f hf c4
          refine r_iload_n C 2 rfl rfl dX3_addStone_26 ?_
          refine r_bipush C dX3_addStone_27 rfl ?_
          refine r_icmp_lt C 34 h2 (inR_lit rfl) rfl dX3_addStone_29 (fun c5 => ?_) (fun c5 => ?_)
          · replace hf := if_t hf c5
            refine r_aload_n C 0 rfl rfl dX3_addStone_34 ?_
            refine r_getf C 6 (by decide) rfl (fx_m rfl) (ly_6 cy _ _) rfl in_X3 4 (by decide) tw_152 (v := rf 20) rfl dX3_addStone_35 ?_
            refine r_aload_n C 0 rfl rfl dX3_addStone_38 ?_
            refine r_getf C 6 (by decide) rfl (fx_m rfl) (ly_6 cy _ _) rfl in_X3 6 (by decide) tw_155 (v := nu (μ 6 6)) rfl dX3_addStone_39 ?_
            refine r_newS C tw_146 tw_543 tw_17 hok hb hrf (okL_mem (lv := [some (rf 6), some (nu a1), some (nu a2)]) (And.intro (fun _ => smallref (by decide) (by decide)) (And.intro nuP (And.intro nuP trivial)))) (List.forall_mem_cons.mpr ⟨nuP, List.forall_mem_cons.mpr ⟨(fun _ => smallref (by decide) (by decide)), fun _ h => absurd h List.not_mem_nil⟩⟩) (by decide) (by decide) dX3_addStone_42 (fun q μ6 hμ8 hok1 hcf => ?_)
            replace hf := of_lm hf hμ8
            have hCF := hcf hCF
            refine V_in (fun ho7 _ => ?_)
            refine r_dup C dX3_addStone_45 ?_
            refine r_iload_n C 1 rfl rfl dX3_addStone_46 ?_
            refine r_iload_n C 2 rfl rfl dX3_addStone_47 ?_
            obtain ⟨g9, hf⟩ := of_g hf
            obtain ⟨r10, μ11, hc12, hf⟩ := of_bd hf
            refine g_callIV C hCF (As := [nu a1, nu a2]) _ (st_0 g9) rfl (st_m g9) (c_X4_init h1 h2 hc12) ⟨by decide, by decide⟩ ⟨by decide, by decide⟩ tw_544 tw_546 tw_17 tw_545 rfl 2 (by decide) rfl (Nat.le_of_ble_eq_true rfl) dX3_addStone_48 ?_
            refine V_in (fun ho13 _ => ?_)
            obtain ⟨g14, hf⟩ := of_g hf
            obtain ⟨g15, hf⟩ := of_g hf
            refine r_aastS C 20 (by decide) rfl (fx_m rfl) (by decide) (n := 30) (fun f => ly_20 cy _ f) g15 g14 (by decide) dX3_addStone_51 (fun μ16 hμ18 => ?_)
            replace hf := of_lm hf hμ18
            refine V_in (fun ho17 _ => ?_)
            refine r_aload_n C 0 rfl rfl dX3_addStone_52 ?_
            refine r_dup C dX3_addStone_53 ?_
            refine r_getf C 6 (by decide) rfl (fx_m rfl) (ly_6 cy _ _) rfl in_X3 6 (by decide) tw_155 (v := nu (μ16 6 6)) rfl dX3_addStone_54 ?_
            refine r_dup_x1 C dX3_addStone_57 ?_
            refine r_iconst C dX3_addStone_58 ?_
            refine r_iadd C dX3_addStone_59 ?_
            obtain ⟨g19, hf⟩ := of_g hf
            refine r_putf C 6 (by decide) rfl (fx_m rfl) (by decide) (ly_6 cy _ _) 6 (ly_6 cy _ _) rfl (Nat.le_of_ble_eq_true rfl) g19 rfl in_X3 tyX3 tyX3_ok nmX3 (by decide) tw_155 rfl rfl dX3_addStone_60 (fun μ20 hμ22 => ?_)
            replace hf := of_lm hf hμ22
            refine V_in (fun ho21 _ => ?_)
            obtain ⟨rfl, rfl⟩ := of_ret hf
            exact r_iretN C rfl (ho17 _ _) ⟨idsOK_90 ((up90 hμ22 (by decide)).trans ((up90 hμ18 (by decide)).trans ((X4_init_90 hc12).trans rfl))) hok1, fun a ha => adu_ne (fun h9 => hfresh (h9 ▸ ha)), fun a ha => adu_ne (by omega)⟩ (by decide) (by decide) dX3_addStone_63
          · replace hf := if_f hf c5
            refine r_iconst C dX3_addStone_32 ?_
            obtain ⟨rfl, rfl⟩ := of_ret hf
            exact r_iretN C rfl (inR_lit rfl) ⟨hok, fun _ _ => rfl, fun _ _ => rfl⟩ (by decide) (by decide) dX3_addStone_33
      · replace hf := if_f hf c3
        refine r_iconst C dX3_addStone_20 ?_
        obtain ⟨rfl, rfl⟩ := of_ret hf
        exact r_iretN C rfl (inR_lit rfl) ⟨hok, fun _ _ => rfl, fun _ _ => rfl⟩ (by decide) (by decide) dX3_addStone_21
def f_X3_addGang (μ : Mem) (a1 : Int) : Option (Int × Mem) := if 6 ≤ (μ 6 5) then (some ((-1), μ)) else (if a1 < 1 then (some ((-1), μ)) else (if a1 ≤ 200 then (lm (newG μ) fun μ4 => if gaq μ4 (200 + μ 90 1) then bd (f_X0_init μ4 (200 + μ 90 1) a1) fun r8 μ9 => if 0 ≤ (μ 6 5) ∧ (μ 6 5) < 6 then if gaq μ9 (200 + μ 90 1) then lm (up μ9 19 (μ 6 5).toNat (200 + μ 90 1)) fun μ14 => if inR ((μ14 6 7) + a1) then lm (up μ14 6 7 ((μ14 6 7) + a1)) fun μ18 => if inR ((μ18 6 5) + 1) then lm (up μ18 6 5 ((μ18 6 5) + 1)) fun μ22 => some (μ18 6 5, μ22) else none else none else none else none else none) else (some ((-1), μ))))
set_option maxHeartbeats 4000000 in
set_option maxRecDepth 100000 in
theorem c_X3_addGang {l : Launch} {D : va_G} {cy : Nat → ClassId} {ids : List Nat} {ad : Nat → Nat} {μ μ1 : Mem} {a1 r : Int} (hok : idsOK ids μ) (hb : 0 ≤ μ 90 0 ∧ μ 90 0 < 100 ∧ 0 ≤ μ 90 1 ∧ μ 90 1 < 100) (hrf : ∀ a, refA a = true → ∀ j, μ a j < 0 ∨ (μ a j).toNat ≠ 200 + (μ 90 1).toNat) (h1 : inR a1) (hf : f_X3_addGang μ a1 = some (r, μ1)) : KN l D (tyl cy) (lay cy) ids ad 4 1 5 yX3_addGang cX3_addGang 2 (some .int) [rf 6, nu a1] μ r μ1 := by
  refine KN.of (by decide) (Nat.le_of_ble_eq_true rfl) ?_
  intro p e s m args below meth c A C hCF
  unfold f_X3_addGang at hf
  have hfresh : 200 + (μ 90 1).toNat ∉ ids := fun h => by
    have h1 := (hok _).mp h
    unfold bas at h1
    rw [Bool.or_eq_true, Bool.and_eq_true, Nat.blt_eq, Nat.blt_eq, Nat.ble_eq] at h1
    omega
  refine V_in (fun ho0 _ => ?_)
  refine r_aload_n C 0 rfl rfl dX3_addGang_0 ?_
  refine r_getf C 6 (by decide) rfl (fx_m rfl) (ly_6 cy _ _) rfl in_X3 5 (by decide) tw_153 (v := nu (μ 6 5)) rfl dX3_addGang_1 ?_
  refine r_bipush C dX3_addGang_4 rfl ?_
  refine r_icmp_ge C 21 (ho0 _ _) (inR_lit rfl) rfl dX3_addGang_6 (fun c1 => ?_) (fun c1 => ?_)
  · replace hf := if_t hf c1
    refine r_iconst C dX3_addGang_21 ?_
    obtain ⟨rfl, rfl⟩ := of_ret hf
    exact r_iretN C rfl (inR_lit rfl) ⟨hok, fun _ _ => rfl, fun _ _ => rfl⟩ (by decide) (by decide) dX3_addGang_22
  · replace hf := if_f hf c1
    refine r_iload_n C 1 rfl rfl dX3_addGang_9 ?_
    refine r_iconst C dX3_addGang_10 ?_
    refine r_icmp_lt C 21 h1 (inR_lit rfl) rfl dX3_addGang_11 (fun c2 => ?_) (fun c2 => ?_)
    · replace hf := if_t hf c2
      refine r_iconst C dX3_addGang_21 ?_
      obtain ⟨rfl, rfl⟩ := of_ret hf
      exact r_iretN C rfl (inR_lit rfl) ⟨hok, fun _ _ => rfl, fun _ _ => rfl⟩ (by decide) (by decide) dX3_addGang_22
    · replace hf := if_f hf c2
      refine r_iload_n C 1 rfl rfl dX3_addGang_14 ?_
      refine r_sipush C dX3_addGang_15 rfl ?_
      refine r_icmp_le C 23 h1 (inR_lit rfl) rfl dX3_addGang_18 (fun c3 => ?_) (fun c3 => ?_)
      · replace hf := if_t hf c3
        refine r_aload_n C 0 rfl rfl dX3_addGang_23 ?_
        refine r_getf C 6 (by decide) rfl (fx_m rfl) (ly_6 cy _ _) rfl in_X3 3 (by decide) tw_151 (v := rf 19) rfl dX3_addGang_24 ?_
        refine r_aload_n C 0 rfl rfl dX3_addGang_27 ?_
        refine r_getf C 6 (by decide) rfl (fx_m rfl) (ly_6 cy _ _) rfl in_X3 5 (by decide) tw_153 (v := nu (μ 6 5)) rfl dX3_addGang_28 ?_
        refine r_newG C tw_144 tw_334 tw_11 hok hb hrf (okL_mem (lv := [some (rf 6), some (nu a1)]) (And.intro (fun _ => smallref (by decide) (by decide)) (And.intro nuP trivial))) (List.forall_mem_cons.mpr ⟨nuP, List.forall_mem_cons.mpr ⟨(fun _ => smallref (by decide) (by decide)), fun _ h => absurd h List.not_mem_nil⟩⟩) (by decide) (by decide) dX3_addGang_31 (fun q μ4 hμ6 hok1 hcf => ?_)
        replace hf := of_lm hf hμ6
        have hCF := hcf hCF
        refine V_in (fun ho5 _ => ?_)
        refine r_dup C dX3_addGang_34 ?_
        refine r_iload_n C 1 rfl rfl dX3_addGang_35 ?_
        obtain ⟨g7, hf⟩ := of_g hf
        obtain ⟨r8, μ9, hc10, hf⟩ := of_bd hf
        refine g_callIV C hCF (As := [nu a1]) _ (ga_0 g7) rfl (ga_m g7) (c_X0_init h1 hc10) ⟨by decide, by decide⟩ ⟨by decide, by decide⟩ tw_335 tw_337 tw_11 tw_336 rfl 1 (by decide) rfl (Nat.le_of_ble_eq_true rfl) dX3_addGang_36 ?_
        refine V_in (fun ho11 _ => ?_)
        obtain ⟨g12, hf⟩ := of_g hf
        obtain ⟨g13, hf⟩ := of_g hf
        refine r_aastG C 19 (by decide) rfl (fx_m rfl) (by decide) (n := 6) (fun f => ly_19 cy _ f) g13 g12 (by decide) dX3_addGang_39 (fun μ14 hμ16 => ?_)
        replace hf := of_lm hf hμ16
        refine V_in (fun ho15 _ => ?_)
        refine r_aload_n C 0 rfl rfl dX3_addGang_40 ?_
        refine r_dup C dX3_addGang_41 ?_
        refine r_getf C 6 (by decide) rfl (fx_m rfl) (ly_6 cy _ _) rfl in_X3 7 (by decide) tw_158 (v := nu (μ14 6 7)) rfl dX3_addGang_42 ?_
        refine r_iload_n C 1 rfl rfl dX3_addGang_45 ?_
        refine r_iadd C dX3_addGang_46 ?_
        obtain ⟨g17, hf⟩ := of_g hf
        refine r_putf C 6 (by decide) rfl (fx_m rfl) (by decide) (ly_6 cy _ _) 7 (ly_6 cy _ _) rfl (Nat.le_of_ble_eq_true rfl) g17 rfl in_X3 tyX3 tyX3_ok nmX3 (by decide) tw_158 rfl rfl dX3_addGang_47 (fun μ18 hμ20 => ?_)
        replace hf := of_lm hf hμ20
        refine V_in (fun ho19 _ => ?_)
        refine r_aload_n C 0 rfl rfl dX3_addGang_50 ?_
        refine r_dup C dX3_addGang_51 ?_
        refine r_getf C 6 (by decide) rfl (fx_m rfl) (ly_6 cy _ _) rfl in_X3 5 (by decide) tw_153 (v := nu (μ18 6 5)) rfl dX3_addGang_52 ?_
        refine r_dup_x1 C dX3_addGang_55 ?_
        refine r_iconst C dX3_addGang_56 ?_
        refine r_iadd C dX3_addGang_57 ?_
        obtain ⟨g21, hf⟩ := of_g hf
        refine r_putf C 6 (by decide) rfl (fx_m rfl) (by decide) (ly_6 cy _ _) 5 (ly_6 cy _ _) rfl (Nat.le_of_ble_eq_true rfl) g21 rfl in_X3 tyX3 tyX3_ok nmX3 (by decide) tw_153 rfl rfl dX3_addGang_58 (fun μ22 hμ24 => ?_)
        replace hf := of_lm hf hμ24
        refine V_in (fun ho23 _ => ?_)
        obtain ⟨rfl, rfl⟩ := of_ret hf
        exact r_iretN C rfl (ho19 _ _) ⟨idsOK_90 ((up90 hμ24 (by decide)).trans ((up90 hμ20 (by decide)).trans ((up90 hμ16 (by decide)).trans ((X0_init_90 hc10).trans rfl)))) hok1, fun a ha => adu_ne (fun h9 => hfresh (h9 ▸ ha)), fun a ha => adu_ne (by omega)⟩ (by decide) (by decide) dX3_addGang_61
      · replace hf := if_f hf c3
        refine r_iconst C dX3_addGang_21 ?_
        obtain ⟨rfl, rfl⟩ := of_ret hf
        exact r_iretN C rfl (inR_lit rfl) ⟨hok, fun _ _ => rfl, fun _ _ => rfl⟩ (by decide) (by decide) dX3_addGang_22
def f_X10_stone (μ : Mem) (a1 a2 : Int) : Option (Int × Mem) := f_X3_addStone μ a1 a2
set_option maxHeartbeats 4000000 in
set_option maxRecDepth 100000 in
theorem c_X10_stone {l : Launch} {D : va_G} {cy : Nat → ClassId} {ids : List Nat} {ad : Nat → Nat} {μ μ1 : Mem} {a1 a2 r : Int} (hok : idsOK ids μ) (hb : 0 ≤ μ 90 0 ∧ μ 90 0 < 100 ∧ 0 ≤ μ 90 1 ∧ μ 90 1 < 100) (hrf : ∀ a, refA a = true → ∀ j, μ a j < 0 ∨ (μ a j).toNat ≠ 100 + (μ 90 0).toNat) (h1 : inR a1) (h2 : inR a2) (hf : f_X10_stone μ a1 a2 = some (r, μ1)) : KN l D (tyl cy) (lay cy) ids ad 6 1 6 yX10_stone cX10_stone 3 (some .int) [rf 0, nu a1, nu a2] μ r μ1 := by
  refine KN.of (by decide) (Nat.le_of_ble_eq_true rfl) ?_
  intro p e s m args below meth c A C hCF
  unfold f_X10_stone at hf
  refine r_aload_n C 0 rfl rfl dX10_stone_0 ?_
  refine r_getf C 0 (by decide) rfl (fx_m rfl) (ly_0 cy _ _) rfl in_X10 5 (by decide) tw_306 (v := rf 6) rfl dX10_stone_1 ?_
  refine r_iload_n C 1 rfl rfl dX10_stone_4 ?_
  refine r_iload_n C 2 rfl rfl dX10_stone_5 ?_
  refine g_callVN C hCF (As := [nu a1, nu a2]) 6 (by decide) rfl (fx_m rfl) (ly_6 cy _ _) rfl (c_X3_addStone hok hb hrf h1 h2 hf) ⟨by decide, by decide⟩ ⟨by decide, by decide⟩ tw_539 tw_542 tw_7 tw_540 tw_541 2 (by decide) rfl (Nat.le_of_ble_eq_true rfl) dX10_stone_6 (okL_mem (lv := [some (rf 0), some (nu a1), some (nu a2)]) (And.intro (fun _ => Or.inr (Or.inl ((hok _).mpr (Or.inl rfl)))) (And.intro nuP (And.intro nuP trivial)))) (by intro v hv; exact absurd hv List.not_mem_nil) (fun ids1 ad1 hx hr _ => ?_)
  exact r_iretN C rfl hr hx (by decide) (by decide) dX10_stone_9
def f_X10_gang (μ : Mem) (a1 : Int) : Option (Int × Mem) := f_X3_addGang μ a1
set_option maxHeartbeats 4000000 in
set_option maxRecDepth 100000 in
theorem c_X10_gang {l : Launch} {D : va_G} {cy : Nat → ClassId} {ids : List Nat} {ad : Nat → Nat} {μ μ1 : Mem} {a1 r : Int} (hok : idsOK ids μ) (hb : 0 ≤ μ 90 0 ∧ μ 90 0 < 100 ∧ 0 ≤ μ 90 1 ∧ μ 90 1 < 100) (hrf : ∀ a, refA a = true → ∀ j, μ a j < 0 ∨ (μ a j).toNat ≠ 200 + (μ 90 1).toNat) (h1 : inR a1) (hf : f_X10_gang μ a1 = some (r, μ1)) : KN l D (tyl cy) (lay cy) ids ad 6 1 5 yX10_gang cX10_gang 2 (some .int) [rf 0, nu a1] μ r μ1 := by
  refine KN.of (by decide) (Nat.le_of_ble_eq_true rfl) ?_
  intro p e s m args below meth c A C hCF
  unfold f_X10_gang at hf
  refine r_aload_n C 0 rfl rfl dX10_gang_0 ?_
  refine r_getf C 0 (by decide) rfl (fx_m rfl) (ly_0 cy _ _) rfl in_X10 5 (by decide) tw_306 (v := rf 6) rfl dX10_gang_1 ?_
  refine r_iload_n C 1 rfl rfl dX10_gang_4 ?_
  refine g_callVN C hCF (As := [nu a1]) 6 (by decide) rfl (fx_m rfl) (ly_6 cy _ _) rfl (c_X3_addGang hok hb hrf h1 hf) ⟨by decide, by decide⟩ ⟨by decide, by decide⟩ tw_330 tw_333 tw_7 tw_331 tw_332 1 (by decide) rfl (Nat.le_of_ble_eq_true rfl) dX10_gang_5 (okL_mem (lv := [some (rf 0), some (nu a1)]) (And.intro (fun _ => Or.inr (Or.inl ((hok _).mpr (Or.inl rfl)))) (And.intro nuP trivial))) (by intro v hv; exact absurd hv List.not_mem_nil) (fun ids1 ad1 hx hr _ => ?_)
  exact r_iretN C rfl hr hx (by decide) (by decide) dX10_gang_8
