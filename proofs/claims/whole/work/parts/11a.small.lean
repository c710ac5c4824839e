set_option maxHeartbeats 4000000 in
set_option maxRecDepth 100000 in
theorem c_X0_takeWork {l : Launch} {D : va_G} {cy : Nat → ClassId} {ids : List Nat} {ad : Nat → Nat} {μ μ' : Mem} {x0 a1 a2 r : Int} (h1 : inR a1) (h2 : inR a2) (hf : f_X0_takeWork μ x0 a1 a2 = some (r, μ')) : KK aV l D (tyl cy) (lay cy) ids ad 2 yX0_takeWork cX0_takeWork 3 none [rf x0, nu a1, nu a2] μ r μ' := by
  refine KK.of (by decide +kernel) (Nat.le_of_ble_eq_true rfl) ?_
  intro p e s m args below meth c A C hCF
  unfold f_X0_takeWork at hf
  refine V_in (fun ho0 _ => ?_)
  refine r_aload_n C 0 rfl rfl dX0_takeWork_0 ?_
  refine r_iload_n C 1 rfl rfl dX0_takeWork_1 ?_
  obtain ⟨g1, hf⟩ := of_g hf
  refine r_putf C _ (ga_0 g1) rfl (ga_m g1) (ga_9 g1) (ly_ga cy _ g1 _) 1 (ly_ga cy _ g1 _) rfl (Nat.le_of_ble_eq_true rfl) h1 rfl in_X0 tyX0 tyX0_ok nmX0 (by decide) tw_343 rfl rfl dX0_takeWork_2 (fun μ2 hμ4 => ?_)
  replace hf := of_lm hf hμ4
  refine V_in (fun ho3 _ => ?_)
  refine r_aload_n C 0 rfl rfl dX0_takeWork_5 ?_
  refine r_iload_n C 2 rfl rfl dX0_takeWork_6 ?_
  obtain ⟨g5, hf⟩ := of_g hf
  refine r_putf C _ (ga_0 g5) rfl (ga_m g5) (ga_9 g5) (ly_ga cy _ g5 _) 2 (ly_ga cy _ g5 _) rfl (Nat.le_of_ble_eq_true rfl) h2 rfl in_X0 tyX0 tyX0_ok nmX0 (by decide) tw_347 rfl rfl dX0_takeWork_7 (fun μ6 hμ8 => ?_)
  replace hf := of_lm hf hμ8
  refine V_in (fun ho7 _ => ?_)
  obtain ⟨-, rfl⟩ := of_ret hf
  exact r_vret C rfl dX0_takeWork_10
set_option maxHeartbeats 4000000 in
set_option maxRecDepth 100000 in
theorem c_X0_dropWork {l : Launch} {D : va_G} {cy : Nat → ClassId} {ids : List Nat} {ad : Nat → Nat} {μ μ' : Mem} {x0 r : Int}  (hf : f_X0_dropWork μ x0 = some (r, μ')) : KK aV l D (tyl cy) (lay cy) ids ad 2 yX0_dropWork cX0_dropWork 1 none [rf x0] μ r μ' := by
  refine KK.of (by decide +kernel) (Nat.le_of_ble_eq_true rfl) ?_
  intro p e s m args below meth c A C hCF
  unfold f_X0_dropWork at hf
  refine V_in (fun ho0 _ => ?_)
  refine r_aload_n C 0 rfl rfl dX0_dropWork_0 ?_
  refine r_iconst C dX0_dropWork_1 ?_
  obtain ⟨g1, hf⟩ := of_g hf
  refine r_putf C _ (ga_0 g1) rfl (ga_m g1) (ga_9 g1) (ly_ga cy _ g1 _) 1 (ly_ga cy _ g1 _) rfl (Nat.le_of_ble_eq_true rfl) (inR_lit rfl) rfl in_X0 tyX0 tyX0_ok nmX0 (by decide) tw_343 rfl rfl dX0_dropWork_2 (fun μ2 hμ4 => ?_)
  replace hf := of_lm hf hμ4
  refine V_in (fun ho3 _ => ?_)
  refine r_aload_n C 0 rfl rfl dX0_dropWork_5 ?_
  refine r_iconst C dX0_dropWork_6 ?_
  obtain ⟨g5, hf⟩ := of_g hf
  refine r_putf C _ (ga_0 g5) rfl (ga_m g5) (ga_9 g5) (ly_ga cy _ g5 _) 2 (ly_ga cy _ g5 _) rfl (Nat.le_of_ble_eq_true rfl) (inR_lit rfl) rfl in_X0 tyX0 tyX0_ok nmX0 (by decide) tw_347 rfl rfl dX0_dropWork_7 (fun μ6 hμ8 => ?_)
  replace hf := of_lm hf hμ8
  refine V_in (fun ho7 _ => ?_)
  obtain ⟨-, rfl⟩ := of_ret hf
  exact r_vret C rfl dX0_dropWork_10
set_option maxHeartbeats 4000000 in
set_option maxRecDepth 100000 in
theorem c_J9_max_7cf53 {l : Launch} {D : va_G} {cy : Nat → ClassId} {ids : List Nat} {ad : Nat → Nat} {μ μ' : Mem} {a1 a2 r : Int} (h1 : inR a1) (h2 : inR a2) (hf : f_J9_max_7cf53 μ a1 a2 = some (r, μ')) : KK aI l D (tyl cy) (lay cy) ids ad 2 yJ9_max_7cf53 cJ9_max_7cf53 2 (some .int) [nu a1, nu a2] μ r μ' := by
  refine KK.ofF (by decide +kernel) (Nat.le_of_ble_eq_true rfl) ?_
  intro p e s m args below meth c A C hCF
  unfold f_J9_max_7cf53 at hf
  refine V_in (fun ho0 _ => ?_)
  refine r_iload_n C 0 rfl rfl dJ9_max_7cf53_0 ?_
  refine r_iload_n C 1 rfl rfl dJ9_max_7cf53_1 ?_
  refine r_icmp_lt C 9 h1 h2 rfl dJ9_max_7cf53_2 (fun c1 => ?_) (fun c1 => ?_)
  · replace hf := if_t hf c1
    refine r_iload_n C 1 rfl rfl dJ9_max_7cf53_9 ?_
    obtain ⟨rfl, rfl⟩ := of_ret hf
    exact r_iret C rfl h2 dJ9_max_7cf53_10
  · replace hf := if_f hf c1
    refine r_iload_n C 0 rfl rfl dJ9_max_7cf53_5 ?_
    refine r_goto C 10 rfl dJ9_max_7cf53_6 ?_
    obtain ⟨rfl, rfl⟩ := of_ret hf
    exact r_iret C rfl h1 dJ9_max_7cf53_10
set_option maxHeartbeats 4000000 in
set_option maxRecDepth 100000 in
theorem c_J9_min_7cf53 {l : Launch} {D : va_G} {cy : Nat → ClassId} {ids : List Nat} {ad : Nat → Nat} {μ μ' : Mem} {a1 a2 r : Int} (h1 : inR a1) (h2 : inR a2) (hf : f_J9_min_7cf53 μ a1 a2 = some (r, μ')) : KK aI l D (tyl cy) (lay cy) ids ad 2 yJ9_min_7cf53 cJ9_min_7cf53 2 (some .int) [nu a1, nu a2] μ r μ' := by
  refine KK.ofF (by decide +kernel) (Nat.le_of_ble_eq_true rfl) ?_
  intro p e s m args below meth c A C hCF
  unfold f_J9_min_7cf53 at hf
  refine V_in (fun ho0 _ => ?_)
  refine r_iload_n C 0 rfl rfl dJ9_min_7cf53_0 ?_
  refine r_iload_n C 1 rfl rfl dJ9_min_7cf53_1 ?_
  refine r_icmp_gt C 9 h1 h2 rfl dJ9_min_7cf53_2 (fun c1 => ?_) (fun c1 => ?_)
  · replace hf := if_t hf c1
    refine r_iload_n C 1 rfl rfl dJ9_min_7cf53_9 ?_
    obtain ⟨rfl, rfl⟩ := of_ret hf
    exact r_iret C rfl h2 dJ9_min_7cf53_10
  · replace hf := if_f hf c1
    refine r_iload_n C 0 rfl rfl dJ9_min_7cf53_5 ?_
    refine r_goto C 10 rfl dJ9_min_7cf53_6 ?_
    obtain ⟨rfl, rfl⟩ := of_ret hf
    exact r_iret C rfl h1 dJ9_min_7cf53_10
set_option maxHeartbeats 4000000 in
set_option maxRecDepth 100000 in
theorem w_X2_firstRaftDay_2 {p : Program} {l : Launch} {e : Env} {s : State} {m : MethodId} {args : Array Value} {below : List Frame} {meth : Method} {c : Code} {D : va_G} {cy : Nat → ClassId} {A : Nat → Prop} {ids : List Nat} {ad : Nat → Nat} {r : Int} {μ' : Mem} (C : Cx p s m args meth c D (tyl cy) A 5 cX2_firstRaftDay yX2_firstRaftDay.cls (some .int)) (hCF : CF ad A s) : ∀ n : Nat, ∀ (v1 v2 v3 : Int) (μ : Mem), inR v1 → inR v2 → inR v3 → f_X2_firstRaftDay_2   n v1 v2 v3 μ = some (r, μ') → V p l e (rmk 4) s m args below meth c 0 0 (MQ below (aI D (tyl cy) (lay cy) ids ad A r μ') args s 0 0 A) D A (lay cy) ids ad 5 μ 2 [some (rf 1), some (nu v1), some (nu v2), some (nu v3), none] [] := by
  intro n
  induction n with
  | zero =>
    intro v1 v2 v3 μ hv1 hv2 hv3 hf
    cases hf
  | succ n ih =>
    intro v1 v2 v3 μ hv1 hv2 hv3 hf
    rw [f_X2_firstRaftDay_2_e] at hf
    refine V_in (fun ho0 _ => ?_)
    refine r_iload_n C 3 rfl rfl dX2_firstRaftDay_2 ?_
    refine r_aload_n C 0 rfl rfl dX2_firstRaftDay_3 ?_
    refine r_getf C 1 (by decide) rfl (fx_m rfl) (ly_1 cy _ _) rfl in_X2 6 (by decide) tw_40 (v := nu (μ 1 6)) rfl dX2_firstRaftDay_4 ?_
    refine r_icmp_ge C 46 hv3 (ho0 _ _) rfl dX2_firstRaftDay_7 (fun c1 => ?_) (fun c1 => ?_)
    · replace hf := if_t hf c1
      refine r_iconst C dX2_firstRaftDay_46 ?_
      obtain ⟨rfl, rfl⟩ := of_ret hf
      exact r_iret C rfl (inR_lit rfl) dX2_firstRaftDay_47
    · replace hf := if_f hf c1
      refine r_iload_n C 1 rfl rfl dX2_firstRaftDay_10 ?_
      refine r_aload_n C 0 rfl rfl dX2_firstRaftDay_11 ?_
      refine r_getf C 1 (by decide) rfl (fx_m rfl) (ly_1 cy _ _) rfl in_X2 4 (by decide) tw_38 (v := rf 12) rfl dX2_firstRaftDay_12 ?_
      refine r_iload_n C 3 rfl rfl dX2_firstRaftDay_15 ?_
      obtain ⟨g2, hf⟩ := of_g hf
      refine r_iald C 12 (by decide) rfl (fx_m rfl) 0 (cA := cy 0) (n := 40) (ly_12 cy _ _) rfl g2 (by decide) dX2_firstRaftDay_16 ?_
      obtain ⟨r3, μ4, hc5, hf⟩ := of_bd hf
      refine r_callSI C hCF (As := [nu v1, nu (μ 12 v3.toNat)]) (c_J9_max_7cf53 hv1 (ho0 _ _) hc5) rfl (by decide) (by decide) ⟨Nat.le_refl 0, Nat.le_refl 0⟩ tw_395 tw_397 tw_12 tw_396 2 (by decide) rfl (Nat.le_of_ble_eq_true rfl) dX2_firstRaftDay_17 (fun hr7 => ?_)
      refine V_in (fun ho6 _ => ?_)
      refine r_istore C (lw := [some (rf 1), some (nu v1), some (nu v2), some (nu v3), some (nu r3)]) rfl (by decide) dX2_firstRaftDay_20 ?_
      refine r_iload C rfl dX2_firstRaftDay_22 ?_
      refine r_iload_n C 2 rfl rfl dX2_firstRaftDay_24 ?_
      refine r_iadd C dX2_firstRaftDay_25 ?_
      refine r_iconst C dX2_firstRaftDay_26 ?_
      refine r_isub C dX2_firstRaftDay_27 ?_
      refine r_aload_n C 0 rfl rfl dX2_firstRaftDay_28 ?_
      refine r_getf C 1 (by decide) rfl (fx_m rfl) (ly_1 cy _ _) rfl in_X2 5 (by decide) tw_39 (v := rf 13) rfl dX2_firstRaftDay_29 ?_
      refine r_iload_n C 3 rfl rfl dX2_firstRaftDay_32 ?_
      refine r_iald C 13 (by decide) rfl (fx_m rfl) 0 (cA := cy 0) (n := 40) (ly_13 cy _ _) rfl g2 (by decide) dX2_firstRaftDay_33 ?_
      obtain ⟨g8, hf⟩ := of_g hf
      refine r_icmp_gt C 40 g8 (ho6 _ _) rfl dX2_firstRaftDay_34 (fun c9 => ?_) (fun c9 => ?_)
      · replace hf := if_t hf c9
        refine r_iinc C rfl (lw := [some (rf 1), some (nu v1), some (nu v2), some (nu (v3 + 1)), some (nu r3)]) rfl (by decide) dX2_firstRaftDay_40 ?_
        refine r_goto C 2 rfl dX2_firstRaftDay_43 ?_
        obtain ⟨g10, hf⟩ := of_g hf
        exact V_lw (ih v1 v2 (v3 + 1) μ4 hv1 hv2 g10 hf) (And.intro rfl (And.intro rfl (And.intro rfl (And.intro rfl trivial))))
      · replace hf := if_f hf c9
        refine r_iload C rfl dX2_firstRaftDay_37 ?_
        obtain ⟨rfl, rfl⟩ := of_ret hf
        exact r_iret C rfl hr7 dX2_firstRaftDay_39
set_option maxHeartbeats 4000000 in
set_option maxRecDepth 100000 in
theorem c_X2_firstRaftDay {l : Launch} {D : va_G} {cy : Nat → ClassId} {ids : List Nat} {ad : Nat → Nat} {μ μ' : Mem} {a1 a2 r : Int} (h1 : inR a1) (h2 : inR a2) (hf : f_X2_firstRaftDay μ a1 a2 = some (r, μ')) : KK aI l D (tyl cy) (lay cy) ids ad 4 yX2_firstRaftDay cX2_firstRaftDay 5 (some .int) [rf 1, nu a1, nu a2] μ r μ' := by
  refine KK.of (by decide +kernel) (Nat.le_of_ble_eq_true rfl) ?_
  intro p e s m args below meth c A C hCF
  unfold f_X2_firstRaftDay at hf
  refine V_in (fun ho0 _ => ?_)
  refine r_iconst C dX2_firstRaftDay_0 ?_
  refine r_istore_n C 3 (lw := [some (rf 1), some (nu a1), some (nu a2), some (nu 0), none]) rfl rfl (by decide) dX2_firstRaftDay_1 ?_
  exact V_lw (w_X2_firstRaftDay_2 C hCF 64 a1 a2 0 μ h1 h2 (inR_lit rfl) hf) (And.intro rfl (And.intro rfl (And.intro rfl (And.intro rfl trivial))))
set_option maxHeartbeats 4000000 in
set_option maxRecDepth 100000 in
theorem c_X6_numberAt {l : Launch} {D : va_G} {cy : Nat → ClassId} {ids : List Nat} {ad : Nat → Nat} {μ μ' : Mem} {a1 r : Int} (h1 : inR a1) (hf : f_X6_numberAt μ a1 = some (r, μ')) : KK aI l D (tyl cy) (lay cy) ids ad 2 yX6_numberAt cX6_numberAt 2 (some .int) [rf 4, nu a1] μ r μ' := by
  refine KK.of (by decide +kernel) (Nat.le_of_ble_eq_true rfl) ?_
  intro p e s m args below meth c A C hCF
  unfold f_X6_numberAt at hf
  refine V_in (fun ho0 _ => ?_)
  refine r_iload_n C 1 rfl rfl dX6_numberAt_0 ?_
  refine r_if_lt C 13 h1 rfl dX6_numberAt_1 (fun c1 => ?_) (fun c1 => ?_)
  · replace hf := if_t hf c1
    refine r_iconst C dX6_numberAt_13 ?_
    refine r_goto C 23 rfl dX6_numberAt_14 ?_
    obtain ⟨rfl, rfl⟩ := of_ret hf
    exact r_iret C rfl (inR_lit rfl) dX6_numberAt_23
  · replace hf := if_f hf c1
    refine r_iload_n C 1 rfl rfl dX6_numberAt_4 ?_
    refine r_aload_n C 0 rfl rfl dX6_numberAt_5 ?_
    refine r_getf C 4 (by decide) rfl (fx_m rfl) (ly_4 cy _ _) rfl in_X6 0 (by decide) tw_107 (v := rf 17) rfl dX6_numberAt_6 ?_
    refine r_alen C 17 (by decide) rfl (fx_m rfl) 0 (cA := cy 0) (n := 9) (ly_17 cy _ _) rfl dX6_numberAt_9 ?_
    refine r_icmp_lt C 17 h1 (inR_lit rfl) rfl dX6_numberAt_10 (fun c2 => ?_) (fun c2 => ?_)
    · replace hf := if_t hf c2
      refine r_aload_n C 0 rfl rfl dX6_numberAt_17 ?_
      refine r_getf C 4 (by decide) rfl (fx_m rfl) (ly_4 cy _ _) rfl in_X6 0 (by decide) tw_107 (v := rf 17) rfl dX6_numberAt_18 ?_
      refine r_iload_n C 1 rfl rfl dX6_numberAt_21 ?_
      obtain ⟨g3, hf⟩ := of_g hf
      refine r_iald C 17 (by decide) rfl (fx_m rfl) 0 (cA := cy 0) (n := 9) (ly_17 cy _ _) rfl g3 (by decide) dX6_numberAt_22 ?_
      obtain ⟨rfl, rfl⟩ := of_ret hf
      exact r_iret C rfl (ho0 _ _) dX6_numberAt_23
    · replace hf := if_f hf c2
      refine r_iconst C dX6_numberAt_13 ?_
      refine r_goto C 23 rfl dX6_numberAt_14 ?_
      obtain ⟨rfl, rfl⟩ := of_ret hf
      exact r_iret C rfl (inR_lit rfl) dX6_numberAt_23
set_option maxHeartbeats 4000000 in
set_option maxRecDepth 100000 in
theorem c_X4_isDone {l : Launch} {D : va_G} {cy : Nat → ClassId} {ids : List Nat} {ad : Nat → Nat} {μ μ' : Mem} {x0 r : Int}  (hf : f_X4_isDone μ x0 = some (r, μ')) : KK aI l D (tyl cy) (lay cy) ids ad 2 yX4_isDone cX4_isDone 1 (some .boolean) [rf x0] μ r μ' := by
  refine KK.of (by decide +kernel) (Nat.le_of_ble_eq_true rfl) ?_
  intro p e s m args below meth c A C hCF
  unfold f_X4_isDone at hf
  refine V_in (fun ho0 _ => ?_)
  refine r_aload_n C 0 rfl rfl dX4_isDone_0 ?_
  obtain ⟨g1, hf⟩ := of_g hf
  refine r_getf C _ (st_0 g1) rfl (st_m g1) (ly_st cy _ g1 _) rfl in_X4 2 (by decide) tw_555 (v := nu (μ x0.toNat 2)) rfl dX4_isDone_1 ?_
  refine r_iconst C dX4_isDone_4 ?_
  refine r_icmp_eq C 17 (ho0 _ _) (inR_lit rfl) rfl dX4_isDone_5 (fun c2 => ?_) (fun c2 => ?_)
  · replace hf := if_t hf c2
    refine r_iconst C dX4_isDone_17 ?_
    refine r_goto C 22 rfl dX4_isDone_18 ?_
    obtain ⟨rfl, rfl⟩ := of_ret hf
    exact r_zret C rfl (by decide) dX4_isDone_22
  · replace hf := if_f hf c2
    refine r_aload_n C 0 rfl rfl dX4_isDone_8 ?_
    refine r_getf C _ (st_0 g1) rfl (st_m g1) (ly_st cy _ g1 _) rfl in_X4 2 (by decide) tw_555 (v := nu (μ x0.toNat 2)) rfl dX4_isDone_9 ?_
    refine r_bipush C dX4_isDone_12 rfl ?_
    refine r_icmp_ne C 21 (ho0 _ _) (inR_lit rfl) rfl dX4_isDone_14 (fun c3 => ?_) (fun c3 => ?_)
    · replace hf := if_f hf c3
      refine r_iconst C dX4_isDone_21 ?_
      obtain ⟨rfl, rfl⟩ := of_ret hf
      exact r_zret C rfl (by decide) dX4_isDone_22
    · replace hf := if_t hf c3
      refine r_iconst C dX4_isDone_17 ?_
      refine r_goto C 22 rfl dX4_isDone_18 ?_
      obtain ⟨rfl, rfl⟩ := of_ret hf
      exact r_zret C rfl (by decide) dX4_isDone_22
set_option maxHeartbeats 4000000 in
set_option maxRecDepth 100000 in
theorem c_X10_upwards {l : Launch} {D : va_G} {cy : Nat → ClassId} {ids : List Nat} {ad : Nat → Nat} {μ μ' : Mem} {a1 a2 r : Int} (h1 : inR a1) (h2 : inR a2) (hf : f_X10_upwards μ a1 a2 = some (r, μ')) : KK aI l D (tyl cy) (lay cy) ids ad 2 yX10_upwards cX10_upwards 2 (some .int) [nu a1, nu a2] μ r μ' := by
  refine KK.of (by decide +kernel) (Nat.le_of_ble_eq_true rfl) ?_
  intro p e s m args below meth c A C hCF
  unfold f_X10_upwards at hf
  refine V_in (fun ho0 _ => ?_)
  refine r_iload_n C 1 rfl rfl dX10_upwards_0 ?_
  refine r_iconst C dX10_upwards_1 ?_
  refine r_icmp_ge C 9 h2 (inR_lit rfl) rfl dX10_upwards_2 (fun c1 => ?_) (fun c1 => ?_)
  · replace hf := if_t hf c1
    refine r_iload_n C 0 rfl rfl dX10_upwards_9 ?_
    refine r_iload_n C 1 rfl rfl dX10_upwards_10 ?_
    refine r_iadd C dX10_upwards_11 ?_
    refine r_iconst C dX10_upwards_12 ?_
    refine r_isub C dX10_upwards_13 ?_
    refine r_iload_n C 1 rfl rfl dX10_upwards_14 ?_
    obtain ⟨g2, hf⟩ := of_g hf
    refine r_idiv C h2 g2 dX10_upwards_15 ?_
    obtain ⟨rfl, rfl⟩ := of_ret hf
    exact r_iret C rfl (zI_rng _) dX10_upwards_16
  · replace hf := if_f hf c1
    refine r_iconst C dX10_upwards_5 ?_
    refine r_goto C 16 rfl dX10_upwards_6 ?_
    obtain ⟨rfl, rfl⟩ := of_ret hf
    exact r_iret C rfl (inR_lit rfl) dX10_upwards_16
set_option maxHeartbeats 4000000 in
set_option maxRecDepth 100000 in
theorem c_X6_pullOfWeight {l : Launch} {D : va_G} {cy : Nat → ClassId} {ids : List Nat} {ad : Nat → Nat} {μ μ' : Mem} {a1 a2 r : Int} (h1 : inR a1) (h2 : inR a2) (hf : f_X6_pullOfWeight μ a1 a2 = some (r, μ')) : KK aI l D (tyl cy) (lay cy) ids ad 4 yX6_pullOfWeight cX6_pullOfWeight 3 (some .int) [rf 4, nu a1, nu a2] μ r μ' := by
  refine KK.of (by decide +kernel) (Nat.le_of_ble_eq_true rfl) ?_
  intro p e s m args below meth c A C hCF
  unfold f_X6_pullOfWeight at hf
  refine V_in (fun ho0 _ => ?_)
  refine r_iload_n C 1 rfl rfl dX6_pullOfWeight_0 ?_
  refine r_aload_n C 0 rfl rfl dX6_pullOfWeight_1 ?_
  refine r_iload_n C 2 rfl rfl dX6_pullOfWeight_2 ?_
  obtain ⟨r1, μ2, hc3, hf⟩ := of_bd hf
  refine r_callVI C hCF (As := [nu a2]) 4 (by decide) rfl (fx_m rfl) (ly_4 cy _ _) rfl (c_X6_numberAt h2 hc3) rfl (by decide) (by decide) ⟨Nat.le_refl 0, Nat.le_refl 0⟩ tw_623 tw_626 tw_5 tw_624 tw_625 1 (by decide) rfl (Nat.le_of_ble_eq_true rfl) dX6_pullOfWeight_3 (fun hr5 => ?_)
  refine V_in (fun ho4 _ => ?_)
  refine r_imul C dX6_pullOfWeight_6 ?_
  refine r_bipush C dX6_pullOfWeight_7 rfl ?_
  obtain ⟨g6, hf⟩ := of_g hf
  obtain ⟨r7, μ8, hc9, hf⟩ := of_bd hf
  refine r_callSNI C hCF (As := [nu (a1 * r1), nu 10]) (c_X10_upwards g6 (inR_lit rfl) hc9) rfl (by decide) (by decide) ⟨Nat.le_refl 0, Nat.le_refl 0⟩ tw_627 tw_629 tw_1 tw_628 2 (by decide) rfl (Nat.le_of_ble_eq_true rfl) dX6_pullOfWeight_9 (fun hr11 => ?_)
  refine V_in (fun ho10 _ => ?_)
  obtain ⟨rfl, rfl⟩ := of_ret hf
  exact r_iret C rfl hr11 dX6_pullOfWeight_12
set_option maxHeartbeats 4000000 in
set_option maxRecDepth 100000 in
theorem c_X10_isDay {l : Launch} {D : va_G} {cy : Nat → ClassId} {ids : List Nat} {ad : Nat → Nat} {μ μ' : Mem} {a1 r : Int} (h1 : inR a1) (hf : f_X10_isDay μ a1 = some (r, μ')) : KK aI l D (tyl cy) (lay cy) ids ad 2 yX10_isDay cX10_isDay 1 (some .boolean) [nu a1] μ r μ' := by
  refine KK.of (by decide +kernel) (Nat.le_of_ble_eq_true rfl) ?_
  intro p e s m args below meth c A C hCF
  unfold f_X10_isDay at hf
  refine V_in (fun ho0 _ => ?_)
  refine r_iload_n C 0 rfl rfl dX10_isDay_0 ?_
  refine r_if_lt C 15 h1 rfl dX10_isDay_1 (fun c1 => ?_) (fun c1 => ?_)
  · replace hf := if_t hf c1
    refine r_iconst C dX10_isDay_15 ?_
    obtain ⟨rfl, rfl⟩ := of_ret hf
    exact r_zret C rfl (by decide) dX10_isDay_16
  · replace hf := if_f hf c1
    refine r_iload_n C 0 rfl rfl dX10_isDay_4 ?_
    refine r_sipush C dX10_isDay_5 rfl ?_
    refine r_icmp_gt C 15 h1 (inR_lit rfl) rfl dX10_isDay_8 (fun c2 => ?_) (fun c2 => ?_)
    · replace hf := if_t hf c2
      refine r_iconst C dX10_isDay_15 ?_
      obtain ⟨rfl, rfl⟩ := of_ret hf
      exact r_zret C rfl (by decide) dX10_isDay_16
    · replace hf := if_f hf c2
      refine r_iconst C dX10_isDay_11 ?_
      refine r_goto C 16 rfl dX10_isDay_12 ?_
      obtain ⟨rfl, rfl⟩ := of_ret hf
      exact r_zret C rfl (by decide) dX10_isDay_16
set_option maxHeartbeats 4000000 in
set_option maxRecDepth 100000 in
theorem w_X2_addRun_180 {p : Program} {l : Launch} {e : Env} {s : State} {m : MethodId} {args : Array Value} {below : List Frame} {meth : Method} {c : Code} {D : va_G} {cy : Nat → ClassId} {A : Nat → Prop} {ids : List Nat} {ad : Nat → Nat} {r : Int} {μ' : Mem} (C : Cx p s m args meth c D (tyl cy) A 7 cX2_addRun yX2_addRun.cls none) (hCF : CF ad A s) : ∀ (v3 v4 v5 v6 : Int) (μ : Mem), inR v3 → inR v4 → inR v5 → inR v6 → f_X2_addRun_180   v3 v4 v5 v6 μ = some (r, μ') → V p l e (rmk 4) s m args below meth c 0 0 (MQ below (aV D (tyl cy) (lay cy) ids ad A r μ') args s 0 0 A) D A (lay cy) ids ad 7 μ 180 [some (rf 1), none, none, some (nu v3), some (nu v4), some (nu v5), some (nu v6)] [] := by
  intro v3 v4 v5 v6 μ hv3 hv4 hv5 hv6 hf
  unfold f_X2_addRun_180 at hf
  refine V_in (fun ho0 _ => ?_)
  refine r_aload_n C 0 rfl rfl dX2_addRun_180 ?_
  refine r_getf C 1 (by decide) rfl (fx_m rfl) (ly_1 cy _ _) rfl in_X2 4 (by decide) tw_38 (v := rf 12) rfl dX2_addRun_181 ?_
  refine r_iload C rfl dX2_addRun_184 ?_
  refine r_iload_n C 3 rfl rfl dX2_addRun_186 ?_
  obtain ⟨g1, hf⟩ := of_g hf
  refine r_iast C 12 (by decide) rfl (fx_m rfl) (by decide) 0 (cA := cy 0) (n := 40) (fun f => ly_12 cy _ f) rfl g1 (by decide) hv3 dX2_addRun_187 (fun μ2 hμ4 => ?_)
  replace hf := of_lm hf hμ4
  refine V_in (fun ho3 _ => ?_)
  refine r_aload_n C 0 rfl rfl dX2_addRun_188 ?_
  refine r_getf C 1 (by decide) rfl (fx_m rfl) (ly_1 cy _ _) rfl in_X2 5 (by decide) tw_39 (v := rf 13) rfl dX2_addRun_189 ?_
  refine r_iload C rfl dX2_addRun_192 ?_
  refine r_iload C rfl dX2_addRun_194 ?_
  refine r_iast C 13 (by decide) rfl (fx_m rfl) (by decide) 0 (cA := cy 0) (n := 40) (fun f => ly_13 cy _ f) rfl g1 (by decide) hv4 dX2_addRun_196 (fun μ5 hμ7 => ?_)
  replace hf := of_lm hf hμ7
  refine V_in (fun ho6 _ => ?_)
  refine r_aload_n C 0 rfl rfl dX2_addRun_197 ?_
  refine r_iload C rfl dX2_addRun_198 ?_
  refine r_iconst C dX2_addRun_200 ?_
  refine r_iadd C dX2_addRun_201 ?_
  obtain ⟨g8, hf⟩ := of_g hf
  refine r_putf C 1 (by decide) rfl (fx_m rfl) (by decide) (ly_1 cy _ _) 6 (ly_1 cy _ _) rfl (Nat.le_of_ble_eq_true rfl) g8 rfl in_X2 tyX2 tyX2_ok nmX2 (by decide) tw_40 rfl rfl dX2_addRun_202 (fun μ9 hμ11 => ?_)
  replace hf := of_lm hf hμ11
  refine V_in (fun ho10 _ => ?_)
  obtain ⟨-, rfl⟩ := of_ret hf
  exact r_vret C rfl dX2_addRun_205
set_option maxHeartbeats 4000000 in
set_option maxRecDepth 100000 in
theorem w_X2_addRun_124 {p : Program} {l : Launch} {e : Env} {s : State} {m : MethodId} {args : Array Value} {below : List Frame} {meth : Method} {c : Code} {D : va_G} {cy : Nat → ClassId} {A : Nat → Prop} {ids : List Nat} {ad : Nat → Nat} {r : Int} {μ' : Mem} (C : Cx p s m args meth c D (tyl cy) A 7 cX2_addRun yX2_addRun.cls none) (hCF : CF ad A s) : ∀ n : Nat, ∀ (v3 v4 v5 v6 : Int) (μ : Mem), inR v3 → inR v4 → inR v5 → inR v6 → f_X2_addRun_124   n v3 v4 v5 v6 μ = some (r, μ') → V p l e (rmk 4) s m args below meth c 0 0 (MQ below (aV D (tyl cy) (lay cy) ids ad A r μ') args s 0 0 A) D A (lay cy) ids ad 7 μ 124 [some (rf 1), none, none, some (nu v3), some (nu v4), some (nu v5), some (nu v6)] [] := by
  intro n
  induction n with
  | zero =>
    intro v3 v4 v5 v6 μ hv3 hv4 hv5 hv6 hf
    cases hf
  | succ n ih =>
    intro v3 v4 v5 v6 μ hv3 hv4 hv5 hv6 hf
    rw [f_X2_addRun_124_e] at hf
    refine V_in (fun ho0 _ => ?_)
    refine r_iload C rfl dX2_addRun_124 ?_
    refine r_if_le C 180 hv6 rfl dX2_addRun_126 (fun c1 => ?_) (fun c1 => ?_)
    · replace hf := if_t hf c1
      exact V_lw (w_X2_addRun_180 C hCF v3 v4 v5 v6 μ hv3 hv4 hv5 hv6 hf) (And.intro rfl (And.intro rfl (And.intro rfl (And.intro rfl (And.intro rfl trivial)))))
    · replace hf := if_f hf c1
      refine r_aload_n C 0 rfl rfl dX2_addRun_129 ?_
      refine r_getf C 1 (by decide) rfl (fx_m rfl) (ly_1 cy _ _) rfl in_X2 4 (by decide) tw_38 (v := rf 12) rfl dX2_addRun_130 ?_
      refine r_iload C rfl dX2_addRun_133 ?_
      refine r_iconst C dX2_addRun_135 ?_
      refine r_isub C dX2_addRun_136 ?_
      obtain ⟨g2, hf⟩ := of_g hf
      refine r_iald C 12 (by decide) rfl (fx_m rfl) 0 (cA := cy 0) (n := 40) (ly_12 cy _ _) rfl g2 (by decide) dX2_addRun_137 ?_
      refine r_iload_n C 3 rfl rfl dX2_addRun_138 ?_
      refine r_icmp_le C 180 (ho0 _ _) hv3 rfl dX2_addRun_139 (fun c3 => ?_) (fun c3 => ?_)
      · replace hf := if_t hf c3
        exact V_lw (w_X2_addRun_180 C hCF v3 v4 v5 v6 μ hv3 hv4 hv5 hv6 hf) (And.intro rfl (And.intro rfl (And.intro rfl (And.intro rfl (And.intro rfl trivial)))))
      · replace hf := if_f hf c3
        refine r_aload_n C 0 rfl rfl dX2_addRun_142 ?_
        refine r_getf C 1 (by decide) rfl (fx_m rfl) (ly_1 cy _ _) rfl in_X2 4 (by decide) tw_38 (v := rf 12) rfl dX2_addRun_143 ?_
        refine r_iload C rfl dX2_addRun_146 ?_
        refine r_aload_n C 0 rfl rfl dX2_addRun_148 ?_
        refine r_getf C 1 (by decide) rfl (fx_m rfl) (ly_1 cy _ _) rfl in_X2 4 (by decide) tw_38 (v := rf 12) rfl dX2_addRun_149 ?_
        refine r_iload C rfl dX2_addRun_152 ?_
        refine r_iconst C dX2_addRun_154 ?_
        refine r_isub C dX2_addRun_155 ?_
        refine r_iald C 12 (by decide) rfl (fx_m rfl) 0 (cA := cy 0) (n := 40) (ly_12 cy _ _) rfl g2 (by decide) dX2_addRun_156 ?_
        obtain ⟨g4, hf⟩ := of_g hf
        refine r_iast C 12 (by decide) rfl (fx_m rfl) (by decide) 0 (cA := cy 0) (n := 40) (fun f => ly_12 cy _ f) rfl g4 (by decide) (ho0 _ _) dX2_addRun_157 (fun μ5 hμ7 => ?_)
        replace hf := of_lm hf hμ7
        refine V_in (fun ho6 _ => ?_)
        refine r_aload_n C 0 rfl rfl dX2_addRun_158 ?_
        refine r_getf C 1 (by decide) rfl (fx_m rfl) (ly_1 cy _ _) rfl in_X2 5 (by decide) tw_39 (v := rf 13) rfl dX2_addRun_159 ?_
        refine r_iload C rfl dX2_addRun_162 ?_
        refine r_aload_n C 0 rfl rfl dX2_addRun_164 ?_
        refine r_getf C 1 (by decide) rfl (fx_m rfl) (ly_1 cy _ _) rfl in_X2 5 (by decide) tw_39 (v := rf 13) rfl dX2_addRun_165 ?_
        refine r_iload C rfl dX2_addRun_168 ?_
        refine r_iconst C dX2_addRun_170 ?_
        refine r_isub C dX2_addRun_171 ?_
        refine r_iald C 13 (by decide) rfl (fx_m rfl) 0 (cA := cy 0) (n := 40) (ly_13 cy _ _) rfl g2 (by decide) dX2_addRun_172 ?_
        refine r_iast C 13 (by decide) rfl (fx_m rfl) (by decide) 0 (cA := cy 0) (n := 40) (fun f => ly_13 cy _ f) rfl g4 (by decide) (ho6 _ _) dX2_addRun_173 (fun μ8 hμ10 => ?_)
        replace hf := of_lm hf hμ10
        refine V_in (fun ho9 _ => ?_)
        refine r_iinc C rfl (lw := [some (rf 1), none, none, some (nu v3), some (nu v4), some (nu v5), some (nu (v6 + (-1)))]) rfl (by decide) dX2_addRun_174 ?_
        refine r_goto C 124 rfl dX2_addRun_177 ?_
        obtain ⟨g11, hf⟩ := of_g hf
        exact V_lw (ih v3 v4 v5 (v6 + (-1)) μ8 hv3 hv4 hv5 g11 hf) (And.intro rfl (And.intro rfl (And.intro rfl (And.intro rfl (And.intro rfl trivial)))))
set_option maxHeartbeats 4000000 in
set_option maxRecDepth 100000 in
theorem w_X2_addRun_46 {p : Program} {l : Launch} {e : Env} {s : State} {m : MethodId} {args : Array Value} {below : List Frame} {meth : Method} {c : Code} {D : va_G} {cy : Nat → ClassId} {A : Nat → Prop} {ids : List Nat} {ad : Nat → Nat} {r : Int} {μ' : Mem} (C : Cx p s m args meth c D (tyl cy) A 7 cX2_addRun yX2_addRun.cls none) (hCF : CF ad A s) (k11 : Int → Int → Int → Int → Int → Int → Mem → Option (Int × Mem)) (hk11 : ∀ (v1 v2 v3 v4 v5 v6 : Int) (μ : Mem), inR v1 → inR v2 → inR v3 → inR v4 → inR v5 → inR v6 → k11 v1 v2 v3 v4 v5 v6 μ = some (r, μ') → V p l e (rmk 4) s m args below meth c 0 0 (MQ below (aV D (tyl cy) (lay cy) ids ad A r μ') args s 0 0 A) D A (lay cy) ids ad 7 μ 11 [some (rf 1), some (nu v1), some (nu v2), some (nu v3), some (nu v4), some (nu v5), some (nu v6)] []) : ∀ (v1 v2 v3 v4 v5 v6 : Int) (μ : Mem), inR v1 → inR v2 → inR v3 → inR v4 → inR v5 → inR v6 → f_X2_addRun_46  k11 v1 v2 v3 v4 v5 v6 μ = some (r, μ') → V p l e (rmk 4) s m args below meth c 0 0 (MQ below (aV D (tyl cy) (lay cy) ids ad A r μ') args s 0 0 A) D A (lay cy) ids ad 7 μ 46 [some (rf 1), some (nu v1), some (nu v2), some (nu v3), some (nu v4), some (nu v5), some (nu v6)] [] := by
  intro v1 v2 v3 v4 v5 v6 μ hv1 hv2 hv3 hv4 hv5 hv6 hf
  unfold f_X2_addRun_46 at hf
  refine V_in (fun ho0 _ => ?_)
  refine r_aload_n C 0 rfl rfl dX2_addRun_46 ?_
  refine r_getf C 1 (by decide) rfl (fx_m rfl) (ly_1 cy _ _) rfl in_X2 4 (by decide) tw_38 (v := rf 12) rfl dX2_addRun_47 ?_
  refine r_iload C rfl dX2_addRun_50 ?_
  refine r_aload_n C 0 rfl rfl dX2_addRun_52 ?_
  refine r_getf C 1 (by decide) rfl (fx_m rfl) (ly_1 cy _ _) rfl in_X2 4 (by decide) tw_38 (v := rf 12) rfl dX2_addRun_53 ?_
  refine r_iload C rfl dX2_addRun_56 ?_
  obtain ⟨g1, hf⟩ := of_g hf
  refine r_iald C 12 (by decide) rfl (fx_m rfl) 0 (cA := cy 0) (n := 40) (ly_12 cy _ _) rfl g1 (by decide) dX2_addRun_58 ?_
  obtain ⟨g2, hf⟩ := of_g hf
  refine r_iast C 12 (by decide) rfl (fx_m rfl) (by decide) 0 (cA := cy 0) (n := 40) (fun f => ly_12 cy _ f) rfl g2 (by decide) (ho0 _ _) dX2_addRun_59 (fun μ3 hμ5 => ?_)
  replace hf := of_lm hf hμ5
  refine V_in (fun ho4 _ => ?_)
  refine r_aload_n C 0 rfl rfl dX2_addRun_60 ?_
  refine r_getf C 1 (by decide) rfl (fx_m rfl) (ly_1 cy _ _) rfl in_X2 5 (by decide) tw_39 (v := rf 13) rfl dX2_addRun_61 ?_
  refine r_iload C rfl dX2_addRun_64 ?_
  refine r_aload_n C 0 rfl rfl dX2_addRun_66 ?_
  refine r_getf C 1 (by decide) rfl (fx_m rfl) (ly_1 cy _ _) rfl in_X2 5 (by decide) tw_39 (v := rf 13) rfl dX2_addRun_67 ?_
  refine r_iload C rfl dX2_addRun_70 ?_
  refine r_iald C 13 (by decide) rfl (fx_m rfl) 0 (cA := cy 0) (n := 40) (ly_13 cy _ _) rfl g1 (by decide) dX2_addRun_72 ?_
  refine r_iast C 13 (by decide) rfl (fx_m rfl) (by decide) 0 (cA := cy 0) (n := 40) (fun f => ly_13 cy _ f) rfl g2 (by decide) (ho4 _ _) dX2_addRun_73 (fun μ6 hμ8 => ?_)
  replace hf := of_lm hf hμ8
  refine V_in (fun ho7 _ => ?_)
  refine r_iinc C rfl (lw := [some (rf 1), some (nu v1), some (nu v2), some (nu v3), some (nu v4), some (nu (v5 + 1)), some (nu v6)]) rfl (by decide) dX2_addRun_74 ?_
  refine r_goto C 106 rfl dX2_addRun_77 ?_
  refine r_iinc C rfl (lw := [some (rf 1), some (nu v1), some (nu v2), some (nu v3), some (nu v4), some (nu (v5 + 1)), some (nu (v6 + 1))]) rfl (by decide) dX2_addRun_106 ?_
  refine r_goto C 11 rfl dX2_addRun_109 ?_
  obtain ⟨g9, hf⟩ := of_g hf
  obtain ⟨g10, hf⟩ := of_g hf
  exact V_lw (hk11 v1 v2 v3 v4 (v5 + 1) (v6 + 1) μ6 hv1 hv2 hv3 hv4 g9 g10 hf) (And.intro rfl (And.intro rfl (And.intro rfl (And.intro rfl (And.intro rfl (And.intro rfl (And.intro rfl trivial)))))))
set_option maxHeartbeats 4000000 in
set_option maxRecDepth 100000 in
theorem w_X2_addRun_11 {p : Program} {l : Launch} {e : Env} {s : State} {m : MethodId} {args : Array Value} {below : List Frame} {meth : Method} {c : Code} {D : va_G} {cy : Nat → ClassId} {A : Nat → Prop} {ids : List Nat} {ad : Nat → Nat} {r : Int} {μ' : Mem} (C : Cx p s m args meth c D (tyl cy) A 7 cX2_addRun yX2_addRun.cls none) (hCF : CF ad A s) : ∀ n : Nat, ∀ (v1 v2 v3 v4 v5 v6 : Int) (μ : Mem), inR v1 → inR v2 → inR v3 → inR v4 → inR v5 → inR v6 → f_X2_addRun_11   n v1 v2 v3 v4 v5 v6 μ = some (r, μ') → V p l e (rmk 4) s m args below meth c 0 0 (MQ below (aV D (tyl cy) (lay cy) ids ad A r μ') args s 0 0 A) D A (lay cy) ids ad 7 μ 11 [some (rf 1), some (nu v1), some (nu v2), some (nu v3), some (nu v4), some (nu v5), some (nu v6)] [] := by
  intro n
  induction n with
  | zero =>
    intro v1 v2 v3 v4 v5 v6 μ hv1 hv2 hv3 hv4 hv5 hv6 hf
    cases hf
  | succ n ih =>
    intro v1 v2 v3 v4 v5 v6 μ hv1 hv2 hv3 hv4 hv5 hv6 hf
    rw [f_X2_addRun_11_e] at hf
    refine V_in (fun ho0 _ => ?_)
    refine r_iload C rfl dX2_addRun_11 ?_
    refine r_aload_n C 0 rfl rfl dX2_addRun_13 ?_
    refine r_getf C 1 (by decide) rfl (fx_m rfl) (ly_1 cy _ _) rfl in_X2 6 (by decide) tw_40 (v := nu (μ 1 6)) rfl dX2_addRun_14 ?_
    refine r_icmp_ge C 112 hv6 (ho0 _ _) rfl dX2_addRun_17 (fun c1 => ?_) (fun c1 => ?_)
    · replace hf := if_t hf c1
      refine r_iload C rfl dX2_addRun_112 ?_
      refine r_bipush C dX2_addRun_114 rfl ?_
      refine r_icmp_lt C 120 hv5 (inR_lit rfl) rfl dX2_addRun_116 (fun c2 => ?_) (fun c2 => ?_)
      · replace hf := if_t hf c2
        refine r_iload C rfl dX2_addRun_120 ?_
        refine r_istore C (lw := [some (rf 1), some (nu v1), some (nu v2), some (nu v3), some (nu v4), some (nu v5), some (nu v5)]) rfl (by decide) dX2_addRun_122 ?_
        exact V_lw (w_X2_addRun_124 C hCF 64 v3 v4 v5 v5 μ hv3 hv4 hv5 hv5 hf) (And.intro rfl (And.intro rfl (And.intro rfl (And.intro rfl (And.intro rfl trivial)))))
      · replace hf := if_f hf c2
        obtain ⟨-, rfl⟩ := of_ret hf
        exact r_vret C rfl dX2_addRun_119
    · replace hf := if_f hf c1
      refine r_aload_n C 0 rfl rfl dX2_addRun_20 ?_
      refine r_getf C 1 (by decide) rfl (fx_m rfl) (ly_1 cy _ _) rfl in_X2 5 (by decide) tw_39 (v := rf 13) rfl dX2_addRun_21 ?_
      refine r_iload C rfl dX2_addRun_24 ?_
      obtain ⟨g3, hf⟩ := of_g hf
      refine r_iald C 13 (by decide) rfl (fx_m rfl) 0 (cA := cy 0) (n := 40) (ly_13 cy _ _) rfl g3 (by decide) dX2_addRun_26 ?_
      refine r_iload_n C 1 rfl rfl dX2_addRun_27 ?_
      refine r_iconst C dX2_addRun_28 ?_
      refine r_isub C dX2_addRun_29 ?_
      obtain ⟨g4, hf⟩ := of_g hf
      refine r_icmp_lt C 46 (ho0 _ _) g4 rfl dX2_addRun_30 (fun c5 => ?_) (fun c5 => ?_)
      · replace hf := if_t hf c5
        exact V_lw (w_X2_addRun_46 C hCF (f_X2_addRun_11 n) ih v1 v2 v3 v4 v5 v6 μ hv1 hv2 hv3 hv4 hv5 hv6 hf) (And.intro rfl (And.intro rfl (And.intro rfl (And.intro rfl (And.intro rfl (And.intro rfl (And.intro rfl trivial)))))))
      · replace hf := if_f hf c5
        refine r_aload_n C 0 rfl rfl dX2_addRun_33 ?_
        refine r_getf C 1 (by decide) rfl (fx_m rfl) (ly_1 cy _ _) rfl in_X2 4 (by decide) tw_38 (v := rf 12) rfl dX2_addRun_34 ?_
        refine r_iload C rfl dX2_addRun_37 ?_
        refine r_iald C 12 (by decide) rfl (fx_m rfl) 0 (cA := cy 0) (n := 40) (ly_12 cy _ _) rfl g3 (by decide) dX2_addRun_39 ?_
        refine r_iload_n C 2 rfl rfl dX2_addRun_40 ?_
        refine r_iconst C dX2_addRun_41 ?_
        refine r_iadd C dX2_addRun_42 ?_
        obtain ⟨g6, hf⟩ := of_g hf
        refine r_icmp_le C 80 (ho0 _ _) g6 rfl dX2_addRun_43 (fun c7 => ?_) (fun c7 => ?_)
        · replace hf := if_t hf c7
          refine r_iload_n C 3 rfl rfl dX2_addRun_80 ?_
          refine r_aload_n C 0 rfl rfl dX2_addRun_81 ?_
          refine r_getf C 1 (by decide) rfl (fx_m rfl) (ly_1 cy _ _) rfl in_X2 4 (by decide) tw_38 (v := rf 12) rfl dX2_addRun_82 ?_
          refine r_iload C rfl dX2_addRun_85 ?_
          refine r_iald C 12 (by decide) rfl (fx_m rfl) 0 (cA := cy 0) (n := 40) (ly_12 cy _ _) rfl g3 (by decide) dX2_addRun_87 ?_
          obtain ⟨r8, μ9, hc10, hf⟩ := of_bd hf
          refine r_callSI C hCF (As := [nu v3, nu (μ 12 v6.toNat)]) (c_J9_min_7cf53 hv3 (ho0 _ _) hc10) rfl (by decide) (by decide) ⟨Nat.le_refl 0, Nat.le_refl 0⟩ tw_392 tw_394 tw_12 tw_393 2 (by decide) rfl (Nat.le_of_ble_eq_true rfl) dX2_addRun_88 (fun hr12 => ?_)
          refine V_in (fun ho11 _ => ?_)
          refine r_istore_n C 3 (lw := [some (rf 1), some (nu v1), some (nu v2), some (nu r8), some (nu v4), some (nu v5), some (nu v6)]) rfl rfl (by decide) dX2_addRun_91 ?_
          refine r_iload C rfl dX2_addRun_92 ?_
          refine r_aload_n C 0 rfl rfl dX2_addRun_94 ?_
          refine r_getf C 1 (by decide) rfl (fx_m rfl) (ly_1 cy _ _) rfl in_X2 5 (by decide) tw_39 (v := rf 13) rfl dX2_addRun_95 ?_
          refine r_iload C rfl dX2_addRun_98 ?_
          refine r_iald C 13 (by decide) rfl (fx_m rfl) 0 (cA := cy 0) (n := 40) (ly_13 cy _ _) rfl g3 (by decide) dX2_addRun_100 ?_
          obtain ⟨r13, μ14, hc15, hf⟩ := of_bd hf
          refine r_callSI C hCF (As := [nu v4, nu (μ9 13 v6.toNat)]) (c_J9_max_7cf53 hv4 (ho11 _ _) hc15) rfl (by decide) (by decide) ⟨Nat.le_refl 0, Nat.le_refl 0⟩ tw_395 tw_397 tw_12 tw_396 2 (by decide) rfl (Nat.le_of_ble_eq_true rfl) dX2_addRun_101 (fun hr17 => ?_)
          refine V_in (fun ho16 _ => ?_)
          refine r_istore C (lw := [some (rf 1), some (nu v1), some (nu v2), some (nu r8), some (nu r13), some (nu v5), some (nu v6)]) rfl (by decide) dX2_addRun_104 ?_
          refine r_iinc C rfl (lw := [some (rf 1), some (nu v1), some (nu v2), some (nu r8), some (nu r13), some (nu v5), some (nu (v6 + 1))]) rfl (by decide) dX2_addRun_106 ?_
          refine r_goto C 11 rfl dX2_addRun_109 ?_
          obtain ⟨g18, hf⟩ := of_g hf
          exact V_lw (ih v1 v2 r8 r13 v5 (v6 + 1) μ14 hv1 hv2 hr12 hr17 hv5 g18 hf) (And.intro rfl (And.intro rfl (And.intro rfl (And.intro rfl (And.intro rfl (And.intro rfl (And.intro rfl trivial)))))))
        · replace hf := if_f hf c7
          exact V_lw (w_X2_addRun_46 C hCF (f_X2_addRun_11 n) ih v1 v2 v3 v4 v5 v6 μ hv1 hv2 hv3 hv4 hv5 hv6 hf) (And.intro rfl (And.intro rfl (And.intro rfl (And.intro rfl (And.intro rfl (And.intro rfl (And.intro rfl trivial)))))))
set_option maxHeartbeats 4000000 in
set_option maxRecDepth 100000 in
theorem c_X2_addRun {l : Launch} {D : va_G} {cy : Nat → ClassId} {ids : List Nat} {ad : Nat → Nat} {μ μ' : Mem} {a1 a2 r : Int} (h1 : inR a1) (h2 : inR a2) (hf : f_X2_addRun μ a1 a2 = some (r, μ')) : KK aV l D (tyl cy) (lay cy) ids ad 4 yX2_addRun cX2_addRun 7 none [rf 1, nu a1, nu a2] μ r μ' := by
  refine KK.of (by decide +kernel) (Nat.le_of_ble_eq_true rfl) ?_
  intro p e s m args below meth c A C hCF
  unfold f_X2_addRun at hf
  refine V_in (fun ho0 _ => ?_)
  refine r_iload_n C 1 rfl rfl dX2_addRun_0 ?_
  refine r_istore_n C 3 (lw := [some (rf 1), some (nu a1), some (nu a2), some (nu a1), none, none, none]) rfl rfl (by decide) dX2_addRun_1 ?_
  refine r_iload_n C 2 rfl rfl dX2_addRun_2 ?_
  refine r_istore C (lw := [some (rf 1), some (nu a1), some (nu a2), some (nu a1), some (nu a2), none, none]) rfl (by decide) dX2_addRun_3 ?_
  refine r_iconst C dX2_addRun_5 ?_
  refine r_istore C (lw := [some (rf 1), some (nu a1), some (nu a2), some (nu a1), some (nu a2), some (nu 0), none]) rfl (by decide) dX2_addRun_6 ?_
  refine r_iconst C dX2_addRun_8 ?_
  refine r_istore C (lw := [some (rf 1), some (nu a1), some (nu a2), some (nu a1), some (nu a2), some (nu 0), some (nu 0)]) rfl (by decide) dX2_addRun_9 ?_
  exact V_lw (w_X2_addRun_11 C hCF 64 a1 a2 a1 a2 0 0 μ h1 h2 h1 h2 (inR_lit rfl) (inR_lit rfl) hf) (And.intro rfl (And.intro rfl (And.intro rfl (And.intro rfl (And.intro rfl (And.intro rfl (And.intro rfl trivial)))))))
set_option maxHeartbeats 4000000 in
set_option maxRecDepth 100000 in
theorem c_X2_addSpell {l : Launch} {D : va_G} {cy : Nat → ClassId} {ids : List Nat} {ad : Nat → Nat} {μ μ' : Mem} {a1 a2 a3 r : Int} (h1 : inR a1) (h2 : inR a2) (h3 : inR a3) (hf : f_X2_addSpell μ a1 a2 a3 = some (r, μ')) : KK aI l D (tyl cy) (lay cy) ids ad 6 yX2_addSpell cX2_addSpell 4 (some .int) [rf 1, nu a1, nu a2, nu a3] μ r μ' := by
  refine KK.of (by decide +kernel) (Nat.le_of_ble_eq_true rfl) ?_
  intro p e s m args below meth c A C hCF
  unfold f_X2_addSpell at hf
  refine V_in (fun ho0 _ => ?_)
  refine r_aload_n C 0 rfl rfl dX2_addSpell_0 ?_
  refine r_getf C 1 (by decide) rfl (fx_m rfl) (ly_1 cy _ _) rfl in_X2 3 (by decide) tw_36 (v := nu (μ 1 3)) rfl dX2_addSpell_1 ?_
  refine r_bipush C dX2_addSpell_4 rfl ?_
  refine r_icmp_ge C 18 (ho0 _ _) (inR_lit rfl) rfl dX2_addSpell_6 (fun c1 => ?_) (fun c1 => ?_)
  · replace hf := if_t hf c1
    refine r_iconst C dX2_addSpell_18 ?_
    obtain ⟨rfl, rfl⟩ := of_ret hf
    exact r_iret C rfl (inR_lit rfl) dX2_addSpell_19
  · replace hf := if_f hf c1
    refine r_iload_n C 1 rfl rfl dX2_addSpell_9 ?_
    refine r_if_lt C 18 h1 rfl dX2_addSpell_10 (fun c2 => ?_) (fun c2 => ?_)
    · replace hf := if_t hf c2
      refine r_iconst C dX2_addSpell_18 ?_
      obtain ⟨rfl, rfl⟩ := of_ret hf
      exact r_iret C rfl (inR_lit rfl) dX2_addSpell_19
    · replace hf := if_f hf c2
      refine r_iload_n C 1 rfl rfl dX2_addSpell_13 ?_
      refine r_iconst C dX2_addSpell_14 ?_
      refine r_icmp_le C 20 h1 (inR_lit rfl) rfl dX2_addSpell_15 (fun c3 => ?_) (fun c3 => ?_)
      · replace hf := if_t hf c3
        refine r_iload_n C 2 rfl rfl dX2_addSpell_20 ?_
        obtain ⟨r4, μ5, hc6, hf⟩ := of_bd hf
        refine r_callSNI C hCF (As := [nu a2]) (c_X10_isDay h2 hc6) rfl (by decide) (by decide) ⟨Nat.le_refl 0, Nat.le_refl 0⟩ tw_387 tw_377 tw_1 tw_376 1 (by decide) rfl (Nat.le_of_ble_eq_true rfl) dX2_addSpell_21 (fun hr8 => ?_)
        refine V_in (fun ho7 _ => ?_)
        refine r_if_eq C 39 hr8 rfl dX2_addSpell_24 (fun c9 => ?_) (fun c9 => ?_)
        · replace hf := if_t hf c9
          refine r_iconst C dX2_addSpell_39 ?_
          obtain ⟨rfl, rfl⟩ := of_ret hf
          exact r_iret C rfl (inR_lit rfl) dX2_addSpell_40
        · replace hf := if_f hf c9
          refine r_iload_n C 3 rfl rfl dX2_addSpell_27 ?_
          obtain ⟨r10, μ11, hc12, hf⟩ := of_bd hf
          refine r_callSNI C hCF (As := [nu a3]) (c_X10_isDay h3 hc12) rfl (by decide) (by decide) ⟨Nat.le_refl 0, Nat.le_refl 0⟩ tw_387 tw_377 tw_1 tw_376 1 (by decide) rfl (Nat.le_of_ble_eq_true rfl) dX2_addSpell_28 (fun hr14 => ?_)
          refine V_in (fun ho13 _ => ?_)
          refine r_if_eq C 39 hr14 rfl dX2_addSpell_31 (fun c15 => ?_) (fun c15 => ?_)
          · replace hf := if_t hf c15
            refine r_iconst C dX2_addSpell_39 ?_
            obtain ⟨rfl, rfl⟩ := of_ret hf
            exact r_iret C rfl (inR_lit rfl) dX2_addSpell_40
          · replace hf := if_f hf c15
            refine r_iload_n C 2 rfl rfl dX2_addSpell_34 ?_
            refine r_iload_n C 3 rfl rfl dX2_addSpell_35 ?_
            refine r_icmp_le C 41 h2 h3 rfl dX2_addSpell_36 (fun c16 => ?_) (fun c16 => ?_)
            · replace hf := if_t hf c16
              refine r_aload_n C 0 rfl rfl dX2_addSpell_41 ?_
              refine r_getf C 1 (by decide) rfl (fx_m rfl) (ly_1 cy _ _) rfl in_X2 0 (by decide) tw_33 (v := rf 9) rfl dX2_addSpell_42 ?_
              refine r_aload_n C 0 rfl rfl dX2_addSpell_45 ?_
              refine r_getf C 1 (by decide) rfl (fx_m rfl) (ly_1 cy _ _) rfl in_X2 3 (by decide) tw_36 (v := nu (μ11 1 3)) rfl dX2_addSpell_46 ?_
              refine r_iload_n C 1 rfl rfl dX2_addSpell_49 ?_
              obtain ⟨g17, hf⟩ := of_g hf
              refine r_iast C 9 (by decide) rfl (fx_m rfl) (by decide) 0 (cA := cy 0) (n := 40) (fun f => ly_9 cy _ f) rfl g17 (by decide) h1 dX2_addSpell_50 (fun μ18 hμ20 => ?_)
              replace hf := of_lm hf hμ20
              refine V_in (fun ho19 _ => ?_)
              refine r_aload_n C 0 rfl rfl dX2_addSpell_51 ?_
              refine r_getf C 1 (by decide) rfl (fx_m rfl) (ly_1 cy _ _) rfl in_X2 1 (by decide) tw_34 (v := rf 10) rfl dX2_addSpell_52 ?_
              refine r_aload_n C 0 rfl rfl dX2_addSpell_55 ?_
              refine r_getf C 1 (by decide) rfl (fx_m rfl) (ly_1 cy _ _) rfl in_X2 3 (by decide) tw_36 (v := nu (μ18 1 3)) rfl dX2_addSpell_56 ?_
              refine r_iload_n C 2 rfl rfl dX2_addSpell_59 ?_
              obtain ⟨g21, hf⟩ := of_g hf
              refine r_iast C 10 (by decide) rfl (fx_m rfl) (by decide) 0 (cA := cy 0) (n := 40) (fun f => ly_10 cy _ f) rfl g21 (by decide) h2 dX2_addSpell_60 (fun μ22 hμ24 => ?_)
              replace hf := of_lm hf hμ24
              refine V_in (fun ho23 _ => ?_)
              refine r_aload_n C 0 rfl rfl dX2_addSpell_61 ?_
              refine r_getf C 1 (by decide) rfl (fx_m rfl) (ly_1 cy _ _) rfl in_X2 2 (by decide) tw_35 (v := rf 11) rfl dX2_addSpell_62 ?_
              refine r_aload_n C 0 rfl rfl dX2_addSpell_65 ?_
              refine r_getf C 1 (by decide) rfl (fx_m rfl) (ly_1 cy _ _) rfl in_X2 3 (by decide) tw_36 (v := nu (μ22 1 3)) rfl dX2_addSpell_66 ?_
              refine r_iload_n C 3 rfl rfl dX2_addSpell_69 ?_
              obtain ⟨g25, hf⟩ := of_g hf
              refine r_iast C 11 (by decide) rfl (fx_m rfl) (by decide) 0 (cA := cy 0) (n := 40) (fun f => ly_11 cy _ f) rfl g25 (by decide) h3 dX2_addSpell_70 (fun μ26 hμ28 => ?_)
              replace hf := of_lm hf hμ28
              refine V_in (fun ho27 _ => ?_)
              refine r_aload_n C 0 rfl rfl dX2_addSpell_71 ?_
              refine r_dup C dX2_addSpell_72 ?_
              refine r_getf C 1 (by decide) rfl (fx_m rfl) (ly_1 cy _ _) rfl in_X2 3 (by decide) tw_36 (v := nu (μ26 1 3)) rfl dX2_addSpell_73 ?_
              refine r_iconst C dX2_addSpell_76 ?_
              refine r_iadd C dX2_addSpell_77 ?_
              obtain ⟨g29, hf⟩ := of_g hf
              refine r_putf C 1 (by decide) rfl (fx_m rfl) (by decide) (ly_1 cy _ _) 3 (ly_1 cy _ _) rfl (Nat.le_of_ble_eq_true rfl) g29 rfl in_X2 tyX2 tyX2_ok nmX2 (by decide) tw_36 rfl rfl dX2_addSpell_78 (fun μ30 hμ32 => ?_)
              replace hf := of_lm hf hμ32
              refine V_in (fun ho31 _ => ?_)
              refine r_iload_n C 1 rfl rfl dX2_addSpell_81 ?_
              refine r_if_ne C 91 h1 rfl dX2_addSpell_82 (fun c33 => ?_) (fun c33 => ?_)
              · replace hf := if_f hf c33
                refine r_aload_n C 0 rfl rfl dX2_addSpell_91 ?_
                refine r_getf C 1 (by decide) rfl (fx_m rfl) (ly_1 cy _ _) rfl in_X2 3 (by decide) tw_36 (v := nu (μ30 1 3)) rfl dX2_addSpell_92 ?_
                obtain ⟨rfl, rfl⟩ := of_ret hf
                exact r_iret C rfl (ho31 _ _) dX2_addSpell_95
              · replace hf := if_t hf c33
                refine r_aload_n C 0 rfl rfl dX2_addSpell_85 ?_
                refine r_iload_n C 2 rfl rfl dX2_addSpell_86 ?_
                refine r_iload_n C 3 rfl rfl dX2_addSpell_87 ?_
                obtain ⟨r34, μ35, hc36, hf⟩ := of_bd hf
                refine r_callVV C hCF (As := [nu a2, nu a3]) 1 (by decide) rfl (fx_m rfl) (ly_1 cy _ _) rfl (c_X2_addRun h2 h3 hc36) rfl (by decide) (by decide) ⟨Nat.le_refl 0, Nat.le_refl 0⟩ tw_388 tw_391 tw_2 tw_390 ts_0 2 (by decide) rfl (Nat.le_of_ble_eq_true rfl) dX2_addSpell_88 ?_
                refine V_in (fun ho37 _ => ?_)
                refine r_aload_n C 0 rfl rfl dX2_addSpell_91 ?_
                refine r_getf C 1 (by decide) rfl (fx_m rfl) (ly_1 cy _ _) rfl in_X2 3 (by decide) tw_36 (v := nu (μ35 1 3)) rfl dX2_addSpell_92 ?_
                obtain ⟨rfl, rfl⟩ := of_ret hf
                exact r_iret C rfl (ho37 _ _) dX2_addSpell_95
            · replace hf := if_f hf c16
              refine r_iconst C dX2_addSpell_39 ?_
              obtain ⟨rfl, rfl⟩ := of_ret hf
              exact r_iret C rfl (inR_lit rfl) dX2_addSpell_40
      · replace hf := if_f hf c3
        refine r_iconst C dX2_addSpell_18 ?_
        obtain ⟨rfl, rfl⟩ := of_ret hf
        exact r_iret C rfl (inR_lit rfl) dX2_addSpell_19
set_option maxHeartbeats 4000000 in
set_option maxRecDepth 100000 in
theorem w_X2_isOn_2 {p : Program} {l : Launch} {e : Env} {s : State} {m : MethodId} {args : Array Value} {below : List Frame} {meth : Method} {c : Code} {D : va_G} {cy : Nat → ClassId} {A : Nat → Prop} {ids : List Nat} {ad : Nat → Nat} {r : Int} {μ' : Mem} (C : Cx p s m args meth c D (tyl cy) A 4 cX2_isOn yX2_isOn.cls (some .boolean)) (hCF : CF ad A s) : ∀ n : Nat, ∀ (v1 v2 v3 : Int) (μ : Mem), inR v1 → inR v2 → inR v3 → f_X2_isOn_2   n v1 v2 v3 μ = some (r, μ') → V p l e (rmk 2) s m args below meth c 0 0 (MQ below (aI D (tyl cy) (lay cy) ids ad A r μ') args s 0 0 A) D A (lay cy) ids ad 4 μ 2 [some (rf 1), some (nu v1), some (nu v2), some (nu v3)] [] := by
  intro n
  induction n with
  | zero =>
    intro v1 v2 v3 μ hv1 hv2 hv3 hf
    cases hf
  | succ n ih =>
    intro v1 v2 v3 μ hv1 hv2 hv3 hf
    rw [f_X2_isOn_2_e] at hf
    refine V_in (fun ho0 _ => ?_)
    refine r_iload_n C 3 rfl rfl dX2_isOn_2 ?_
    refine r_aload_n C 0 rfl rfl dX2_isOn_3 ?_
    refine r_getf C 1 (by decide) rfl (fx_m rfl) (ly_1 cy _ _) rfl in_X2 3 (by decide) tw_36 (v := nu (μ 1 3)) rfl dX2_isOn_4 ?_
    refine r_icmp_ge C 48 hv3 (ho0 _ _) rfl dX2_isOn_7 (fun c1 => ?_) (fun c1 => ?_)
    · replace hf := if_t hf c1
      refine r_iconst C dX2_isOn_48 ?_
      obtain ⟨rfl, rfl⟩ := of_ret hf
      exact r_zret C rfl (by decide) dX2_isOn_49
    · replace hf := if_f hf c1
      refine r_aload_n C 0 rfl rfl dX2_isOn_10 ?_
      refine r_getf C 1 (by decide) rfl (fx_m rfl) (ly_1 cy _ _) rfl in_X2 0 (by decide) tw_33 (v := rf 9) rfl dX2_isOn_11 ?_
      refine r_iload_n C 3 rfl rfl dX2_isOn_14 ?_
      obtain ⟨g2, hf⟩ := of_g hf
      refine r_iald C 9 (by decide) rfl (fx_m rfl) 0 (cA := cy 0) (n := 40) (ly_9 cy _ _) rfl g2 (by decide) dX2_isOn_15 ?_
      refine r_iload_n C 1 rfl rfl dX2_isOn_16 ?_
      refine r_icmp_ne C 42 (ho0 _ _) hv1 rfl dX2_isOn_17 (fun c3 => ?_) (fun c3 => ?_)
      · replace hf := if_f hf c3
        refine r_iinc C rfl (lw := [some (rf 1), some (nu v1), some (nu v2), some (nu (v3 + 1))]) rfl (by decide) dX2_isOn_42 ?_
        refine r_goto C 2 rfl dX2_isOn_45 ?_
        obtain ⟨g4, hf⟩ := of_g hf
        exact V_lw (ih v1 v2 (v3 + 1) μ hv1 hv2 g4 hf) (And.intro rfl (And.intro rfl (And.intro rfl (And.intro rfl trivial))))
      · replace hf := if_t hf c3
        refine r_aload_n C 0 rfl rfl dX2_isOn_20 ?_
        refine r_getf C 1 (by decide) rfl (fx_m rfl) (ly_1 cy _ _) rfl in_X2 1 (by decide) tw_34 (v := rf 10) rfl dX2_isOn_21 ?_
        refine r_iload_n C 3 rfl rfl dX2_isOn_24 ?_
        refine r_iald C 10 (by decide) rfl (fx_m rfl) 0 (cA := cy 0) (n := 40) (ly_10 cy _ _) rfl g2 (by decide) dX2_isOn_25 ?_
        refine r_iload_n C 2 rfl rfl dX2_isOn_26 ?_
        refine r_icmp_gt C 42 (ho0 _ _) hv2 rfl dX2_isOn_27 (fun c5 => ?_) (fun c5 => ?_)
        · replace hf := if_t hf c5
          refine r_iinc C rfl (lw := [some (rf 1), some (nu v1), some (nu v2), some (nu (v3 + 1))]) rfl (by decide) dX2_isOn_42 ?_
          refine r_goto C 2 rfl dX2_isOn_45 ?_
          obtain ⟨g6, hf⟩ := of_g hf
          exact V_lw (ih v1 v2 (v3 + 1) μ hv1 hv2 g6 hf) (And.intro rfl (And.intro rfl (And.intro rfl (And.intro rfl trivial))))
        · replace hf := if_f hf c5
          refine r_iload_n C 2 rfl rfl dX2_isOn_30 ?_
          refine r_aload_n C 0 rfl rfl dX2_isOn_31 ?_
          refine r_getf C 1 (by decide) rfl (fx_m rfl) (ly_1 cy _ _) rfl in_X2 2 (by decide) tw_35 (v := rf 11) rfl dX2_isOn_32 ?_
          refine r_iload_n C 3 rfl rfl dX2_isOn_35 ?_
          refine r_iald C 11 (by decide) rfl (fx_m rfl) 0 (cA := cy 0) (n := 40) (ly_11 cy _ _) rfl g2 (by decide) dX2_isOn_36 ?_
          refine r_icmp_gt C 42 hv2 (ho0 _ _) rfl dX2_isOn_37 (fun c7 => ?_) (fun c7 => ?_)
          · replace hf := if_t hf c7
            refine r_iinc C rfl (lw := [some (rf 1), some (nu v1), some (nu v2), some (nu (v3 + 1))]) rfl (by decide) dX2_isOn_42 ?_
            refine r_goto C 2 rfl dX2_isOn_45 ?_
            obtain ⟨g8, hf⟩ := of_g hf
            exact V_lw (ih v1 v2 (v3 + 1) μ hv1 hv2 g8 hf) (And.intro rfl (And.intro rfl (And.intro rfl (And.intro rfl trivial))))
          · replace hf := if_f hf c7
            refine r_iconst C dX2_isOn_40 ?_
            obtain ⟨rfl, rfl⟩ := of_ret hf
            exact r_zret C rfl (by decide) dX2_isOn_41
set_option maxHeartbeats 4000000 in
set_option maxRecDepth 100000 in
theorem c_X2_isOn {l : Launch} {D : va_G} {cy : Nat → ClassId} {ids : List Nat} {ad : Nat → Nat} {μ μ' : Mem} {a1 a2 r : Int} (h1 : inR a1) (h2 : inR a2) (hf : f_X2_isOn μ a1 a2 = some (r, μ')) : KK aI l D (tyl cy) (lay cy) ids ad 2 yX2_isOn cX2_isOn 4 (some .boolean) [rf 1, nu a1, nu a2] μ r μ' := by
  refine KK.of (by decide +kernel) (Nat.le_of_ble_eq_true rfl) ?_
  intro p e s m args below meth c A C hCF
  unfold f_X2_isOn at hf
  refine V_in (fun ho0 _ => ?_)
  refine r_iconst C dX2_isOn_0 ?_
  refine r_istore_n C 3 (lw := [some (rf 1), some (nu a1), some (nu a2), some (nu 0)]) rfl rfl (by decide) dX2_isOn_1 ?_
  exact V_lw (w_X2_isOn_2 C hCF 64 a1 a2 0 μ h1 h2 (inR_lit rfl) hf) (And.intro rfl (And.intro rfl (And.intro rfl (And.intro rfl trivial))))
set_option maxHeartbeats 4000000 in
set_option maxRecDepth 100000 in
theorem c_X4_wantsHaul {l : Launch} {D : va_G} {cy : Nat → ClassId} {ids : List Nat} {ad : Nat → Nat} {μ μ' : Mem} {x0 r : Int}  (hf : f_X4_wantsHaul μ x0 = some (r, μ')) : KK aI l D (tyl cy) (lay cy) ids ad 2 yX4_wantsHaul cX4_wantsHaul 1 (some .boolean) [rf x0] μ r μ' := by
  refine KK.of (by decide +kernel) (Nat.le_of_ble_eq_true rfl) ?_
  intro p e s m args below meth c A C hCF
  unfold f_X4_wantsHaul at hf
  refine V_in (fun ho0 _ => ?_)
  refine r_aload_n C 0 rfl rfl dX4_wantsHaul_0 ?_
  obtain ⟨g1, hf⟩ := of_g hf
  refine r_getf C _ (st_0 g1) rfl (st_m g1) (ly_st cy _ g1 _) rfl in_X4 2 (by decide) tw_555 (v := nu (μ x0.toNat 2)) rfl dX4_wantsHaul_1 ?_
  refine r_iconst C dX4_wantsHaul_4 ?_
  refine r_icmp_eq C 24 (ho0 _ _) (inR_lit rfl) rfl dX4_wantsHaul_5 (fun c2 => ?_) (fun c2 => ?_)
  · replace hf := if_t hf c2
    refine r_iconst C dX4_wantsHaul_24 ?_
    refine r_goto C 29 rfl dX4_wantsHaul_25 ?_
    obtain ⟨rfl, rfl⟩ := of_ret hf
    exact r_zret C rfl (by decide) dX4_wantsHaul_29
  · replace hf := if_f hf c2
    refine r_aload_n C 0 rfl rfl dX4_wantsHaul_8 ?_
    refine r_getf C _ (st_0 g1) rfl (st_m g1) (ly_st cy _ g1 _) rfl in_X4 2 (by decide) tw_555 (v := nu (μ x0.toNat 2)) rfl dX4_wantsHaul_9 ?_
    refine r_iconst C dX4_wantsHaul_12 ?_
    refine r_icmp_eq C 24 (ho0 _ _) (inR_lit rfl) rfl dX4_wantsHaul_13 (fun c3 => ?_) (fun c3 => ?_)
    · replace hf := if_t hf c3
      refine r_iconst C dX4_wantsHaul_24 ?_
      refine r_goto C 29 rfl dX4_wantsHaul_25 ?_
      obtain ⟨rfl, rfl⟩ := of_ret hf
      exact r_zret C rfl (by decide) dX4_wantsHaul_29
    · replace hf := if_f hf c3
      refine r_aload_n C 0 rfl rfl dX4_wantsHaul_16 ?_
      refine r_getf C _ (st_0 g1) rfl (st_m g1) (ly_st cy _ g1 _) rfl in_X4 2 (by decide) tw_555 (v := nu (μ x0.toNat 2)) rfl dX4_wantsHaul_17 ?_
      refine r_iconst C dX4_wantsHaul_20 ?_
      refine r_icmp_ne C 28 (ho0 _ _) (inR_lit rfl) rfl dX4_wantsHaul_21 (fun c4 => ?_) (fun c4 => ?_)
      · replace hf := if_f hf c4
        refine r_iconst C dX4_wantsHaul_28 ?_
        obtain ⟨rfl, rfl⟩ := of_ret hf
        exact r_zret C rfl (by decide) dX4_wantsHaul_29
      · replace hf := if_t hf c4
        refine r_iconst C dX4_wantsHaul_24 ?_
        refine r_goto C 29 rfl dX4_wantsHaul_25 ?_
        obtain ⟨rfl, rfl⟩ := of_ret hf
        exact r_zret C rfl (by decide) dX4_wantsHaul_29
set_option maxHeartbeats 4000000 in
set_option maxRecDepth 100000 in
theorem c_X6_pullOf {l : Launch} {D : va_G} {cy : Nat → ClassId} {ids : List Nat} {ad : Nat → Nat} {μ μ' : Mem} {a1 a2 r : Int} (h2 : inR a2) (hf : f_X6_pullOf μ a1 a2 = some (r, μ')) : KK aI l D (tyl cy) (lay cy) ids ad 6 yX6_pullOf cX6_pullOf 3 (some .int) [rf 4, rf a1, nu a2] μ r μ' := by
  refine KK.of (by decide +kernel) (Nat.le_of_ble_eq_true rfl) ?_
  intro p e s m args below meth c A C hCF
  unfold f_X6_pullOf at hf
  refine V_in (fun ho0 _ => ?_)
  refine r_aload_n C 1 rfl rfl dX6_pullOf_0 ?_
  obtain ⟨g1, hf⟩ := of_g hf
  obtain ⟨r2, μ3, hc4, hf⟩ := of_bd hf
  refine r_callVI C hCF (As := []) _ (st_0 g1) rfl (st_m g1) (ly_st cy _ g1 _) rfl (c_X4_wantsHaul hc4) rfl (by decide) (by decide) ⟨Nat.le_refl 0, Nat.le_refl 0⟩ tw_615 tw_618 tw_17 tw_616 tw_617 0 (by decide) rfl (Nat.le_of_ble_eq_true rfl) dX6_pullOf_1 (fun hr6 => ?_)
  refine V_in (fun ho5 _ => ?_)
  refine r_if_ne C 9 hr6 rfl dX6_pullOf_4 (fun c7 => ?_) (fun c7 => ?_)
  · replace hf := if_f hf c7
    refine r_aload_n C 1 rfl rfl dX6_pullOf_9 ?_
    obtain ⟨g8, hf⟩ := of_g hf
    refine r_getfN C _ (st_0 g8) rfl (st_m g8) (ly_st cy _ g8 _) rfl in_X4 2 (by decide) tw_556 (v := nu (μ3 a1.toNat 2)) rfl dX6_pullOf_10 ?_
    refine r_iconst C dX6_pullOf_13 ?_
    refine r_icmp_ne C 35 (ho5 _ _) (inR_lit rfl) rfl dX6_pullOf_14 (fun c9 => ?_) (fun c9 => ?_)
    · replace hf := if_f hf c9
      refine r_aload_n C 0 rfl rfl dX6_pullOf_35 ?_
      refine r_aload_n C 1 rfl rfl dX6_pullOf_36 ?_
      refine r_getfN C _ (st_0 g8) rfl (st_m g8) (ly_st cy _ g8 _) rfl in_X4 0 (by decide) tw_549 (v := nu (μ3 a1.toNat 0)) rfl dX6_pullOf_37 ?_
      refine r_iload_n C 2 rfl rfl dX6_pullOf_40 ?_
      refine r_if_eq C 48 h2 rfl dX6_pullOf_41 (fun c10 => ?_) (fun c10 => ?_)
      · replace hf := if_t hf c10
        refine r_iconst C dX6_pullOf_48 ?_
        obtain ⟨r11, μ12, hc13, hf⟩ := of_bd hf
        refine r_callVI C hCF (As := [nu (μ3 a1.toNat 0), nu 0]) 4 (by decide) rfl (fx_m rfl) (ly_4 cy _ _) rfl (c_X6_pullOfWeight (ho5 _ _) (inR_lit rfl) hc13) rfl (by decide) (by decide) ⟨Nat.le_refl 0, Nat.le_refl 0⟩ tw_619 tw_622 tw_5 tw_620 tw_621 2 (by decide) rfl (Nat.le_of_ble_eq_true rfl) dX6_pullOf_49 (fun hr15 => ?_)
        refine V_in (fun ho14 _ => ?_)
        obtain ⟨rfl, rfl⟩ := of_ret hf
        exact r_iret C rfl hr15 dX6_pullOf_52
      · replace hf := if_f hf c10
        refine r_iconst C dX6_pullOf_44 ?_
        refine r_goto C 49 rfl dX6_pullOf_45 ?_
        obtain ⟨r16, μ17, hc18, hf⟩ := of_bd hf
        refine r_callVI C hCF (As := [nu (μ3 a1.toNat 0), nu 1]) 4 (by decide) rfl (fx_m rfl) (ly_4 cy _ _) rfl (c_X6_pullOfWeight (ho5 _ _) (inR_lit rfl) hc18) rfl (by decide) (by decide) ⟨Nat.le_refl 0, Nat.le_refl 0⟩ tw_619 tw_622 tw_5 tw_620 tw_621 2 (by decide) rfl (Nat.le_of_ble_eq_true rfl) dX6_pullOf_49 (fun hr20 => ?_)
        refine V_in (fun ho19 _ => ?_)
        obtain ⟨rfl, rfl⟩ := of_ret hf
        exact r_iret C rfl hr20 dX6_pullOf_52
    · replace hf := if_t hf c9
      refine r_aload_n C 0 rfl rfl dX6_pullOf_17 ?_
      refine r_aload_n C 1 rfl rfl dX6_pullOf_18 ?_
      refine r_getfN C _ (st_0 g8) rfl (st_m g8) (ly_st cy _ g8 _) rfl in_X4 0 (by decide) tw_549 (v := nu (μ3 a1.toNat 0)) rfl dX6_pullOf_19 ?_
      refine r_iload_n C 2 rfl rfl dX6_pullOf_22 ?_
      refine r_if_eq C 30 h2 rfl dX6_pullOf_23 (fun c21 => ?_) (fun c21 => ?_)
      · replace hf := if_t hf c21
        refine r_iconst C dX6_pullOf_30 ?_
        obtain ⟨r22, μ23, hc24, hf⟩ := of_bd hf
        refine r_callVI C hCF (As := [nu (μ3 a1.toNat 0), nu 2]) 4 (by decide) rfl (fx_m rfl) (ly_4 cy _ _) rfl (c_X6_pullOfWeight (ho5 _ _) (inR_lit rfl) hc24) rfl (by decide) (by decide) ⟨Nat.le_refl 0, Nat.le_refl 0⟩ tw_619 tw_622 tw_5 tw_620 tw_621 2 (by decide) rfl (Nat.le_of_ble_eq_true rfl) dX6_pullOf_31 (fun hr26 => ?_)
        refine V_in (fun ho25 _ => ?_)
        obtain ⟨rfl, rfl⟩ := of_ret hf
        exact r_iret C rfl hr26 dX6_pullOf_34
      · replace hf := if_f hf c21
        refine r_iconst C dX6_pullOf_26 ?_
        refine r_goto C 31 rfl dX6_pullOf_27 ?_
        obtain ⟨r27, μ28, hc29, hf⟩ := of_bd hf
        refine r_callVI C hCF (As := [nu (μ3 a1.toNat 0), nu 3]) 4 (by decide) rfl (fx_m rfl) (ly_4 cy _ _) rfl (c_X6_pullOfWeight (ho5 _ _) (inR_lit rfl) hc29) rfl (by decide) (by decide) ⟨Nat.le_refl 0, Nat.le_refl 0⟩ tw_619 tw_622 tw_5 tw_620 tw_621 2 (by decide) rfl (Nat.le_of_ble_eq_true rfl) dX6_pullOf_31 (fun hr31 => ?_)
        refine V_in (fun ho30 _ => ?_)
        obtain ⟨rfl, rfl⟩ := of_ret hf
        exact r_iret C rfl hr31 dX6_pullOf_34
  · replace hf := if_t hf c7
    refine r_iconst C dX6_pullOf_7 ?_
    obtain ⟨rfl, rfl⟩ := of_ret hf
    exact r_iret C rfl (inR_lit rfl) dX6_pullOf_8
set_option maxHeartbeats 4000000 in
set_option maxRecDepth 100000 in
theorem c_X6_lengthOfNext {l : Launch} {D : va_G} {cy : Nat → ClassId} {ids : List Nat} {ad : Nat → Nat} {μ μ' : Mem} {a1 r : Int}  (hf : f_X6_lengthOfNext μ a1 = some (r, μ')) : KK aI l D (tyl cy) (lay cy) ids ad 4 yX6_lengthOfNext cX6_lengthOfNext 2 (some .int) [rf 4, rf a1] μ r μ' := by
  refine KK.of (by decide +kernel) (Nat.le_of_ble_eq_true rfl) ?_
  intro p e s m args below meth c A C hCF
  unfold f_X6_lengthOfNext at hf
  refine V_in (fun ho0 _ => ?_)
  refine r_aload_n C 1 rfl rfl dX6_lengthOfNext_0 ?_
  obtain ⟨g1, hf⟩ := of_g hf
  refine r_getfN C _ (st_0 g1) rfl (st_m g1) (ly_st cy _ g1 _) rfl in_X4 2 (by decide) tw_556 (v := nu (μ a1.toNat 2)) rfl dX6_lengthOfNext_1 ?_
  by_cases c2 : (μ a1.toNat 2) = 0
  · replace hf := if_t hf c2
    refine r_swIn C 36 0 c2 (inR_lit rfl) (by decide) (by decide) rfl rfl dX6_lengthOfNext_4 ?_
    refine r_aload_n C 1 rfl rfl dX6_lengthOfNext_36 ?_
    refine r_getfN C _ (st_0 g1) rfl (st_m g1) (ly_st cy _ g1 _) rfl in_X4 0 (by decide) tw_549 (v := nu (μ a1.toNat 0)) rfl dX6_lengthOfNext_37 ?_
    refine r_aload_n C 0 rfl rfl dX6_lengthOfNext_40 ?_
    refine r_iconst C dX6_lengthOfNext_41 ?_
    obtain ⟨r3, μ4, hc5, hf⟩ := of_bd hf
    refine r_callVI C hCF (As := [nu 4]) 4 (by decide) rfl (fx_m rfl) (ly_4 cy _ _) rfl (c_X6_numberAt (inR_lit rfl) hc5) rfl (by decide) (by decide) ⟨Nat.le_refl 0, Nat.le_refl 0⟩ tw_623 tw_626 tw_5 tw_624 tw_625 1 (by decide) rfl (Nat.le_of_ble_eq_true rfl) dX6_lengthOfNext_42 (fun hr7 => ?_)
    refine V_in (fun ho6 _ => ?_)
    refine r_imul C dX6_lengthOfNext_45 ?_
    obtain ⟨g8, hf⟩ := of_g hf
    obtain ⟨rfl, rfl⟩ := of_ret hf
    exact r_iret C rfl g8 dX6_lengthOfNext_46
  replace hf := if_f hf c2
  by_cases c9 : (μ a1.toNat 2) = 1
  · replace hf := if_t hf c9
    refine r_swIn C 47 1 c9 (inR_lit rfl) (by decide) (by decide) rfl rfl dX6_lengthOfNext_4 ?_
    refine r_aload_n C 0 rfl rfl dX6_lengthOfNext_47 ?_
    refine r_iconst C dX6_lengthOfNext_48 ?_
    obtain ⟨r10, μ11, hc12, hf⟩ := of_bd hf
    refine r_callVI C hCF (As := [nu 5]) 4 (by decide) rfl (fx_m rfl) (ly_4 cy _ _) rfl (c_X6_numberAt (inR_lit rfl) hc12) rfl (by decide) (by decide) ⟨Nat.le_refl 0, Nat.le_refl 0⟩ tw_623 tw_626 tw_5 tw_624 tw_625 1 (by decide) rfl (Nat.le_of_ble_eq_true rfl) dX6_lengthOfNext_49 (fun hr14 => ?_)
    refine V_in (fun ho13 _ => ?_)
    obtain ⟨rfl, rfl⟩ := of_ret hf
    exact r_iret C rfl hr14 dX6_lengthOfNext_52
  replace hf := if_f hf c9
  by_cases c15 : (μ a1.toNat 2) = 2
  · replace hf := if_t hf c15
    refine r_swIn C 53 2 c15 (inR_lit rfl) (by decide) (by decide) rfl rfl dX6_lengthOfNext_4 ?_
    refine r_aload_n C 0 rfl rfl dX6_lengthOfNext_53 ?_
    refine r_bipush C dX6_lengthOfNext_54 rfl ?_
    obtain ⟨r16, μ17, hc18, hf⟩ := of_bd hf
    refine r_callVI C hCF (As := [nu 6]) 4 (by decide) rfl (fx_m rfl) (ly_4 cy _ _) rfl (c_X6_numberAt (inR_lit rfl) hc18) rfl (by decide) (by decide) ⟨Nat.le_refl 0, Nat.le_refl 0⟩ tw_623 tw_626 tw_5 tw_624 tw_625 1 (by decide) rfl (Nat.le_of_ble_eq_true rfl) dX6_lengthOfNext_56 (fun hr20 => ?_)
    refine V_in (fun ho19 _ => ?_)
    obtain ⟨rfl, rfl⟩ := of_ret hf
    exact r_iret C rfl hr20 dX6_lengthOfNext_59
  replace hf := if_f hf c15
  by_cases c21 : (μ a1.toNat 2) = 3
  · replace hf := if_t hf c21
    refine r_swIn C 60 3 c21 (inR_lit rfl) (by decide) (by decide) rfl rfl dX6_lengthOfNext_4 ?_
    refine r_aload_n C 1 rfl rfl dX6_lengthOfNext_60 ?_
    refine r_getfN C _ (st_0 g1) rfl (st_m g1) (ly_st cy _ g1 _) rfl in_X4 1 (by decide) tw_553 (v := nu (μ a1.toNat 1)) rfl dX6_lengthOfNext_61 ?_
    refine r_iconst C dX6_lengthOfNext_64 ?_
    refine r_iadd C dX6_lengthOfNext_65 ?_
    obtain ⟨g22, hf⟩ := of_g hf
    obtain ⟨rfl, rfl⟩ := of_ret hf
    exact r_iret C rfl g22 dX6_lengthOfNext_66
  replace hf := if_f hf c21
  refine r_swOut C 67 (ho0 _ _) (by omega) rfl dX6_lengthOfNext_4 ?_
  refine r_iconst C dX6_lengthOfNext_67 ?_
  obtain ⟨rfl, rfl⟩ := of_ret hf
  exact r_iret C rfl (inR_lit rfl) dX6_lengthOfNext_68
set_option maxHeartbeats 4000000 in
set_option maxRecDepth 100000 in
theorem w_X5_landBoats_2 {p : Program} {l : Launch} {e : Env} {s : State} {m : MethodId} {args : Array Value} {below : List Frame} {meth : Method} {c : Code} {D : va_G} {cy : Nat → ClassId} {A : Nat → Prop} {ids : List Nat} {ad : Nat → Nat} {r : Int} {μ' : Mem} (C : Cx p s m args meth c D (tyl cy) A 3 cX5_landBoats yX5_landBoats.cls none) (hCF : CF ad A s) : ∀ n : Nat, ∀ (v1 v2 : Int) (μ : Mem), inR v1 → inR v2 → f_X5_landBoats_2   n v1 v2 μ = some (r, μ') → V p l e (rmk 4) s m args below meth c 0 0 (MQ below (aV D (tyl cy) (lay cy) ids ad A r μ') args s 0 0 A) D A (lay cy) ids ad 3 μ 2 [some (rf 2), some (nu v1), some (nu v2)] [] := by
  intro n
  induction n with
  | zero =>
    intro v1 v2 μ hv1 hv2 hf
    cases hf
  | succ n ih =>
    intro v1 v2 μ hv1 hv2 hf
    rw [f_X5_landBoats_2_e] at hf
    refine V_in (fun ho0 _ => ?_)
    refine r_iload_n C 2 rfl rfl dX5_landBoats_2 ?_
    refine r_aload_n C 0 rfl rfl dX5_landBoats_3 ?_
    refine r_getf C 2 (by decide) rfl (fx_m rfl) (ly_2 cy _ _) rfl in_X5 2 (by decide) tw_65 (v := nu (μ 2 2)) rfl dX5_landBoats_4 ?_
    refine r_icmp_ge C 46 hv2 (ho0 _ _) rfl dX5_landBoats_7 (fun c1 => ?_) (fun c1 => ?_)
    · replace hf := if_t hf c1
      obtain ⟨-, rfl⟩ := of_ret hf
      exact r_vret C rfl dX5_landBoats_46
    · replace hf := if_f hf c1
      refine r_aload_n C 0 rfl rfl dX5_landBoats_10 ?_
      refine r_getf C 2 (by decide) rfl (fx_m rfl) (ly_2 cy _ _) rfl in_X5 0 (by decide) tw_63 (v := rf 14) rfl dX5_landBoats_11 ?_
      refine r_iload_n C 2 rfl rfl dX5_landBoats_14 ?_
      obtain ⟨g2, hf⟩ := of_g hf
      refine r_iald C 14 (by decide) rfl (fx_m rfl) 0 (cA := cy 0) (n := 40) (ly_14 cy _ _) rfl g2 (by decide) dX5_landBoats_15 ?_
      refine r_iload_n C 1 rfl rfl dX5_landBoats_16 ?_
      refine r_icmp_ne C 40 (ho0 _ _) hv1 rfl dX5_landBoats_17 (fun c3 => ?_) (fun c3 => ?_)
      · replace hf := if_f hf c3
        refine r_iinc C rfl (lw := [some (rf 2), some (nu v1), some (nu (v2 + 1))]) rfl (by decide) dX5_landBoats_40 ?_
        refine r_goto C 2 rfl dX5_landBoats_43 ?_
        obtain ⟨g4, hf⟩ := of_g hf
        exact V_lw (ih v1 (v2 + 1) μ hv1 g4 hf) (And.intro rfl (And.intro rfl (And.intro rfl trivial)))
      · replace hf := if_t hf c3
        refine r_aload_n C 0 rfl rfl dX5_landBoats_20 ?_
        refine r_ldc C (n := 10000000) tw_683 rfl dX5_landBoats_21 ?_
        refine r_aload_n C 0 rfl rfl dX5_landBoats_23 ?_
        refine r_getf C 2 (by decide) rfl (fx_m rfl) (ly_2 cy _ _) rfl in_X5 3 (by decide) tw_67 (v := nu (μ 2 3)) rfl dX5_landBoats_24 ?_
        refine r_aload_n C 0 rfl rfl dX5_landBoats_27 ?_
        refine r_getf C 2 (by decide) rfl (fx_m rfl) (ly_2 cy _ _) rfl in_X5 1 (by decide) tw_64 (v := rf 15) rfl dX5_landBoats_28 ?_
        refine r_iload_n C 2 rfl rfl dX5_landBoats_31 ?_
        refine r_iald C 15 (by decide) rfl (fx_m rfl) 0 (cA := cy 0) (n := 40) (ly_15 cy _ _) rfl g2 (by decide) dX5_landBoats_32 ?_
        refine r_iadd C dX5_landBoats_33 ?_
        obtain ⟨g5, hf⟩ := of_g hf
        obtain ⟨r6, μ7, hc8, hf⟩ := of_bd hf
        refine r_callSI C hCF (As := [nu 10000000, nu ((μ 2 3) + (μ 15 v2.toNat))]) (c_J9_min_7cf53 (inR_lit rfl) g5 hc8) rfl (by decide) (by decide) ⟨Nat.le_refl 0, Nat.le_refl 0⟩ tw_684 tw_394 tw_12 tw_393 2 (by decide) rfl (Nat.le_of_ble_eq_true rfl) dX5_landBoats_34 (fun hr10 => ?_)
        refine V_in (fun ho9 _ => ?_)
        refine r_putf C 2 (by decide) rfl (fx_m rfl) (by decide) (ly_2 cy _ _) 3 (ly_2 cy _ _) rfl (Nat.le_of_ble_eq_true rfl) hr10 rfl in_X5 tyX5 tyX5_ok nmX5 (by decide) tw_67 rfl rfl dX5_landBoats_37 (fun μ11 hμ13 => ?_)
        replace hf := of_lm hf hμ13
        refine V_in (fun ho12 _ => ?_)
        refine r_iinc C rfl (lw := [some (rf 2), some (nu v1), some (nu (v2 + 1))]) rfl (by decide) dX5_landBoats_40 ?_
        refine r_goto C 2 rfl dX5_landBoats_43 ?_
        obtain ⟨g14, hf⟩ := of_g hf
        exact V_lw (ih v1 (v2 + 1) μ11 hv1 g14 hf) (And.intro rfl (And.intro rfl (And.intro rfl trivial)))
set_option maxHeartbeats 4000000 in
set_option maxRecDepth 100000 in
theorem c_X5_landBoats {l : Launch} {D : va_G} {cy : Nat → ClassId} {ids : List Nat} {ad : Nat → Nat} {μ μ' : Mem} {a1 r : Int} (h1 : inR a1) (hf : f_X5_landBoats μ a1 = some (r, μ')) : KK aV l D (tyl cy) (lay cy) ids ad 4 yX5_landBoats cX5_landBoats 3 none [rf 2, nu a1] μ r μ' := by
  refine KK.of (by decide +kernel) (Nat.le_of_ble_eq_true rfl) ?_
  intro p e s m args below meth c A C hCF
  unfold f_X5_landBoats at hf
  refine V_in (fun ho0 _ => ?_)
  refine r_iconst C dX5_landBoats_0 ?_
  refine r_istore_n C 2 (lw := [some (rf 2), some (nu a1), some (nu 0)]) rfl rfl (by decide) dX5_landBoats_1 ?_
  exact V_lw (w_X5_landBoats_2 C hCF 64 a1 0 μ h1 (inR_lit rfl) hf) (And.intro rfl (And.intro rfl (And.intro rfl trivial)))
set_option maxHeartbeats 4000000 in
set_option maxRecDepth 100000 in
theorem c_X5_addBoat {l : Launch} {D : va_G} {cy : Nat → ClassId} {ids : List Nat} {ad : Nat → Nat} {μ μ' : Mem} {a1 a2 r : Int} (h1 : inR a1) (h2 : inR a2) (hf : f_X5_addBoat μ a1 a2 = some (r, μ')) : KK aI l D (tyl cy) (lay cy) ids ad 4 yX5_addBoat cX5_addBoat 3 (some .int) [rf 2, nu a1, nu a2] μ r μ' := by
  refine KK.of (by decide +kernel) (Nat.le_of_ble_eq_true rfl) ?_
  intro p e s m args below meth c A C hCF
  unfold f_X5_addBoat at hf
  refine V_in (fun ho0 _ => ?_)
  refine r_aload_n C 0 rfl rfl dX5_addBoat_0 ?_
  refine r_getf C 2 (by decide) rfl (fx_m rfl) (ly_2 cy _ _) rfl in_X5 2 (by decide) tw_65 (v := nu (μ 2 2)) rfl dX5_addBoat_1 ?_
  refine r_bipush C dX5_addBoat_4 rfl ?_
  refine r_icmp_ge C 27 (ho0 _ _) (inR_lit rfl) rfl dX5_addBoat_6 (fun c1 => ?_) (fun c1 => ?_)
  · replace hf := if_t hf c1
    refine r_iconst C dX5_addBoat_27 ?_
    obtain ⟨rfl, rfl⟩ := of_ret hf
    exact r_iret C rfl (inR_lit rfl) dX5_addBoat_28
  · replace hf := if_f hf c1
    refine r_iload_n C 1 rfl rfl dX5_addBoat_9 ?_
    obtain ⟨r2, μ3, hc4, hf⟩ := of_bd hf
    refine r_callSNI C hCF (As := [nu a1]) (c_X10_isDay h1 hc4) rfl (by decide) (by decide) ⟨Nat.le_refl 0, Nat.le_refl 0⟩ tw_375 tw_377 tw_1 tw_376 1 (by decide) rfl (Nat.le_of_ble_eq_true rfl) dX5_addBoat_10 (fun hr6 => ?_)
    refine V_in (fun ho5 _ => ?_)
    refine r_if_eq C 27 hr6 rfl dX5_addBoat_13 (fun c7 => ?_) (fun c7 => ?_)
    · replace hf := if_t hf c7
      refine r_iconst C dX5_addBoat_27 ?_
      obtain ⟨rfl, rfl⟩ := of_ret hf
      exact r_iret C rfl (inR_lit rfl) dX5_addBoat_28
    · replace hf := if_f hf c7
      refine r_iload_n C 2 rfl rfl dX5_addBoat_16 ?_
      refine r_iconst C dX5_addBoat_17 ?_
      refine r_icmp_lt C 27 h2 (inR_lit rfl) rfl dX5_addBoat_18 (fun c8 => ?_) (fun c8 => ?_)
      · replace hf := if_t hf c8
        refine r_iconst C dX5_addBoat_27 ?_
        obtain ⟨rfl, rfl⟩ := of_ret hf
        exact r_iret C rfl (inR_lit rfl) dX5_addBoat_28
      · replace hf := if_f hf c8
        refine r_iload_n C 2 rfl rfl dX5_addBoat_21 ?_
        refine r_ldc C (n := 1000000) tw_378 rfl dX5_addBoat_22 ?_
        refine r_icmp_le C 29 h2 (inR_lit rfl) rfl dX5_addBoat_24 (fun c9 => ?_) (fun c9 => ?_)
        · replace hf := if_t hf c9
          refine r_aload_n C 0 rfl rfl dX5_addBoat_29 ?_
          refine r_getf C 2 (by decide) rfl (fx_m rfl) (ly_2 cy _ _) rfl in_X5 0 (by decide) tw_63 (v := rf 14) rfl dX5_addBoat_30 ?_
          refine r_aload_n C 0 rfl rfl dX5_addBoat_33 ?_
          refine r_getf C 2 (by decide) rfl (fx_m rfl) (ly_2 cy _ _) rfl in_X5 2 (by decide) tw_65 (v := nu (μ3 2 2)) rfl dX5_addBoat_34 ?_
          refine r_iload_n C 1 rfl rfl dX5_addBoat_37 ?_
          obtain ⟨g10, hf⟩ := of_g hf
          refine r_iast C 14 (by decide) rfl (fx_m rfl) (by decide) 0 (cA := cy 0) (n := 40) (fun f => ly_14 cy _ f) rfl g10 (by decide) h1 dX5_addBoat_38 (fun μ11 hμ13 => ?_)
          replace hf := of_lm hf hμ13
          refine V_in (fun ho12 _ => ?_)
          refine r_aload_n C 0 rfl rfl dX5_addBoat_39 ?_
          refine r_getf C 2 (by decide) rfl (fx_m rfl) (ly_2 cy _ _) rfl in_X5 1 (by decide) tw_64 (v := rf 15) rfl dX5_addBoat_40 ?_
          refine r_aload_n C 0 rfl rfl dX5_addBoat_43 ?_
          refine r_getf C 2 (by decide) rfl (fx_m rfl) (ly_2 cy _ _) rfl in_X5 2 (by decide) tw_65 (v := nu (μ11 2 2)) rfl dX5_addBoat_44 ?_
          refine r_iload_n C 2 rfl rfl dX5_addBoat_47 ?_
          obtain ⟨g14, hf⟩ := of_g hf
          refine r_iast C 15 (by decide) rfl (fx_m rfl) (by decide) 0 (cA := cy 0) (n := 40) (fun f => ly_15 cy _ f) rfl g14 (by decide) h2 dX5_addBoat_48 (fun μ15 hμ17 => ?_)
          replace hf := of_lm hf hμ17
          refine V_in (fun ho16 _ => ?_)
          refine r_aload_n C 0 rfl rfl dX5_addBoat_49 ?_
          refine r_dup C dX5_addBoat_50 ?_
          refine r_getf C 2 (by decide) rfl (fx_m rfl) (ly_2 cy _ _) rfl in_X5 2 (by decide) tw_65 (v := nu (μ15 2 2)) rfl dX5_addBoat_51 ?_
          refine r_iconst C dX5_addBoat_54 ?_
          refine r_iadd C dX5_addBoat_55 ?_
          obtain ⟨g18, hf⟩ := of_g hf
          refine r_putf C 2 (by decide) rfl (fx_m rfl) (by decide) (ly_2 cy _ _) 2 (ly_2 cy _ _) rfl (Nat.le_of_ble_eq_true rfl) g18 rfl in_X5 tyX5 tyX5_ok nmX5 (by decide) tw_65 rfl rfl dX5_addBoat_56 (fun μ19 hμ21 => ?_)
          replace hf := of_lm hf hμ21
          refine V_in (fun ho20 _ => ?_)
          refine r_aload_n C 0 rfl rfl dX5_addBoat_59 ?_
          refine r_getf C 2 (by decide) rfl (fx_m rfl) (ly_2 cy _ _) rfl in_X5 2 (by decide) tw_65 (v := nu (μ19 2 2)) rfl dX5_addBoat_60 ?_
          obtain ⟨rfl, rfl⟩ := of_ret hf
          exact r_iret C rfl (ho20 _ _) dX5_addBoat_63
        · replace hf := if_f hf c9
          refine r_iconst C dX5_addBoat_27 ?_
          obtain ⟨rfl, rfl⟩ := of_ret hf
          exact r_iret C rfl (inR_lit rfl) dX5_addBoat_28
set_option maxHeartbeats 4000000 in
set_option maxRecDepth 100000 in
theorem w_X6_takeNumbers_2 {p : Program} {l : Launch} {e : Env} {s : State} {m : MethodId} {args : Array Value} {below : List Frame} {meth : Method} {c : Code} {D : va_G} {cy : Nat → ClassId} {A : Nat → Prop} {ids : List Nat} {ad : Nat → Nat} {r : Int} {μ' : Mem} (C : Cx p s m args meth c D (tyl cy) A 3 cX6_takeNumbers yX6_takeNumbers.cls none) (hCF : CF ad A s) : ∀ n : Nat, ∀ (v2 : Int) (μ : Mem), inR v2 → f_X6_takeNumbers_2   n v2 μ = some (r, μ') → V p l e (rmk 2) s m args below meth c 0 0 (MQ below (aV D (tyl cy) (lay cy) ids ad A r μ') args s 0 0 A) D A (lay cy) ids ad 3 μ 2 [some (rf 4), some (rf 18), some (nu v2)] [] := by
  intro n
  induction n with
  | zero =>
    intro v2 μ hv2 hf
    cases hf
  | succ n ih =>
    intro v2 μ hv2 hf
    rw [f_X6_takeNumbers_2_e] at hf
    refine V_in (fun ho0 _ => ?_)
    refine r_iload_n C 2 rfl rfl dX6_takeNumbers_2 ?_
    refine r_aload_n C 0 rfl rfl dX6_takeNumbers_3 ?_
    refine r_getf C 4 (by decide) rfl (fx_m rfl) (ly_4 cy _ _) rfl in_X6 0 (by decide) tw_107 (v := rf 17) rfl dX6_takeNumbers_4 ?_
    refine r_alen C 17 (by decide) rfl (fx_m rfl) 0 (cA := cy 0) (n := 9) (ly_17 cy _ _) rfl dX6_takeNumbers_7 ?_
    refine r_icmp_ge C 32 hv2 (inR_lit rfl) rfl dX6_takeNumbers_8 (fun c1 => ?_) (fun c1 => ?_)
    · replace hf := if_t hf c1
      obtain ⟨-, rfl⟩ := of_ret hf
      exact r_vret C rfl dX6_takeNumbers_32
    · replace hf := if_f hf c1
      refine r_iload_n C 2 rfl rfl dX6_takeNumbers_11 ?_
      refine r_aload_n C 1 rfl rfl dX6_takeNumbers_12 ?_
      refine r_alen C 18 (by decide) rfl (fx_m rfl) 0 (cA := cy 0) (n := 9) (ly_18 cy _ _) rfl dX6_takeNumbers_13 ?_
      refine r_icmp_ge C 32 hv2 (inR_lit rfl) rfl dX6_takeNumbers_14 (fun c2 => ?_) (fun c2 => ?_)
      · replace hf := if_t hf c2
        obtain ⟨-, rfl⟩ := of_ret hf
        exact r_vret C rfl dX6_takeNumbers_32
      · replace hf := if_f hf c2
        refine r_aload_n C 0 rfl rfl dX6_takeNumbers_17 ?_
        refine r_getf C 4 (by decide) rfl (fx_m rfl) (ly_4 cy _ _) rfl in_X6 0 (by decide) tw_107 (v := rf 17) rfl dX6_takeNumbers_18 ?_
        refine r_iload_n C 2 rfl rfl dX6_takeNumbers_21 ?_
        refine r_aload_n C 1 rfl rfl dX6_takeNumbers_22 ?_
        refine r_iload_n C 2 rfl rfl dX6_takeNumbers_23 ?_
        obtain ⟨g3, hf⟩ := of_g hf
        refine r_iald C 18 (by decide) rfl (fx_m rfl) 0 (cA := cy 0) (n := 9) (ly_18 cy _ _) rfl g3 (by decide) dX6_takeNumbers_24 ?_
        refine r_iast C 17 (by decide) rfl (fx_m rfl) (by decide) 0 (cA := cy 0) (n := 9) (fun f => ly_17 cy _ f) rfl g3 (by decide) (ho0 _ _) dX6_takeNumbers_25 (fun μ4 hμ6 => ?_)
        replace hf := of_lm hf hμ6
        refine V_in (fun ho5 _ => ?_)
        refine r_iinc C rfl (lw := [some (rf 4), some (rf 18), some (nu (v2 + 1))]) rfl (by decide) dX6_takeNumbers_26 ?_
        refine r_goto C 2 rfl dX6_takeNumbers_29 ?_
        obtain ⟨g7, hf⟩ := of_g hf
        exact V_lw (ih (v2 + 1) μ4 g7 hf) (And.intro rfl (And.intro rfl (And.intro rfl trivial)))
set_option maxHeartbeats 4000000 in
set_option maxRecDepth 100000 in
theorem c_X6_takeNumbers {l : Launch} {D : va_G} {cy : Nat → ClassId} {ids : List Nat} {ad : Nat → Nat} {μ μ' : Mem} { r : Int}  (hf : f_X6_takeNumbers μ  = some (r, μ')) : KK aV l D (tyl cy) (lay cy) ids ad 2 yX6_takeNumbers cX6_takeNumbers 3 none [rf 4, rf 18] μ r μ' := by
  refine KK.of (by decide +kernel) (Nat.le_of_ble_eq_true rfl) ?_
  intro p e s m args below meth c A C hCF
  unfold f_X6_takeNumbers at hf
  refine V_in (fun ho0 _ => ?_)
  refine r_iconst C dX6_takeNumbers_0 ?_
  refine r_istore_n C 2 (lw := [some (rf 4), some (rf 18), some (nu 0)]) rfl rfl (by decide) dX6_takeNumbers_1 ?_
  exact V_lw (w_X6_takeNumbers_2 C hCF 64 0 μ (inR_lit rfl) hf) (And.intro rfl (And.intro rfl (And.intro rfl trivial)))
set_option maxHeartbeats 4000000 in
set_option maxRecDepth 100000 in
theorem c_X9_byteAt {l : Launch} {D : va_G} {cy : Nat → ClassId} {ids : List Nat} {ad : Nat → Nat} {μ μ' : Mem} {a1 r : Int} (h1 : inR a1) (hf : f_X9_byteAt μ a1 = some (r, μ')) : KK aI l D (tyl cy) (lay cy) ids ad 2 yX9_byteAt cX9_byteAt 2 (some .int) [rf 3, nu a1] μ r μ' := by
  refine KK.of (by decide +kernel) (Nat.le_of_ble_eq_true rfl) ?_
  intro p e s m args below meth c A C hCF
  unfold f_X9_byteAt at hf
  refine V_in (fun ho0 _ => ?_)
  refine r_iload_n C 1 rfl rfl dX9_byteAt_0 ?_
  refine r_if_lt C 12 h1 rfl dX9_byteAt_1 (fun c1 => ?_) (fun c1 => ?_)
  · replace hf := if_t hf c1
    refine r_iconst C dX9_byteAt_12 ?_
    refine r_goto C 26 rfl dX9_byteAt_13 ?_
    obtain ⟨rfl, rfl⟩ := of_ret hf
    exact r_iret C rfl (inR_lit rfl) dX9_byteAt_26
  · replace hf := if_f hf c1
    refine r_iload_n C 1 rfl rfl dX9_byteAt_4 ?_
    refine r_aload_n C 0 rfl rfl dX9_byteAt_5 ?_
    refine r_getf C 3 (by decide) rfl (fx_m rfl) (ly_3 cy _ _) rfl in_X9 1 (by decide) tw_86 (v := nu (μ 3 1)) rfl dX9_byteAt_6 ?_
    refine r_icmp_lt C 16 h1 (ho0 _ _) rfl dX9_byteAt_9 (fun c2 => ?_) (fun c2 => ?_)
    · replace hf := if_t hf c2
      refine r_aload_n C 0 rfl rfl dX9_byteAt_16 ?_
      refine r_getf C 3 (by decide) rfl (fx_m rfl) (ly_3 cy _ _) rfl in_X9 0 (by decide) tw_85 (v := rf 16) rfl dX9_byteAt_17 ?_
      refine r_iload_n C 1 rfl rfl dX9_byteAt_20 ?_
      obtain ⟨g3, hf⟩ := of_g hf
      refine r_bald C 16 (by decide) rfl (fx_m rfl) 1 (cA := cy 1) (n := 200) (ly_16 cy _ _) rfl g3 (by decide) dX9_byteAt_21 ?_
      refine r_sipush C dX9_byteAt_22 rfl ?_
      refine r_iand C dX9_byteAt_25 ?_
      obtain ⟨rfl, rfl⟩ := of_ret hf
      exact r_iret C rfl (zI_rng _) dX9_byteAt_26
    · replace hf := if_f hf c2
      refine r_iconst C dX9_byteAt_12 ?_
      refine r_goto C 26 rfl dX9_byteAt_13 ?_
      obtain ⟨rfl, rfl⟩ := of_ret hf
      exact r_iret C rfl (inR_lit rfl) dX9_byteAt_26
set_option maxHeartbeats 4000000 in
set_option maxRecDepth 100000 in
theorem c_X9_isDigit {l : Launch} {D : va_G} {cy : Nat → ClassId} {ids : List Nat} {ad : Nat → Nat} {μ μ' : Mem} {a1 r : Int} (h1 : inR a1) (hf : f_X9_isDigit μ a1 = some (r, μ')) : KK aI l D (tyl cy) (lay cy) ids ad 4 yX9_isDigit cX9_isDigit 2 (some .boolean) [rf 3, nu a1] μ r μ' := by
  refine KK.of (by decide +kernel) (Nat.le_of_ble_eq_true rfl) ?_
  intro p e s m args below meth c A C hCF
  unfold f_X9_isDigit at hf
  refine V_in (fun ho0 _ => ?_)
  refine r_aload_n C 0 rfl rfl dX9_isDigit_0 ?_
  refine r_iload_n C 1 rfl rfl dX9_isDigit_1 ?_
  obtain ⟨r1, μ2, hc3, hf⟩ := of_bd hf
  refine r_callVI C hCF (As := [nu a1]) 3 (by decide) rfl (fx_m rfl) (ly_3 cy _ _) rfl (c_X9_byteAt h1 hc3) rfl (by decide) (by decide) ⟨Nat.le_refl 0, Nat.le_refl 0⟩ tw_451 tw_438 tw_4 tw_436 tw_437 1 (by decide) rfl (Nat.le_of_ble_eq_true rfl) dX9_isDigit_2 (fun hr5 => ?_)
  refine V_in (fun ho4 _ => ?_)
  refine r_bipush C dX9_isDigit_5 rfl ?_
  refine r_icmp_lt C 24 hr5 (inR_lit rfl) rfl dX9_isDigit_7 (fun c6 => ?_) (fun c6 => ?_)
  · replace hf := if_t hf c6
    refine r_iconst C dX9_isDigit_24 ?_
    obtain ⟨rfl, rfl⟩ := of_ret hf
    exact r_zret C rfl (by decide) dX9_isDigit_25
  · replace hf := if_f hf c6
    refine r_aload_n C 0 rfl rfl dX9_isDigit_10 ?_
    refine r_iload_n C 1 rfl rfl dX9_isDigit_11 ?_
    obtain ⟨r7, μ8, hc9, hf⟩ := of_bd hf
    refine r_callVI C hCF (As := [nu a1]) 3 (by decide) rfl (fx_m rfl) (ly_3 cy _ _) rfl (c_X9_byteAt h1 hc9) rfl (by decide) (by decide) ⟨Nat.le_refl 0, Nat.le_refl 0⟩ tw_451 tw_438 tw_4 tw_436 tw_437 1 (by decide) rfl (Nat.le_of_ble_eq_true rfl) dX9_isDigit_12 (fun hr11 => ?_)
    refine V_in (fun ho10 _ => ?_)
    refine r_bipush C dX9_isDigit_15 rfl ?_
    refine r_icmp_gt C 24 hr11 (inR_lit rfl) rfl dX9_isDigit_17 (fun c12 => ?_) (fun c12 => ?_)
    · replace hf := if_t hf c12
      refine r_iconst C dX9_isDigit_24 ?_
      obtain ⟨rfl, rfl⟩ := of_ret hf
      exact r_zret C rfl (by decide) dX9_isDigit_25
    · replace hf := if_f hf c12
      refine r_iconst C dX9_isDigit_20 ?_
      refine r_goto C 25 rfl dX9_isDigit_21 ?_
      obtain ⟨rfl, rfl⟩ := of_ret hf
      exact r_zret C rfl (by decide) dX9_isDigit_25
set_option maxHeartbeats 4000000 in
set_option maxRecDepth 100000 in
theorem c_J0_isLatin1_aae02 {l : Launch} {D : va_G} {cy : Nat → ClassId} {ids : List Nat} {ad : Nat → Nat} {μ μ' : Mem} {x0 r : Int}  (hf : f_J0_isLatin1_aae02 μ x0 = some (r, μ')) : KK aI l D (tyl cy) (lay cy) ids ad 2 yJ0_isLatin1_aae02 cJ0_isLatin1_aae02 1 (some .boolean) [rf x0] μ r μ' := by
  refine KK.ofF (by decide +kernel) (Nat.le_of_ble_eq_true rfl) ?_
  intro p e s m args below meth c A C hCF
  unfold f_J0_isLatin1_aae02 at hf
  refine V_in (fun ho0 _ => ?_)
  refine r_gsC C hCF tw_478 dJ0_isLatin1_aae02_0 ?_
  refine r_if_eq C 17 (inR_lit rfl) rfl dJ0_isLatin1_aae02_3 (fun c1 => ?_) (fun c1 => ?_)
  · replace hf := if_t hf c1
    refine r_iconst C dJ0_isLatin1_aae02_17 ?_
    obtain ⟨rfl, rfl⟩ := of_ret hf
    exact r_zret C rfl (by decide) dJ0_isLatin1_aae02_18
  · replace hf := if_f hf c1
    refine r_aload_n C 0 rfl rfl dJ0_isLatin1_aae02_6 ?_
    obtain ⟨g2, hf⟩ := of_g hf
    refine r_strC C hCF g2 tw_1259 dJ0_isLatin1_aae02_7 ?_
    refine r_if_ne C 17 (inR_lit rfl) rfl dJ0_isLatin1_aae02_10 (fun c3 => ?_) (fun c3 => ?_)
    · replace hf := if_f hf c3
      refine r_iconst C dJ0_isLatin1_aae02_17 ?_
      obtain ⟨rfl, rfl⟩ := of_ret hf
      exact r_zret C rfl (by decide) dJ0_isLatin1_aae02_18
    · replace hf := if_t hf c3
      refine r_iconst C dJ0_isLatin1_aae02_13 ?_
      refine r_goto C 18 rfl dJ0_isLatin1_aae02_14 ?_
      obtain ⟨rfl, rfl⟩ := of_ret hf
      exact r_zret C rfl (by decide) dJ0_isLatin1_aae02_18
set_option maxHeartbeats 4000000 in
set_option maxRecDepth 100000 in
theorem c_J3_checkIndex_8e157 {l : Launch} {D : va_G} {cy : Nat → ClassId} {ids : List Nat} {ad : Nat → Nat} {μ μ' : Mem} {y0 a1 a2 r : Int} (h1 : inR a1) (h2 : inR a2) (hf : f_J3_checkIndex_8e157 μ a1 a2 = some (r, μ')) : KK aI l D (tyl cy) (lay cy) ids ad 2 yJ3_checkIndex_8e157 cJ3_checkIndex_8e157 3 (some .int) [nu a1, nu a2, rf y0] μ r μ' := by
  refine KK.ofF (by decide +kernel) (Nat.le_of_ble_eq_true rfl) ?_
  intro p e s m args below meth c A C hCF
  unfold f_J3_checkIndex_8e157 at hf
  refine V_in (fun ho0 _ => ?_)
  refine r_iload_n C 0 rfl rfl dJ3_checkIndex_8e157_0 ?_
  refine r_if_lt C 9 h1 rfl dJ3_checkIndex_8e157_1 (fun c1 => ?_) (fun c1 => ?_)
  · replace hf := if_t hf c1
    cases hf
  · replace hf := if_f hf c1
    refine r_iload_n C 0 rfl rfl dJ3_checkIndex_8e157_4 ?_
    refine r_iload_n C 1 rfl rfl dJ3_checkIndex_8e157_5 ?_
    refine r_icmp_lt C 16 h1 h2 rfl dJ3_checkIndex_8e157_6 (fun c2 => ?_) (fun c2 => ?_)
    · replace hf := if_t hf c2
      refine r_iload_n C 0 rfl rfl dJ3_checkIndex_8e157_16 ?_
      obtain ⟨rfl, rfl⟩ := of_ret hf
      exact r_iret C rfl h1 dJ3_checkIndex_8e157_17
    · replace hf := if_f hf c2
      cases hf
set_option maxHeartbeats 4000000 in
set_option maxRecDepth 100000 in
theorem c_J0_checkIndex_df160 {l : Launch} {D : va_G} {cy : Nat → ClassId} {ids : List Nat} {ad : Nat → Nat} {μ μ' : Mem} {a1 a2 r : Int} (h1 : inR a1) (h2 : inR a2) (hf : f_J0_checkIndex_df160 μ a1 a2 = some (r, μ')) : KK aV l D (tyl cy) (lay cy) ids ad 4 yJ0_checkIndex_df160 cJ0_checkIndex_df160 2 none [nu a1, nu a2] μ r μ' := by
  refine KK.ofF (by decide +kernel) (Nat.le_of_ble_eq_true rfl) ?_
  intro p e s m args below meth c A C hCF
  unfold f_J0_checkIndex_df160 at hf
  refine V_in (fun ho0 _ => ?_)
  refine r_iload_n C 0 rfl rfl dJ0_checkIndex_df160_0 ?_
  refine r_iload_n C 1 rfl rfl dJ0_checkIndex_df160_1 ?_
  refine r_gsS C hCF tw_494 dJ0_checkIndex_df160_2 (fun y1 => ?_)
  obtain ⟨r2, μ3, hc4, hf⟩ := of_bd hf
  refine r_callSI C hCF (As := [nu a1, nu a2, rf y1]) (c_J3_checkIndex_8e157 h1 h2 hc4) rfl (by decide) (by decide) ⟨Nat.le_refl 0, Nat.le_refl 0⟩ tw_496 tw_498 tw_15 tw_497 3 (by decide) rfl (Nat.le_of_ble_eq_true rfl) dJ0_checkIndex_df160_5 (fun hr6 => ?_)
  refine V_in (fun ho5 _ => ?_)
  refine r_pop C dJ0_checkIndex_df160_8 ?_
  obtain ⟨-, rfl⟩ := of_ret hf
  exact r_vret C rfl dJ0_checkIndex_df160_9
set_option maxHeartbeats 4000000 in
set_option maxRecDepth 100000 in
theorem c_J1_charAt_3b067 {l : Launch} {D : va_G} {cy : Nat → ClassId} {ids : List Nat} {ad : Nat → Nat} {μ μ' : Mem} {a1 a2 r : Int} (h2 : inR a2) (hf : f_J1_charAt_3b067 μ a1 a2 = some (r, μ')) : KK aI l D (tyl cy) (lay cy) ids ad 6 yJ1_charAt_3b067 cJ1_charAt_3b067 2 (some .char) [rf a1, nu a2] μ r μ' := by
  refine KK.ofF (by decide +kernel) (Nat.le_of_ble_eq_true rfl) ?_
  intro p e s m args below meth c A C hCF
  unfold f_J1_charAt_3b067 at hf
  refine V_in (fun ho0 _ => ?_)
  refine r_iload_n C 1 rfl rfl dJ1_charAt_3b067_0 ?_
  refine r_aload_n C 0 rfl rfl dJ1_charAt_3b067_1 ?_
  obtain ⟨g1, hf⟩ := of_g hf
  refine r_strL C hCF g1 dJ1_charAt_3b067_2 ?_
  obtain ⟨r2, μ3, hc4, hf⟩ := of_bd hf
  refine r_callSV C hCF (As := [nu a2, nu (slen a1)]) (c_J0_checkIndex_df160 h2 (slen_r _) hc4) rfl (by decide) (by decide) ⟨Nat.le_refl 0, Nat.le_refl 0⟩ tw_491 tw_493 tw_13 tw_492 2 (by decide) rfl (Nat.le_of_ble_eq_true rfl) dJ1_charAt_3b067_3 ?_
  refine V_in (fun ho5 _ => ?_)
  refine r_aload_n C 0 rfl rfl dJ1_charAt_3b067_6 ?_
  refine r_iload_n C 1 rfl rfl dJ1_charAt_3b067_7 ?_
  obtain ⟨g7, hf⟩ := of_g hf
  refine r_strB C hCF g1 g7 dJ1_charAt_3b067_8 ?_
  refine r_sipush C dJ1_charAt_3b067_9 rfl ?_
  refine r_iand C dJ1_charAt_3b067_12 ?_
  refine r_i2c C dJ1_charAt_3b067_13 ?_
  obtain ⟨g8, hf⟩ := of_g hf
  obtain ⟨rfl, rfl⟩ := of_ret hf
  exact r_cret C rfl g8 dJ1_charAt_3b067_14
set_option maxHeartbeats 4000000 in
set_option maxRecDepth 100000 in
theorem c_J0_charAt_5068e {l : Launch} {D : va_G} {cy : Nat → ClassId} {ids : List Nat} {ad : Nat → Nat} {μ μ' : Mem} {x0 a1 r : Int} (h1 : inR a1) (hf : f_J0_charAt_5068e μ x0 a1 = some (r, μ')) : KK aI l D (tyl cy) (lay cy) ids ad 10 yJ0_charAt_5068e cJ0_charAt_5068e 2 (some .char) [rf x0, nu a1] μ r μ' := by
  refine KK.ofF (by decide +kernel) (Nat.le_of_ble_eq_true rfl) ?_
  intro p e s m args below meth c A C hCF
  unfold f_J0_charAt_5068e at hf
  refine V_in (fun ho0 _ => ?_)
  refine r_aload_n C 0 rfl rfl dJ0_charAt_5068e_0 ?_
  obtain ⟨g1, hf⟩ := of_g hf
  obtain ⟨r2, μ3, hc4, hf⟩ := of_bd hf
  refine r_callVIs C hCF (As := []) g1 rfl (c_J0_isLatin1_aae02 hc4) rfl (by decide) (by decide) ⟨Nat.le_refl 0, Nat.le_refl 0⟩ tw_484 tw_487 tw_13 tw_485 tw_486 0 (by decide) rfl (Nat.le_of_ble_eq_true rfl) dJ0_charAt_5068e_1 (fun hr6 => ?_)
  refine V_in (fun ho5 _ => ?_)
  refine r_if_eq C 16 hr6 rfl dJ0_charAt_5068e_4 (fun c7 => ?_) (fun c7 => ?_)
  · replace hf := if_t hf c7
    cases hf
  · replace hf := if_f hf c7
    refine r_aload_n C 0 rfl rfl dJ0_charAt_5068e_7 ?_
    refine r_strV C hCF g1 tw_1258 dJ0_charAt_5068e_8 ?_
    refine r_iload_n C 1 rfl rfl dJ0_charAt_5068e_11 ?_
    obtain ⟨r8, μ9, hc10, hf⟩ := of_bd hf
    refine r_callSI C hCF (As := [rf (x0 + 20), nu a1]) (c_J1_charAt_3b067 h1 hc10) rfl (by decide) (by decide) ⟨Nat.le_refl 0, Nat.le_refl 0⟩ tw_488 tw_490 tw_14 tw_489 2 (by decide) rfl (Nat.le_of_ble_eq_true rfl) dJ0_charAt_5068e_12 (fun hr12 => ?_)
    refine V_in (fun ho11 _ => ?_)
    obtain ⟨g13, hf⟩ := of_g hf
    obtain ⟨rfl, rfl⟩ := of_ret hf
    exact r_cret C rfl g13 dJ0_charAt_5068e_15
set_option maxHeartbeats 4000000 in
set_option maxRecDepth 100000 in
theorem c_J0_coder_7d493 {l : Launch} {D : va_G} {cy : Nat → ClassId} {ids : List Nat} {ad : Nat → Nat} {μ μ' : Mem} {x0 r : Int}  (hf : f_J0_coder_7d493 μ x0 = some (r, μ')) : KK aI l D (tyl cy) (lay cy) ids ad 2 yJ0_coder_7d493 cJ0_coder_7d493 1 (some .byte) [rf x0] μ r μ' := by
  refine KK.ofF (by decide +kernel) (Nat.le_of_ble_eq_true rfl) ?_
  intro p e s m args below meth c A C hCF
  unfold f_J0_coder_7d493 at hf
  refine V_in (fun ho0 _ => ?_)
  refine r_gsC C hCF tw_478 dJ0_coder_7d493_0 ?_
  refine r_if_eq C 13 (inR_lit rfl) rfl dJ0_coder_7d493_3 (fun c1 => ?_) (fun c1 => ?_)
  · replace hf := if_t hf c1
    refine r_iconst C dJ0_coder_7d493_13 ?_
    obtain ⟨rfl, rfl⟩ := of_ret hf
    exact r_bret C rfl (by decide) dJ0_coder_7d493_14
  · replace hf := if_f hf c1
    refine r_aload_n C 0 rfl rfl dJ0_coder_7d493_6 ?_
    obtain ⟨g2, hf⟩ := of_g hf
    refine r_strC C hCF g2 tw_1259 dJ0_coder_7d493_7 ?_
    refine r_goto C 14 rfl dJ0_coder_7d493_10 ?_
    obtain ⟨rfl, rfl⟩ := of_ret hf
    exact r_bret C rfl (by decide) dJ0_coder_7d493_14
set_option maxHeartbeats 4000000 in
set_option maxRecDepth 100000 in
theorem c_J0_length_8abf5 {l : Launch} {D : va_G} {cy : Nat → ClassId} {ids : List Nat} {ad : Nat → Nat} {μ μ' : Mem} {x0 r : Int}  (hf : f_J0_length_8abf5 μ x0 = some (r, μ')) : KK aI l D (tyl cy) (lay cy) ids ad 4 yJ0_length_8abf5 cJ0_length_8abf5 1 (some .int) [rf x0] μ r μ' := by
  refine KK.ofF (by decide +kernel) (Nat.le_of_ble_eq_true rfl) ?_
  intro p e s m args below meth c A C hCF
  unfold f_J0_length_8abf5 at hf
  refine V_in (fun ho0 _ => ?_)
  refine r_aload_n C 0 rfl rfl dJ0_length_8abf5_0 ?_
  obtain ⟨g1, hf⟩ := of_g hf
  refine r_strV C hCF g1 tw_1258 dJ0_length_8abf5_1 ?_
  obtain ⟨g2, hf⟩ := of_g hf
  refine r_strL C hCF g2 dJ0_length_8abf5_4 ?_
  refine r_aload_n C 0 rfl rfl dJ0_length_8abf5_5 ?_
  obtain ⟨r3, μ4, hc5, hf⟩ := of_bd hf
  refine r_callVIs C hCF (As := []) g1 rfl (c_J0_coder_7d493 hc5) rfl (by decide) (by decide) ⟨Nat.le_refl 0, Nat.le_refl 0⟩ tw_474 tw_477 tw_13 tw_475 tw_476 0 (by decide) rfl (Nat.le_of_ble_eq_true rfl) dJ0_length_8abf5_6 (fun hr7 => ?_)
  refine V_in (fun ho6 _ => ?_)
  refine r_ishr C dJ0_length_8abf5_9 ?_
  obtain ⟨rfl, rfl⟩ := of_ret hf
  exact r_iret C rfl (zI_rng _) dJ0_length_8abf5_10
set_option maxHeartbeats 4000000 in
set_option maxRecDepth 100000 in
theorem w_X9_hasWord_15 {p : Program} {l : Launch} {e : Env} {s : State} {m : MethodId} {args : Array Value} {below : List Frame} {meth : Method} {c : Code} {D : va_G} {cy : Nat → ClassId} {A : Nat → Prop} {ids : List Nat} {ad : Nat → Nat} {r : Int} {μ' : Mem} (C : Cx p s m args meth c D (tyl cy) A 5 cX9_hasWord yX9_hasWord.cls (some .boolean)) (hCF : CF ad A s) : ∀ n : Nat, ∀ (v1 v3 v4 : Int) (μ : Mem), inR v1 → inR v4 → f_X9_hasWord_15   n v1 v3 v4 μ = some (r, μ') → V p l e (rmk 12) s m args below meth c 0 0 (MQ below (aI D (tyl cy) (lay cy) ids ad A r μ') args s 0 0 A) D A (lay cy) ids ad 5 μ 15 [some (rf 3), some (nu v1), none, some (rf v3), some (nu v4)] [] := by
  intro n
  induction n with
  | zero =>
    intro v1 v3 v4 μ hv1 hv4 hf
    cases hf
  | succ n ih =>
    intro v1 v3 v4 μ hv1 hv4 hf
    rw [f_X9_hasWord_15_e] at hf
    refine V_in (fun ho0 _ => ?_)
    refine r_iload C rfl dX9_hasWord_15 ?_
    refine r_aload_n C 3 rfl rfl dX9_hasWord_17 ?_
    obtain ⟨g1, hf⟩ := of_g hf
    obtain ⟨r2, μ3, hc4, hf⟩ := of_bd hf
    refine r_callVIs C hCF (As := []) g1 rfl (c_J0_length_8abf5 hc4) rfl (by decide) (by decide) ⟨Nat.le_refl 0, Nat.le_refl 0⟩ tw_470 tw_473 tw_13 tw_471 tw_472 0 (by decide) rfl (Nat.le_of_ble_eq_true rfl) dX9_hasWord_18 (fun hr6 => ?_)
    refine V_in (fun ho5 _ => ?_)
    refine r_icmp_ge C 49 hv4 hr6 rfl dX9_hasWord_21 (fun c7 => ?_) (fun c7 => ?_)
    · replace hf := if_t hf c7
      refine r_iconst C dX9_hasWord_49 ?_
      obtain ⟨rfl, rfl⟩ := of_ret hf
      exact r_zret C rfl (by decide) dX9_hasWord_50
    · replace hf := if_f hf c7
      refine r_aload_n C 0 rfl rfl dX9_hasWord_24 ?_
      refine r_iload_n C 1 rfl rfl dX9_hasWord_25 ?_
      refine r_iload C rfl dX9_hasWord_26 ?_
      refine r_iadd C dX9_hasWord_28 ?_
      obtain ⟨g8, hf⟩ := of_g hf
      obtain ⟨r9, μ10, hc11, hf⟩ := of_bd hf
      refine r_callVI C hCF (As := [nu (v1 + v4)]) 3 (by decide) rfl (fx_m rfl) (ly_3 cy _ _) rfl (c_X9_byteAt g8 hc11) rfl (by decide) (by decide) ⟨Nat.le_refl 0, Nat.le_refl 0⟩ tw_451 tw_438 tw_4 tw_436 tw_437 1 (by decide) rfl (Nat.le_of_ble_eq_true rfl) dX9_hasWord_29 (fun hr13 => ?_)
      refine V_in (fun ho12 _ => ?_)
      refine r_aload_n C 3 rfl rfl dX9_hasWord_32 ?_
      refine r_iload C rfl dX9_hasWord_33 ?_
      obtain ⟨r14, μ15, hc16, hf⟩ := of_bd hf
      refine r_callVIs C hCF (As := [nu v4]) g1 rfl (c_J0_charAt_5068e hv4 hc16) rfl (by decide) (by decide) ⟨Nat.le_refl 0, Nat.le_refl 0⟩ tw_480 tw_483 tw_13 tw_481 tw_482 1 (by decide) rfl (Nat.le_of_ble_eq_true rfl) dX9_hasWord_35 (fun hr18 => ?_)
      refine V_in (fun ho17 _ => ?_)
      refine r_icmp_eq C 43 hr13 hr18 rfl dX9_hasWord_38 (fun c19 => ?_) (fun c19 => ?_)
      · replace hf := if_t hf c19
        refine r_iinc C rfl (lw := [some (rf 3), some (nu v1), none, some (rf v3), some (nu (v4 + 1))]) rfl (by decide) dX9_hasWord_43 ?_
        refine r_goto C 15 rfl dX9_hasWord_46 ?_
        obtain ⟨g20, hf⟩ := of_g hf
        exact V_lw (ih v1 v3 (v4 + 1) μ15 hv1 g20 hf) (And.intro rfl (And.intro rfl (And.intro rfl (And.intro rfl trivial))))
      · replace hf := if_f hf c19
        refine r_iconst C dX9_hasWord_41 ?_
        obtain ⟨rfl, rfl⟩ := of_ret hf
        exact r_zret C rfl (by decide) dX9_hasWord_42
set_option maxHeartbeats 4000000 in
set_option maxRecDepth 100000 in
theorem c_X9_hasWord {l : Launch} {D : va_G} {cy : Nat → ClassId} {ids : List Nat} {ad : Nat → Nat} {μ μ' : Mem} {a1 a2 a3 r : Int} (h1 : inR a1) (h2 : inR a2) (hf : f_X9_hasWord μ a1 a2 a3 = some (r, μ')) : KK aI l D (tyl cy) (lay cy) ids ad 12 yX9_hasWord cX9_hasWord 5 (some .boolean) [rf 3, nu a1, nu a2, rf a3] μ r μ' := by
  refine KK.of (by decide +kernel) (Nat.le_of_ble_eq_true rfl) ?_
  intro p e s m args below meth c A C hCF
  unfold f_X9_hasWord at hf
  refine V_in (fun ho0 _ => ?_)
  refine r_iload_n C 2 rfl rfl dX9_hasWord_0 ?_
  refine r_iload_n C 1 rfl rfl dX9_hasWord_1 ?_
  refine r_isub C dX9_hasWord_2 ?_
  refine r_aload_n C 3 rfl rfl dX9_hasWord_3 ?_
  obtain ⟨g1, hf⟩ := of_g hf
  obtain ⟨r2, μ3, hc4, hf⟩ := of_bd hf
  refine r_callVIs C hCF (As := []) g1 rfl (c_J0_length_8abf5 hc4) rfl (by decide) (by decide) ⟨Nat.le_refl 0, Nat.le_refl 0⟩ tw_470 tw_473 tw_13 tw_471 tw_472 0 (by decide) rfl (Nat.le_of_ble_eq_true rfl) dX9_hasWord_4 (fun hr6 => ?_)
  refine V_in (fun ho5 _ => ?_)
  obtain ⟨g7, hf⟩ := of_g hf
  refine r_icmp_eq C 12 g7 hr6 rfl dX9_hasWord_7 (fun c8 => ?_) (fun c8 => ?_)
  · replace hf := if_t hf c8
    refine r_iconst C dX9_hasWord_12 ?_
    refine r_istore C (lw := [some (rf 3), some (nu a1), some (nu a2), some (rf a3), some (nu 0)]) rfl (by decide) dX9_hasWord_13 ?_
    exact V_lw (w_X9_hasWord_15 C hCF 64 a1 a3 0 μ3 h1 (inR_lit rfl) hf) (And.intro rfl (And.intro rfl (And.intro rfl (And.intro rfl trivial))))
  · replace hf := if_f hf c8
    refine r_iconst C dX9_hasWord_10 ?_
    obtain ⟨rfl, rfl⟩ := of_ret hf
    exact r_zret C rfl (by decide) dX9_hasWord_11
set_option maxHeartbeats 4000000 in
set_option maxRecDepth 100000 in
theorem c_X9_isLetter {l : Launch} {D : va_G} {cy : Nat → ClassId} {ids : List Nat} {ad : Nat → Nat} {μ μ' : Mem} {a1 r : Int} (h1 : inR a1) (hf : f_X9_isLetter μ a1 = some (r, μ')) : KK aI l D (tyl cy) (lay cy) ids ad 4 yX9_isLetter cX9_isLetter 2 (some .boolean) [rf 3, nu a1] μ r μ' := by
  refine KK.of (by decide +kernel) (Nat.le_of_ble_eq_true rfl) ?_
  intro p e s m args below meth c A C hCF
  unfold f_X9_isLetter at hf
  refine V_in (fun ho0 _ => ?_)
  refine r_aload_n C 0 rfl rfl dX9_isLetter_0 ?_
  refine r_iload_n C 1 rfl rfl dX9_isLetter_1 ?_
  obtain ⟨r1, μ2, hc3, hf⟩ := of_bd hf
  refine r_callVI C hCF (As := [nu a1]) 3 (by decide) rfl (fx_m rfl) (ly_3 cy _ _) rfl (c_X9_byteAt h1 hc3) rfl (by decide) (by decide) ⟨Nat.le_refl 0, Nat.le_refl 0⟩ tw_451 tw_438 tw_4 tw_436 tw_437 1 (by decide) rfl (Nat.le_of_ble_eq_true rfl) dX9_isLetter_2 (fun hr5 => ?_)
  refine V_in (fun ho4 _ => ?_)
  refine r_bipush C dX9_isLetter_5 rfl ?_
  refine r_icmp_lt C 24 hr5 (inR_lit rfl) rfl dX9_isLetter_7 (fun c6 => ?_) (fun c6 => ?_)
  · replace hf := if_t hf c6
    refine r_iconst C dX9_isLetter_24 ?_
    obtain ⟨rfl, rfl⟩ := of_ret hf
    exact r_zret C rfl (by decide) dX9_isLetter_25
  · replace hf := if_f hf c6
    refine r_aload_n C 0 rfl rfl dX9_isLetter_10 ?_
    refine r_iload_n C 1 rfl rfl dX9_isLetter_11 ?_
    obtain ⟨r7, μ8, hc9, hf⟩ := of_bd hf
    refine r_callVI C hCF (As := [nu a1]) 3 (by decide) rfl (fx_m rfl) (ly_3 cy _ _) rfl (c_X9_byteAt h1 hc9) rfl (by decide) (by decide) ⟨Nat.le_refl 0, Nat.le_refl 0⟩ tw_451 tw_438 tw_4 tw_436 tw_437 1 (by decide) rfl (Nat.le_of_ble_eq_true rfl) dX9_isLetter_12 (fun hr11 => ?_)
    refine V_in (fun ho10 _ => ?_)
    refine r_bipush C dX9_isLetter_15 rfl ?_
    refine r_icmp_gt C 24 hr11 (inR_lit rfl) rfl dX9_isLetter_17 (fun c12 => ?_) (fun c12 => ?_)
    · replace hf := if_t hf c12
      refine r_iconst C dX9_isLetter_24 ?_
      obtain ⟨rfl, rfl⟩ := of_ret hf
      exact r_zret C rfl (by decide) dX9_isLetter_25
    · replace hf := if_f hf c12
      refine r_iconst C dX9_isLetter_20 ?_
      refine r_goto C 25 rfl dX9_isLetter_21 ?_
      obtain ⟨rfl, rfl⟩ := of_ret hf
      exact r_zret C rfl (by decide) dX9_isLetter_25
set_option maxHeartbeats 4000000 in
set_option maxRecDepth 100000 in
theorem c_J6_bitCount_0f7a4 {l : Launch} {D : va_G} {cy : Nat → ClassId} {ids : List Nat} {ad : Nat → Nat} {μ μ' : Mem} {a1 r : Int} (h1 : inR a1) (hf : f_J6_bitCount_0f7a4 μ a1 = some (r, μ')) : KK aI l D (tyl cy) (lay cy) ids ad 2 yJ6_bitCount_0f7a4 cJ6_bitCount_0f7a4 1 (some .int) [nu a1] μ r μ' := by
  refine KK.ofF (by decide +kernel) (Nat.le_of_ble_eq_true rfl) ?_
  intro p e s m args below meth c A C hCF
  unfold f_J6_bitCount_0f7a4 at hf
  refine V_in (fun ho0 _ => ?_)
  refine r_iload_n C 0 rfl rfl dJ6_bitCount_0f7a4_0 ?_
  refine r_iload_n C 0 rfl rfl dJ6_bitCount_0f7a4_1 ?_
  refine r_iconst C dJ6_bitCount_0f7a4_2 ?_
  refine r_iushr C dJ6_bitCount_0f7a4_3 ?_
  refine r_ldcw C (n := 1431655765) tw_866 rfl dJ6_bitCount_0f7a4_4 ?_
  refine r_iand C dJ6_bitCount_0f7a4_7 ?_
  refine r_isub C dJ6_bitCount_0f7a4_8 ?_
  refine r_istore_n C 0 (lw := [some (nu (a1 - (zand (zushr a1 1) 1431655765)))]) rfl rfl (by decide) dJ6_bitCount_0f7a4_9 ?_
  refine r_iload_n C 0 rfl rfl dJ6_bitCount_0f7a4_10 ?_
  refine r_ldcw C (n := 858993459) tw_867 rfl dJ6_bitCount_0f7a4_11 ?_
  refine r_iand C dJ6_bitCount_0f7a4_14 ?_
  refine r_iload_n C 0 rfl rfl dJ6_bitCount_0f7a4_15 ?_
  refine r_iconst C dJ6_bitCount_0f7a4_16 ?_
  refine r_iushr C dJ6_bitCount_0f7a4_17 ?_
  refine r_ldcw C (n := 858993459) tw_867 rfl dJ6_bitCount_0f7a4_18 ?_
  refine r_iand C dJ6_bitCount_0f7a4_21 ?_
  refine r_iadd C dJ6_bitCount_0f7a4_22 ?_
  refine r_istore_n C 0 (lw := [some (nu ((zand (a1 - (zand (zushr a1 1) 1431655765)) 858993459) + (zand (zushr (a1 - (zand (zushr a1 1) 1431655765)) 2) 858993459)))]) rfl rfl (by decide) dJ6_bitCount_0f7a4_23 ?_
  refine r_iload_n C 0 rfl rfl dJ6_bitCount_0f7a4_24 ?_
  refine r_iload_n C 0 rfl rfl dJ6_bitCount_0f7a4_25 ?_
  refine r_iconst C dJ6_bitCount_0f7a4_26 ?_
  refine r_iushr C dJ6_bitCount_0f7a4_27 ?_
  refine r_iadd C dJ6_bitCount_0f7a4_28 ?_
  refine r_ldcw C (n := 252645135) tw_868 rfl dJ6_bitCount_0f7a4_29 ?_
  refine r_iand C dJ6_bitCount_0f7a4_32 ?_
  refine r_istore_n C 0 (lw := [some (nu (zand (((zand (a1 - (zand (zushr a1 1) 1431655765)) 858993459) + (zand (zushr (a1 - (zand (zushr a1 1) 1431655765)) 2) 858993459)) + (zushr ((zand (a1 - (zand (zushr a1 1) 1431655765)) 858993459) + (zand (zushr (a1 - (zand (zushr a1 1) 1431655765)) 2) 858993459)) 4)) 252645135))]) rfl rfl (by decide) dJ6_bitCount_0f7a4_33 ?_
  refine r_iload_n C 0 rfl rfl dJ6_bitCount_0f7a4_34 ?_
  refine r_iload_n C 0 rfl rfl dJ6_bitCount_0f7a4_35 ?_
  refine r_bipush C dJ6_bitCount_0f7a4_36 rfl ?_
  refine r_iushr C dJ6_bitCount_0f7a4_38 ?_
  refine r_iadd C dJ6_bitCount_0f7a4_39 ?_
  refine r_istore_n C 0 (lw := [some (nu ((zand (((zand (a1 - (zand (zushr a1 1) 1431655765)) 858993459) + (zand (zushr (a1 - (zand (zushr a1 1) 1431655765)) 2) 858993459)) + (zushr ((zand (a1 - (zand (zushr a1 1) 1431655765)) 858993459) + (zand (zushr (a1 - (zand (zushr a1 1) 1431655765)) 2) 858993459)) 4)) 252645135) + (zushr (zand (((zand (a1 - (zand (zushr a1 1) 1431655765)) 858993459) + (zand (zushr (a1 - (zand (zushr a1 1) 1431655765)) 2) 858993459)) + (zushr ((zand (a1 - (zand (zushr a1 1) 1431655765)) 858993459) + (zand (zushr (a1 - (zand (zushr a1 1) 1431655765)) 2) 858993459)) 4)) 252645135) 8)))]) rfl rfl (by decide) dJ6_bitCount_0f7a4_40 ?_
  refine r_iload_n C 0 rfl rfl dJ6_bitCount_0f7a4_41 ?_
  refine r_iload_n C 0 rfl rfl dJ6_bitCount_0f7a4_42 ?_
  refine r_bipush C dJ6_bitCount_0f7a4_43 rfl ?_
  refine r_iushr C dJ6_bitCount_0f7a4_45 ?_
  refine r_iadd C dJ6_bitCount_0f7a4_46 ?_
  refine r_istore_n C 0 (lw := [some (nu (((zand (((zand (a1 - (zand (zushr a1 1) 1431655765)) 858993459) + (zand (zushr (a1 - (zand (zushr a1 1) 1431655765)) 2) 858993459)) + (zushr ((zand (a1 - (zand (zushr a1 1) 1431655765)) 858993459) + (zand (zushr (a1 - (zand (zushr a1 1) 1431655765)) 2) 858993459)) 4)) 252645135) + (zushr (zand (((zand (a1 - (zand (zushr a1 1) 1431655765)) 858993459) + (zand (zushr (a1 - (zand (zushr a1 1) 1431655765)) 2) 858993459)) + (zushr ((zand (a1 - (zand (zushr a1 1) 1431655765)) 858993459) + (zand (zushr (a1 - (zand (zushr a1 1) 1431655765)) 2) 858993459)) 4)) 252645135) 8)) + (zushr ((zand (((zand (a1 - (zand (zushr a1 1) 1431655765)) 858993459) + (zand (zushr (a1 - (zand (zushr a1 1) 1431655765)) 2) 858993459)) + (zushr ((zand (a1 - (zand (zushr a1 1) 1431655765)) 858993459) + (zand (zushr (a1 - (zand (zushr a1 1) 1431655765)) 2) 858993459)) 4)) 252645135) + (zushr (zand (((zand (a1 - (zand (zushr a1 1) 1431655765)) 858993459) + (zand (zushr (a1 - (zand (zushr a1 1) 1431655765)) 2) 858993459)) + (zushr ((zand (a1 - (zand (zushr a1 1) 1431655765)) 858993459) + (zand (zushr (a1 - (zand (zushr a1 1) 1431655765)) 2) 858993459)) 4)) 252645135) 8)) 16)))]) rfl rfl (by decide) dJ6_bitCount_0f7a4_47 ?_
  refine r_iload_n C 0 rfl rfl dJ6_bitCount_0f7a4_48 ?_
  refine r_bipush C dJ6_bitCount_0f7a4_49 rfl ?_
  refine r_iand C dJ6_bitCount_0f7a4_51 ?_
  obtain ⟨rfl, rfl⟩ := of_ret hf
  exact r_iret C rfl (zI_rng _) dJ6_bitCount_0f7a4_52
set_option maxHeartbeats 4000000 in
set_option maxRecDepth 100000 in
theorem c_X9_hasRoom {l : Launch} {D : va_G} {cy : Nat → ClassId} {ids : List Nat} {ad : Nat → Nat} {μ μ' : Mem} { r : Int}  (hf : f_X9_hasRoom μ  = some (r, μ')) : KK aI l D (tyl cy) (lay cy) ids ad 2 yX9_hasRoom cX9_hasRoom 1 (some .boolean) [rf 3] μ r μ' := by
  refine KK.of (by decide +kernel) (Nat.le_of_ble_eq_true rfl) ?_
  intro p e s m args below meth c A C hCF
  unfold f_X9_hasRoom at hf
  refine V_in (fun ho0 _ => ?_)
  refine r_aload_n C 0 rfl rfl dX9_hasRoom_0 ?_
  refine r_getf C 3 (by decide) rfl (fx_m rfl) (ly_3 cy _ _) rfl in_X9 1 (by decide) tw_86 (v := nu (μ 3 1)) rfl dX9_hasRoom_1 ?_
  refine r_bipush C dX9_hasRoom_4 rfl ?_
  refine r_iadd C dX9_hasRoom_6 ?_
  refine r_sipush C dX9_hasRoom_7 rfl ?_
  obtain ⟨g1, hf⟩ := of_g hf
  refine r_icmp_gt C 17 g1 (inR_lit rfl) rfl dX9_hasRoom_10 (fun c2 => ?_) (fun c2 => ?_)
  · replace hf := if_t hf c2
    refine r_iconst C dX9_hasRoom_17 ?_
    obtain ⟨rfl, rfl⟩ := of_ret hf
    exact r_zret C rfl (by decide) dX9_hasRoom_18
  · replace hf := if_f hf c2
    refine r_iconst C dX9_hasRoom_13 ?_
    refine r_goto C 18 rfl dX9_hasRoom_14 ?_
    obtain ⟨rfl, rfl⟩ := of_ret hf
    exact r_zret C rfl (by decide) dX9_hasRoom_18
set_option maxHeartbeats 4000000 in
set_option maxRecDepth 100000 in
theorem w_X9_putNumber_3 {p : Program} {l : Launch} {e : Env} {s : State} {m : MethodId} {args : Array Value} {below : List Frame} {meth : Method} {c : Code} {D : va_G} {cy : Nat → ClassId} {A : Nat → Prop} {ids : List Nat} {ad : Nat → Nat} {r : Int} {μ' : Mem} (C : Cx p s m args meth c D (tyl cy) A 3 cX9_putNumber yX9_putNumber.cls none) (hCF : CF ad A s) : ∀ n : Nat, ∀ (v1 v2 : Int) (μ : Mem), inR v1 → inR v2 → f_X9_putNumber_3   n v1 v2 μ = some (r, μ') → V p l e (rmk 2) s m args below meth c 0 0 (MQ below (aV D (tyl cy) (lay cy) ids ad A r μ') args s 0 0 A) D A (lay cy) ids ad 3 μ 3 [some (rf 3), some (nu v1), some (nu v2)] [] := by
  intro n
  induction n with
  | zero =>
    intro v1 v2 μ hv1 hv2 hf
    cases hf
  | succ n ih =>
    intro v1 v2 μ hv1 hv2 hf
    rw [f_X9_putNumber_3_e] at hf
    refine V_in (fun ho0 _ => ?_)
    refine r_iload_n C 2 rfl rfl dX9_putNumber_3 ?_
    refine r_if_lt C 46 hv2 rfl dX9_putNumber_4 (fun c1 => ?_) (fun c1 => ?_)
    · replace hf := if_t hf c1
      obtain ⟨-, rfl⟩ := of_ret hf
      exact r_vret C rfl dX9_putNumber_46
    · replace hf := if_f hf c1
      refine r_aload_n C 0 rfl rfl dX9_putNumber_7 ?_
      refine r_getf C 3 (by decide) rfl (fx_m rfl) (ly_3 cy _ _) rfl in_X9 1 (by decide) tw_86 (v := nu (μ 3 1)) rfl dX9_putNumber_8 ?_
      refine r_sipush C dX9_putNumber_11 rfl ?_
      refine r_icmp_ge C 40 (ho0 _ _) (inR_lit rfl) rfl dX9_putNumber_14 (fun c2 => ?_) (fun c2 => ?_)
      · replace hf := if_t hf c2
        refine r_iinc C rfl (lw := [some (rf 3), some (nu v1), some (nu (v2 + (-8)))]) rfl (by decide) dX9_putNumber_40 ?_
        refine r_goto C 3 rfl dX9_putNumber_43 ?_
        obtain ⟨g3, hf⟩ := of_g hf
        exact V_lw (ih v1 (v2 + (-8)) μ hv1 g3 hf) (And.intro rfl (And.intro rfl (And.intro rfl trivial)))
      · replace hf := if_f hf c2
        refine r_aload_n C 0 rfl rfl dX9_putNumber_17 ?_
        refine r_getf C 3 (by decide) rfl (fx_m rfl) (ly_3 cy _ _) rfl in_X9 0 (by decide) tw_85 (v := rf 16) rfl dX9_putNumber_18 ?_
        refine r_aload_n C 0 rfl rfl dX9_putNumber_21 ?_
        refine r_getf C 3 (by decide) rfl (fx_m rfl) (ly_3 cy _ _) rfl in_X9 1 (by decide) tw_86 (v := nu (μ 3 1)) rfl dX9_putNumber_22 ?_
        refine r_iload_n C 1 rfl rfl dX9_putNumber_25 ?_
        refine r_iload_n C 2 rfl rfl dX9_putNumber_26 ?_
        refine r_iushr C dX9_putNumber_27 ?_
        refine r_i2b C dX9_putNumber_28 ?_
        obtain ⟨g4, hf⟩ := of_g hf
        refine r_bast C 16 (by decide) rfl (fx_m rfl) (by decide) 1 (cA := cy 1) (n := 200) (fun f => ly_16 cy _ f) rfl g4 (by decide) (zI_rng _) dX9_putNumber_29 (fun μ5 hμ7 => ?_)
        replace hf := of_lm hf hμ7
        refine V_in (fun ho6 _ => ?_)
        refine r_aload_n C 0 rfl rfl dX9_putNumber_30 ?_
        refine r_dup C dX9_putNumber_31 ?_
        refine r_getf C 3 (by decide) rfl (fx_m rfl) (ly_3 cy _ _) rfl in_X9 1 (by decide) tw_86 (v := nu (μ5 3 1)) rfl dX9_putNumber_32 ?_
        refine r_iconst C dX9_putNumber_35 ?_
        refine r_iadd C dX9_putNumber_36 ?_
        obtain ⟨g8, hf⟩ := of_g hf
        refine r_putf C 3 (by decide) rfl (fx_m rfl) (by decide) (ly_3 cy _ _) 1 (ly_3 cy _ _) rfl (Nat.le_of_ble_eq_true rfl) g8 rfl in_X9 tyX9 tyX9_ok nmX9 (by decide) tw_86 rfl rfl dX9_putNumber_37 (fun μ9 hμ11 => ?_)
        replace hf := of_lm hf hμ11
        refine V_in (fun ho10 _ => ?_)
        refine r_iinc C rfl (lw := [some (rf 3), some (nu v1), some (nu (v2 + (-8)))]) rfl (by decide) dX9_putNumber_40 ?_
        refine r_goto C 3 rfl dX9_putNumber_43 ?_
        obtain ⟨g12, hf⟩ := of_g hf
        exact V_lw (ih v1 (v2 + (-8)) μ9 hv1 g12 hf) (And.intro rfl (And.intro rfl (And.intro rfl trivial)))
set_option maxHeartbeats 4000000 in
set_option maxRecDepth 100000 in
theorem c_X9_putNumber {l : Launch} {D : va_G} {cy : Nat → ClassId} {ids : List Nat} {ad : Nat → Nat} {μ μ' : Mem} {a1 r : Int} (h1 : inR a1) (hf : f_X9_putNumber μ a1 = some (r, μ')) : KK aV l D (tyl cy) (lay cy) ids ad 2 yX9_putNumber cX9_putNumber 3 none [rf 3, nu a1] μ r μ' := by
  refine KK.of (by decide +kernel) (Nat.le_of_ble_eq_true rfl) ?_
  intro p e s m args below meth c A C hCF
  unfold f_X9_putNumber at hf
  refine V_in (fun ho0 _ => ?_)
  refine r_bipush C dX9_putNumber_0 rfl ?_
  refine r_istore_n C 2 (lw := [some (rf 3), some (nu a1), some (nu 24)]) rfl rfl (by decide) dX9_putNumber_2 ?_
  exact V_lw (w_X9_putNumber_3 C hCF 64 a1 24 μ h1 (inR_lit rfl) hf) (And.intro rfl (And.intro rfl (And.intro rfl trivial)))
set_option maxHeartbeats 4000000 in
set_option maxRecDepth 100000 in
theorem c_X9_keepFirst {l : Launch} {D : va_G} {cy : Nat → ClassId} {ids : List Nat} {ad : Nat → Nat} {μ μ' : Mem} {a1 r : Int} (h1 : inR a1) (hf : f_X9_keepFirst μ a1 = some (r, μ')) : KK aI l D (tyl cy) (lay cy) ids ad 2 yX9_keepFirst cX9_keepFirst 2 (some .int) [rf 3, nu a1] μ r μ' := by
  refine KK.of (by decide +kernel) (Nat.le_of_ble_eq_true rfl) ?_
  intro p e s m args below meth c A C hCF
  unfold f_X9_keepFirst at hf
  refine V_in (fun ho0 _ => ?_)
  refine r_iload_n C 1 rfl rfl dX9_keepFirst_0 ?_
  refine r_if_lt C 12 h1 rfl dX9_keepFirst_1 (fun c1 => ?_) (fun c1 => ?_)
  · replace hf := if_t hf c1
    refine r_iconst C dX9_keepFirst_12 ?_
    obtain ⟨rfl, rfl⟩ := of_ret hf
    exact r_iret C rfl (inR_lit rfl) dX9_keepFirst_13
  · replace hf := if_f hf c1
    refine r_iload_n C 1 rfl rfl dX9_keepFirst_4 ?_
    refine r_aload_n C 0 rfl rfl dX9_keepFirst_5 ?_
    refine r_getf C 3 (by decide) rfl (fx_m rfl) (ly_3 cy _ _) rfl in_X9 1 (by decide) tw_86 (v := nu (μ 3 1)) rfl dX9_keepFirst_6 ?_
    refine r_icmp_le C 14 h1 (ho0 _ _) rfl dX9_keepFirst_9 (fun c2 => ?_) (fun c2 => ?_)
    · replace hf := if_t hf c2
      refine r_aload_n C 0 rfl rfl dX9_keepFirst_14 ?_
      refine r_iload_n C 1 rfl rfl dX9_keepFirst_15 ?_
      refine r_putf C 3 (by decide) rfl (fx_m rfl) (by decide) (ly_3 cy _ _) 1 (ly_3 cy _ _) rfl (Nat.le_of_ble_eq_true rfl) h1 rfl in_X9 tyX9 tyX9_ok nmX9 (by decide) tw_86 rfl rfl dX9_keepFirst_16 (fun μ3 hμ5 => ?_)
      replace hf := of_lm hf hμ5
      refine V_in (fun ho4 _ => ?_)
      refine r_iload_n C 1 rfl rfl dX9_keepFirst_19 ?_
      obtain ⟨rfl, rfl⟩ := of_ret hf
      exact r_iret C rfl h1 dX9_keepFirst_20
    · replace hf := if_f hf c2
      refine r_iconst C dX9_keepFirst_12 ?_
      obtain ⟨rfl, rfl⟩ := of_ret hf
      exact r_iret C rfl (inR_lit rfl) dX9_keepFirst_13
