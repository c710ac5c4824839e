set_option maxHeartbeats 4000000 in
set_option maxRecDepth 100000 in
theorem c_X1_tell {l : Launch} {D : va_G} {cy : Nat → ClassId} {ids : List Nat} {ad : Nat → Nat} {μ μ' : Mem} {a1 a2 r : Int} (h1 : inR a1) (h2 : inR a2) (hf : f_X1_tell μ a1 a2 = some (r, μ')) : KK aI l D (tyl cy) (lay cy) ids ad 2 yX1_tell cX1_tell 3 (some .int) [rf 7, nu a1, nu a2] μ r μ' := by
  refine KK.of (by decide +kernel) (Nat.le_of_ble_eq_true rfl) ?_
  intro p e s m args below meth c A C hCF
  unfold f_X1_tell at hf
  refine V_in (fun ho0 _ => ?_)
  refine r_iload_n C 1 rfl rfl dX1_tell_0 ?_
  refine r_if_lt C 21 h1 rfl dX1_tell_1 (fun c1 => ?_) (fun c1 => ?_)
  · replace hf := if_t hf c1
    refine r_iconst C dX1_tell_21 ?_
    obtain ⟨rfl, rfl⟩ := of_ret hf
    exact r_iret C rfl (inR_lit rfl) dX1_tell_22
  · replace hf := if_f hf c1
    refine r_iload_n C 1 rfl rfl dX1_tell_4 ?_
    refine r_aload_n C 0 rfl rfl dX1_tell_5 ?_
    refine r_getf C 7 (by decide) rfl (fx_m rfl) (ly_7 cy _ _) rfl in_X1 17 (by decide) tw_216 (v := nu (μ 7 17)) rfl dX1_tell_6 ?_
    refine r_icmp_ge C 21 h1 (ho0 _ _) rfl dX1_tell_9 (fun c2 => ?_) (fun c2 => ?_)
    · replace hf := if_t hf c2
      refine r_iconst C dX1_tell_21 ?_
      obtain ⟨rfl, rfl⟩ := of_ret hf
      exact r_iret C rfl (inR_lit rfl) dX1_tell_22
    · replace hf := if_f hf c2
      refine r_iload_n C 2 rfl rfl dX1_tell_12 ?_
      refine r_if_lt C 21 h2 rfl dX1_tell_13 (fun c3 => ?_) (fun c3 => ?_)
      · replace hf := if_t hf c3
        refine r_iconst C dX1_tell_21 ?_
        obtain ⟨rfl, rfl⟩ := of_ret hf
        exact r_iret C rfl (inR_lit rfl) dX1_tell_22
      · replace hf := if_f hf c3
        refine r_iload_n C 2 rfl rfl dX1_tell_16 ?_
        refine r_iconst C dX1_tell_17 ?_
        refine r_icmp_lt C 23 h2 (inR_lit rfl) rfl dX1_tell_18 (fun c4 => ?_) (fun c4 => ?_)
        · replace hf := if_t hf c4
          refine r_aload_n C 0 rfl rfl dX1_tell_23 ?_
          refine r_getf C 7 (by decide) rfl (fx_m rfl) (ly_7 cy _ _) rfl in_X1 16 (by decide) tw_215 (v := rf 31) rfl dX1_tell_24 ?_
          refine r_iload_n C 1 rfl rfl dX1_tell_27 ?_
          obtain ⟨g5, hf⟩ := of_g hf
          refine r_aald C 31 (by decide) rfl (fx_m rfl) 5 (cA := cy 5) (n := 5) (ly_31 cy _ _) rfl rfl g5 (by decide) dX1_tell_28 ?_
          refine r_iload_n C 2 rfl rfl dX1_tell_29 ?_
          obtain ⟨g6, hf⟩ := of_g hf
          refine r_iald C _ (row0 (b := 45)) rfl (ba_r45 (rowz g5)) 0 (cA := cy 0) (n := 4) (ly_r45 cy _ (rowz g5) _) rfl g6 (by decide) dX1_tell_30 ?_
          obtain ⟨rfl, rfl⟩ := of_ret hf
          exact r_iret C rfl (ho0 _ _) dX1_tell_31
        · replace hf := if_f hf c4
          refine r_iconst C dX1_tell_21 ?_
          obtain ⟨rfl, rfl⟩ := of_ret hf
          exact r_iret C rfl (inR_lit rfl) dX1_tell_22
set_option maxHeartbeats 4000000 in
set_option maxRecDepth 100000 in
theorem w_X1_readyDay_80 {p : Program} {l : Launch} {e : Env} {s : State} {m : MethodId} {args : Array Value} {below : List Frame} {meth : Method} {c : Code} {D : va_G} {cy : Nat → ClassId} {A : Nat → Prop} {ids : List Nat} {ad : Nat → Nat} {r : Int} {μ' : Mem} (C : Cx p s m args meth c D (tyl cy) A 6 cX1_readyDay yX1_readyDay.cls (some .int)) (hCF : CF ad A s) : ∀ (v1 v3 : Int) (μ : Mem), inR v1 → inR v3 → f_X1_readyDay_80   v1 v3 μ = some (r, μ') → V p l e (rmk 6) s m args below meth c 0 0 (MQ below (aI D (tyl cy) (lay cy) ids ad A r μ') args s 0 0 A) D A (lay cy) ids ad 6 μ 80 [some (rf 7), some (nu v1), none, some (nu v3), none, none] [] := by
  intro v1 v3 μ hv1 hv3 hf
  unfold f_X1_readyDay_80 at hf
  refine V_in (fun ho0 _ => ?_)
  refine r_iload_n C 3 rfl rfl dX1_readyDay_80 ?_
  refine r_aload_n C 0 rfl rfl dX1_readyDay_81 ?_
  refine r_getf C 7 (by decide) rfl (fx_m rfl) (ly_7 cy _ _) rfl in_X1 7 (by decide) tw_206 (v := rf 24) rfl dX1_readyDay_82 ?_
  refine r_iload_n C 1 rfl rfl dX1_readyDay_85 ?_
  obtain ⟨g1, hf⟩ := of_g hf
  refine r_iald C 24 (by decide) rfl (fx_m rfl) 0 (cA := cy 0) (n := 5) (ly_24 cy _ _) rfl g1 (by decide) dX1_readyDay_86 ?_
  refine r_iadd C dX1_readyDay_87 ?_
  refine r_istore_n C 3 (lw := [some (rf 7), some (nu v1), none, some (nu (v3 + (μ 24 v1.toNat))), none, none]) rfl rfl (by decide) dX1_readyDay_88 ?_
  refine r_iload_n C 3 rfl rfl dX1_readyDay_89 ?_
  refine r_sipush C dX1_readyDay_90 rfl ?_
  obtain ⟨g2, hf⟩ := of_g hf
  refine r_icmp_le C 100 g2 (inR_lit rfl) rfl dX1_readyDay_93 (fun c3 => ?_) (fun c3 => ?_)
  · replace hf := if_t hf c3
    refine r_iload_n C 3 rfl rfl dX1_readyDay_100 ?_
    obtain ⟨rfl, rfl⟩ := of_ret hf
    exact r_iret C rfl g2 dX1_readyDay_101
  · replace hf := if_f hf c3
    refine r_iconst C dX1_readyDay_96 ?_
    refine r_goto C 101 rfl dX1_readyDay_97 ?_
    obtain ⟨rfl, rfl⟩ := of_ret hf
    exact r_iret C rfl (inR_lit rfl) dX1_readyDay_101
set_option maxHeartbeats 4000000 in
set_option maxRecDepth 100000 in
theorem c_X1_readyDay {l : Launch} {D : va_G} {cy : Nat → ClassId} {ids : List Nat} {ad : Nat → Nat} {μ μ' : Mem} {a1 a2 r : Int} (h1 : inR a1) (h2 : inR a2) (hf : f_X1_readyDay μ a1 a2 = some (r, μ')) : KK aI l D (tyl cy) (lay cy) ids ad 6 yX1_readyDay cX1_readyDay 6 (some .int) [rf 7, nu a1, nu a2] μ r μ' := by
  refine KK.of (by decide +kernel) (Nat.le_of_ble_eq_true rfl) ?_
  intro p e s m args below meth c A C hCF
  unfold f_X1_readyDay at hf
  refine V_in (fun ho0 _ => ?_)
  refine r_aload_n C 0 rfl rfl dX1_readyDay_0 ?_
  refine r_getf C 7 (by decide) rfl (fx_m rfl) (ly_7 cy _ _) rfl in_X1 6 (by decide) tw_205 (v := rf 23) rfl dX1_readyDay_1 ?_
  refine r_iload_n C 1 rfl rfl dX1_readyDay_4 ?_
  obtain ⟨g1, hf⟩ := of_g hf
  refine r_aald C 23 (by decide) rfl (fx_m rfl) 5 (cA := cy 5) (n := 5) (ly_23 cy _ _) rfl rfl g1 (by decide) dX1_readyDay_5 ?_
  refine r_iload_n C 2 rfl rfl dX1_readyDay_6 ?_
  obtain ⟨g2, hf⟩ := of_g hf
  refine r_iald C _ (row0 (b := 40)) rfl (ba_r40 (rowz g1)) 0 (cA := cy 0) (n := 6) (ly_r40 cy _ (rowz g1) _) rfl g2 (by decide) dX1_readyDay_7 ?_
  refine r_iconst C dX1_readyDay_8 ?_
  refine r_icmp_ne C 14 (ho0 _ _) (inR_lit rfl) rfl dX1_readyDay_9 (fun c3 => ?_) (fun c3 => ?_)
  · replace hf := if_f hf c3
    refine r_aload_n C 0 rfl rfl dX1_readyDay_14 ?_
    refine r_getf C 7 (by decide) rfl (fx_m rfl) (ly_7 cy _ _) rfl in_X1 13 (by decide) tw_212 (v := rf 30) rfl dX1_readyDay_15 ?_
    refine r_iload_n C 2 rfl rfl dX1_readyDay_18 ?_
    refine r_iald C 30 (by decide) rfl (fx_m rfl) 0 (cA := cy 0) (n := 6) (ly_30 cy _ _) rfl g2 (by decide) dX1_readyDay_19 ?_
    refine r_aload_n C 0 rfl rfl dX1_readyDay_20 ?_
    refine r_getf C 7 (by decide) rfl (fx_m rfl) (ly_7 cy _ _) rfl in_X1 6 (by decide) tw_205 (v := rf 23) rfl dX1_readyDay_21 ?_
    refine r_iload_n C 1 rfl rfl dX1_readyDay_24 ?_
    refine r_aald C 23 (by decide) rfl (fx_m rfl) 5 (cA := cy 5) (n := 5) (ly_23 cy _ _) rfl rfl g1 (by decide) dX1_readyDay_25 ?_
    refine r_iload_n C 2 rfl rfl dX1_readyDay_26 ?_
    refine r_iald C _ (row0 (b := 40)) rfl (ba_r40 (rowz g1)) 0 (cA := cy 0) (n := 6) (ly_r40 cy _ (rowz g1) _) rfl g2 (by decide) dX1_readyDay_27 ?_
    refine r_iadd C dX1_readyDay_28 ?_
    refine r_istore_n C 3 (lw := [some (rf 7), some (nu a1), some (nu a2), some (nu ((μ 30 a2.toNat) + (μ (40 + (a1.toNat : Int)).toNat a2.toNat))), none, none]) rfl rfl (by decide) dX1_readyDay_29 ?_
    refine r_aload_n C 0 rfl rfl dX1_readyDay_30 ?_
    refine r_getf C 7 (by decide) rfl (fx_m rfl) (ly_7 cy _ _) rfl in_X1 3 (by decide) tw_202 (v := rf 21) rfl dX1_readyDay_31 ?_
    refine r_iload_n C 1 rfl rfl dX1_readyDay_34 ?_
    refine r_aald C 21 (by decide) rfl (fx_m rfl) 4 (cA := cy 4) (n := 5) (ly_21 cy _ _) rfl rfl g1 (by decide) dX1_readyDay_35 ?_
    obtain ⟨g4, hf⟩ := of_g hf
    refine r_getfN C _ (st_0 g4) rfl (st_m g4) (ly_st cy _ g4 _) rfl in_X4 2 (by decide) tw_557 (v := nu (μ (μ 21 a1.toNat).toNat 2)) rfl dX1_readyDay_36 ?_
    refine r_iconst C dX1_readyDay_39 ?_
    refine r_icmp_gt C 80 (ho0 _ _) (inR_lit rfl) rfl dX1_readyDay_40 (fun c5 => ?_) (fun c5 => ?_)
    · replace hf := if_t hf c5
      obtain ⟨g6, hf⟩ := of_g hf
      exact V_lw (w_X1_readyDay_80 C hCF a1 ((μ 30 a2.toNat) + (μ (40 + (a1.toNat : Int)).toNat a2.toNat)) μ h1 g6 hf) (And.intro rfl (And.intro rfl (And.intro rfl trivial)))
    · replace hf := if_f hf c5
      refine r_aload_n C 0 rfl rfl dX1_readyDay_43 ?_
      refine r_getf C 7 (by decide) rfl (fx_m rfl) (ly_7 cy _ _) rfl in_X1 1 (by decide) tw_200 (v := rf 4) rfl dX1_readyDay_44 ?_
      refine r_bipush C dX1_readyDay_47 rfl ?_
      obtain ⟨r7, μ8, hc9, hf⟩ := of_bd hf
      refine r_callVI C hCF (As := [nu 6]) 4 (by decide) rfl (fx_m rfl) (ly_4 cy _ _) rfl (c_X6_numberAt (inR_lit rfl) hc9) rfl (by decide) (by decide) ⟨Nat.le_refl 0, Nat.le_refl 0⟩ tw_742 tw_626 tw_5 tw_624 tw_625 1 (by decide) rfl (Nat.le_of_ble_eq_true rfl) dX1_readyDay_49 (fun hr11 => ?_)
      refine V_in (fun ho10 _ => ?_)
      refine r_istore C (lw := [some (rf 7), some (nu a1), some (nu a2), some (nu ((μ 30 a2.toNat) + (μ (40 + (a1.toNat : Int)).toNat a2.toNat))), some (nu r7), none]) rfl (by decide) dX1_readyDay_52 ?_
      refine r_aload_n C 0 rfl rfl dX1_readyDay_54 ?_
      refine r_getf C 7 (by decide) rfl (fx_m rfl) (ly_7 cy _ _) rfl in_X1 2 (by decide) tw_201 (v := rf 1) rfl dX1_readyDay_55 ?_
      refine r_iload_n C 3 rfl rfl dX1_readyDay_58 ?_
      refine r_iload C rfl dX1_readyDay_59 ?_
      obtain ⟨g12, hf⟩ := of_g hf
      obtain ⟨r13, μ14, hc15, hf⟩ := of_bd hf
      refine r_callVI C hCF (As := [nu ((μ 30 a2.toNat) + (μ (40 + (a1.toNat : Int)).toNat a2.toNat)), nu r7]) 1 (by decide) rfl (fx_m rfl) (ly_1 cy _ _) rfl (c_X2_firstRaftDay g12 hr11 hc15) rfl (by decide) (by decide) ⟨Nat.le_refl 0, Nat.le_refl 0⟩ tw_752 tw_755 tw_2 tw_753 tw_754 2 (by decide) rfl (Nat.le_of_ble_eq_true rfl) dX1_readyDay_61 (fun hr17 => ?_)
      refine V_in (fun ho16 _ => ?_)
      refine r_istore C (lw := [some (rf 7), some (nu a1), some (nu a2), some (nu ((μ 30 a2.toNat) + (μ (40 + (a1.toNat : Int)).toNat a2.toNat))), some (nu r7), some (nu r13)]) rfl (by decide) dX1_readyDay_64 ?_
      refine r_iload C rfl dX1_readyDay_66 ?_
      refine r_iconst C dX1_readyDay_68 ?_
      refine r_icmp_ne C 74 hr17 (inR_lit rfl) rfl dX1_readyDay_69 (fun c18 => ?_) (fun c18 => ?_)
      · replace hf := if_f hf c18
        refine r_iload C rfl dX1_readyDay_74 ?_
        refine r_iload C rfl dX1_readyDay_76 ?_
        refine r_iadd C dX1_readyDay_78 ?_
        refine r_istore_n C 3 (lw := [some (rf 7), some (nu a1), some (nu a2), some (nu (r13 + r7)), some (nu r7), some (nu r13)]) rfl rfl (by decide) dX1_readyDay_79 ?_
        obtain ⟨g19, hf⟩ := of_g hf
        exact V_lw (w_X1_readyDay_80 C hCF a1 (r13 + r7) μ14 h1 g19 hf) (And.intro rfl (And.intro rfl (And.intro rfl trivial)))
      · replace hf := if_t hf c18
        refine r_iconst C dX1_readyDay_72 ?_
        obtain ⟨rfl, rfl⟩ := of_ret hf
        exact r_iret C rfl (inR_lit rfl) dX1_readyDay_73
  · replace hf := if_t hf c3
    refine r_iconst C dX1_readyDay_12 ?_
    obtain ⟨rfl, rfl⟩ := of_ret hf
    exact r_iret C rfl (inR_lit rfl) dX1_readyDay_13
set_option maxHeartbeats 4000000 in
set_option maxRecDepth 100000 in
theorem w_X1_findFloor_21 {p : Program} {l : Launch} {e : Env} {s : State} {m : MethodId} {args : Array Value} {below : List Frame} {meth : Method} {c : Code} {D : va_G} {cy : Nat → ClassId} {A : Nat → Prop} {ids : List Nat} {ad : Nat → Nat} {r : Int} {μ' : Mem} (C : Cx p s m args meth c D (tyl cy) A 5 cX1_findFloor yX1_findFloor.cls (some .boolean)) (hCF : CF ad A s) (k7 : Int → Mem → Option (Int × Mem)) (hk7 : ∀ (v1 : Int) (μ : Mem), inR v1 → k7 v1 μ = some (r, μ') → V p l e (rmk 8) s m args below meth c 0 0 (MQ below (aI D (tyl cy) (lay cy) ids ad A r μ') args s 0 0 A) D A (lay cy) ids ad 5 μ 7 [some (rf 7), some (nu v1), none, none, none] []) : ∀ n : Nat, ∀ (v1 v2 v3 : Int) (μ : Mem), inR v1 → inR v2 → inR v3 → f_X1_findFloor_21  k7 n v1 v2 v3 μ = some (r, μ') → V p l e (rmk 8) s m args below meth c 0 0 (MQ below (aI D (tyl cy) (lay cy) ids ad A r μ') args s 0 0 A) D A (lay cy) ids ad 5 μ 21 [some (rf 7), some (nu v1), some (nu v2), some (nu v3), none] [] := by
  intro n
  induction n with
  | zero =>
    intro v1 v2 v3 μ hv1 hv2 hv3 hf
    cases hf
  | succ n ih =>
    intro v1 v2 v3 μ hv1 hv2 hv3 hf
    rw [f_X1_findFloor_21_e] at hf
    refine V_in (fun ho0 _ => ?_)
    refine r_iload_n C 3 rfl rfl dX1_findFloor_21 ?_
    refine r_bipush C dX1_findFloor_22 rfl ?_
    refine r_icmp_ge C 54 hv3 (inR_lit rfl) rfl dX1_findFloor_24 (fun c1 => ?_) (fun c1 => ?_)
    · replace hf := if_t hf c1
      refine r_aload_n C 0 rfl rfl dX1_findFloor_54 ?_
      refine r_aload_n C 0 rfl rfl dX1_findFloor_55 ?_
      refine r_getf C 7 (by decide) rfl (fx_m rfl) (ly_7 cy _ _) rfl in_X1 15 (by decide) tw_214 (v := nu (μ 7 15)) rfl dX1_findFloor_56 ?_
      refine r_iload_n C 2 rfl rfl dX1_findFloor_59 ?_
      obtain ⟨r2, μ3, hc4, hf⟩ := of_bd hf
      refine r_callSI C hCF (As := [nu (μ 7 15), nu v2]) (c_J9_max_7cf53 (ho0 _ _) hv2 hc4) rfl (by decide) (by decide) ⟨Nat.le_refl 0, Nat.le_refl 0⟩ tw_741 tw_397 tw_12 tw_396 2 (by decide) rfl (Nat.le_of_ble_eq_true rfl) dX1_findFloor_60 (fun hr6 => ?_)
      refine V_in (fun ho5 _ => ?_)
      refine r_putf C 7 (by decide) rfl (fx_m rfl) (by decide) (ly_7 cy _ _) 15 (ly_7 cy _ _) rfl (Nat.le_of_ble_eq_true rfl) hr6 rfl in_X1 tyX1 tyX1_ok nmX1 (by decide) tw_214 rfl rfl dX1_findFloor_63 (fun μ7 hμ9 => ?_)
      replace hf := of_lm hf hμ9
      refine V_in (fun ho8 _ => ?_)
      refine r_iinc C rfl (lw := [some (rf 7), some (nu (v1 + 1)), some (nu v2), some (nu v3), none]) rfl (by decide) dX1_findFloor_66 ?_
      refine r_goto C 7 rfl dX1_findFloor_69 ?_
      obtain ⟨g10, hf⟩ := of_g hf
      exact V_lw (hk7 (v1 + 1) μ7 g10 hf) (And.intro rfl (And.intro rfl trivial))
    · replace hf := if_f hf c1
      refine r_aload_n C 0 rfl rfl dX1_findFloor_27 ?_
      refine r_iload_n C 1 rfl rfl dX1_findFloor_28 ?_
      refine r_iload_n C 3 rfl rfl dX1_findFloor_29 ?_
      obtain ⟨r11, μ12, hc13, hf⟩ := of_bd hf
      refine r_callVI C hCF (As := [nu v1, nu v3]) 7 (by decide) rfl (fx_m rfl) (ly_7 cy _ _) rfl (c_X1_readyDay hv1 hv3 hc13) rfl (by decide) (by decide) ⟨Nat.le_refl 0, Nat.le_refl 0⟩ tw_748 tw_751 tw_8 tw_750 ts_21 2 (by decide) rfl (Nat.le_of_ble_eq_true rfl) dX1_findFloor_30 (fun hr15 => ?_)
      refine V_in (fun ho14 _ => ?_)
      refine r_istore C (lw := [some (rf 7), some (nu v1), some (nu v2), some (nu v3), some (nu r11)]) rfl (by decide) dX1_findFloor_33 ?_
      refine r_iload C rfl dX1_findFloor_35 ?_
      refine r_iconst C dX1_findFloor_37 ?_
      refine r_icmp_eq C 48 hr15 (inR_lit rfl) rfl dX1_findFloor_38 (fun c16 => ?_) (fun c16 => ?_)
      · replace hf := if_t hf c16
        refine r_iinc C rfl (lw := [some (rf 7), some (nu v1), some (nu v2), some (nu (v3 + 1)), some (nu r11)]) rfl (by decide) dX1_findFloor_48 ?_
        refine r_goto C 21 rfl dX1_findFloor_51 ?_
        obtain ⟨g17, hf⟩ := of_g hf
        exact V_lw (ih v1 v2 (v3 + 1) μ12 hv1 hv2 g17 hf) (And.intro rfl (And.intro rfl (And.intro rfl (And.intro rfl trivial))))
      · replace hf := if_f hf c16
        refine r_iload_n C 2 rfl rfl dX1_findFloor_41 ?_
        refine r_iload C rfl dX1_findFloor_42 ?_
        obtain ⟨r18, μ19, hc20, hf⟩ := of_bd hf
        refine r_callSI C hCF (As := [nu v2, nu r11]) (c_J9_min_7cf53 hv2 hr15 hc20) rfl (by decide) (by decide) ⟨Nat.le_refl 0, Nat.le_refl 0⟩ tw_756 tw_394 tw_12 tw_393 2 (by decide) rfl (Nat.le_of_ble_eq_true rfl) dX1_findFloor_44 (fun hr22 => ?_)
        refine V_in (fun ho21 _ => ?_)
        refine r_istore_n C 2 (lw := [some (rf 7), some (nu v1), some (nu r18), some (nu v3), some (nu r11)]) rfl rfl (by decide) dX1_findFloor_47 ?_
        refine r_iinc C rfl (lw := [some (rf 7), some (nu v1), some (nu r18), some (nu (v3 + 1)), some (nu r11)]) rfl (by decide) dX1_findFloor_48 ?_
        refine r_goto C 21 rfl dX1_findFloor_51 ?_
        obtain ⟨g23, hf⟩ := of_g hf
        exact V_lw (ih v1 r18 (v3 + 1) μ19 hv1 hr22 g23 hf) (And.intro rfl (And.intro rfl (And.intro rfl (And.intro rfl trivial))))
set_option maxHeartbeats 4000000 in
set_option maxRecDepth 100000 in
theorem w_X1_findFloor_7 {p : Program} {l : Launch} {e : Env} {s : State} {m : MethodId} {args : Array Value} {below : List Frame} {meth : Method} {c : Code} {D : va_G} {cy : Nat → ClassId} {A : Nat → Prop} {ids : List Nat} {ad : Nat → Nat} {r : Int} {μ' : Mem} (C : Cx p s m args meth c D (tyl cy) A 5 cX1_findFloor yX1_findFloor.cls (some .boolean)) (hCF : CF ad A s) : ∀ n : Nat, ∀ (v1 : Int) (μ : Mem), inR v1 → f_X1_findFloor_7   n v1 μ = some (r, μ') → V p l e (rmk 8) s m args below meth c 0 0 (MQ below (aI D (tyl cy) (lay cy) ids ad A r μ') args s 0 0 A) D A (lay cy) ids ad 5 μ 7 [some (rf 7), some (nu v1), none, none, none] [] := by
  intro n
  induction n with
  | zero =>
    intro v1 μ hv1 hf
    cases hf
  | succ n ih =>
    intro v1 μ hv1 hf
    rw [f_X1_findFloor_7_e] at hf
    refine V_in (fun ho0 _ => ?_)
    refine r_iload_n C 1 rfl rfl dX1_findFloor_7 ?_
    refine r_aload_n C 0 rfl rfl dX1_findFloor_8 ?_
    refine r_getf C 7 (by decide) rfl (fx_m rfl) (ly_7 cy _ _) rfl in_X1 5 (by decide) tw_204 (v := nu (μ 7 5)) rfl dX1_findFloor_9 ?_
    refine r_icmp_ge C 72 hv1 (ho0 _ _) rfl dX1_findFloor_12 (fun c1 => ?_) (fun c1 => ?_)
    · replace hf := if_t hf c1
      refine r_aload_n C 0 rfl rfl dX1_findFloor_72 ?_
      refine r_getf C 7 (by decide) rfl (fx_m rfl) (ly_7 cy _ _) rfl in_X1 15 (by decide) tw_214 (v := nu (μ 7 15)) rfl dX1_findFloor_73 ?_
      refine r_sipush C dX1_findFloor_76 rfl ?_
      refine r_icmp_gt C 86 (ho0 _ _) (inR_lit rfl) rfl dX1_findFloor_79 (fun c2 => ?_) (fun c2 => ?_)
      · replace hf := if_t hf c2
        refine r_iconst C dX1_findFloor_86 ?_
        obtain ⟨rfl, rfl⟩ := of_ret hf
        exact r_zret C rfl (by decide) dX1_findFloor_87
      · replace hf := if_f hf c2
        refine r_iconst C dX1_findFloor_82 ?_
        refine r_goto C 87 rfl dX1_findFloor_83 ?_
        obtain ⟨rfl, rfl⟩ := of_ret hf
        exact r_zret C rfl (by decide) dX1_findFloor_87
    · replace hf := if_f hf c1
      refine r_sipush C dX1_findFloor_15 rfl ?_
      refine r_istore_n C 2 (lw := [some (rf 7), some (nu v1), some (nu 3001), none, none]) rfl rfl (by decide) dX1_findFloor_18 ?_
      refine r_iconst C dX1_findFloor_19 ?_
      refine r_istore_n C 3 (lw := [some (rf 7), some (nu v1), some (nu 3001), some (nu 0), none]) rfl rfl (by decide) dX1_findFloor_20 ?_
      exact V_lw (w_X1_findFloor_21 C hCF (f_X1_findFloor_7 n) ih 64 v1 3001 0 μ hv1 (inR_lit rfl) (inR_lit rfl) hf) (And.intro rfl (And.intro rfl (And.intro rfl (And.intro rfl trivial))))
set_option maxHeartbeats 4000000 in
set_option maxRecDepth 100000 in
theorem c_X1_findFloor {l : Launch} {D : va_G} {cy : Nat → ClassId} {ids : List Nat} {ad : Nat → Nat} {μ μ' : Mem} { r : Int}  (hf : f_X1_findFloor μ  = some (r, μ')) : KK aI l D (tyl cy) (lay cy) ids ad 8 yX1_findFloor cX1_findFloor 5 (some .boolean) [rf 7] μ r μ' := by
  refine KK.of (by decide +kernel) (Nat.le_of_ble_eq_true rfl) ?_
  intro p e s m args below meth c A C hCF
  unfold f_X1_findFloor at hf
  refine V_in (fun ho0 _ => ?_)
  refine r_aload_n C 0 rfl rfl dX1_findFloor_0 ?_
  refine r_iconst C dX1_findFloor_1 ?_
  refine r_putf C 7 (by decide) rfl (fx_m rfl) (by decide) (ly_7 cy _ _) 15 (ly_7 cy _ _) rfl (Nat.le_of_ble_eq_true rfl) (inR_lit rfl) rfl in_X1 tyX1 tyX1_ok nmX1 (by decide) tw_214 rfl rfl dX1_findFloor_2 (fun μ1 hμ3 => ?_)
  replace hf := of_lm hf hμ3
  refine V_in (fun ho2 _ => ?_)
  refine r_iconst C dX1_findFloor_5 ?_
  refine r_istore_n C 1 (lw := [some (rf 7), some (nu 0), none, none, none]) rfl rfl (by decide) dX1_findFloor_6 ?_
  exact V_lw (w_X1_findFloor_7 C hCF 64 0 μ1 (inR_lit rfl) hf) (And.intro rfl (And.intro rfl trivial))
set_option maxHeartbeats 4000000 in
set_option maxRecDepth 100000 in
theorem w_X1_gatherStones_7 {p : Program} {l : Launch} {e : Env} {s : State} {m : MethodId} {args : Array Value} {below : List Frame} {meth : Method} {c : Code} {D : va_G} {cy : Nat → ClassId} {A : Nat → Prop} {ids : List Nat} {ad : Nat → Nat} {r : Int} {μ' : Mem} (C : Cx p s m args meth c D (tyl cy) A 3 cX1_gatherStones yX1_gatherStones.cls (some .boolean)) (hCF : CF ad A s) : ∀ n : Nat, ∀ (v1 : Int) (μ : Mem), inR v1 → f_X1_gatherStones_7   n v1 μ = some (r, μ') → V p l e (rmk 4) s m args below meth c 0 0 (MQ below (aI D (tyl cy) (lay cy) ids ad A r μ') args s 0 0 A) D A (lay cy) ids ad 3 μ 7 [some (rf 7), some (nu v1), none] [] := by
  intro n
  induction n with
  | zero =>
    intro v1 μ hv1 hf
    cases hf
  | succ n ih =>
    intro v1 μ hv1 hf
    rw [f_X1_gatherStones_7_e] at hf
    refine V_in (fun ho0 _ => ?_)
    refine r_iload_n C 1 rfl rfl dX1_gatherStones_7 ?_
    refine r_aload_n C 0 rfl rfl dX1_gatherStones_8 ?_
    refine r_getf C 7 (by decide) rfl (fx_m rfl) (ly_7 cy _ _) rfl in_X1 0 (by decide) tw_199 (v := rf 6) rfl dX1_gatherStones_9 ?_
    refine r_getfN C 6 (by decide) rfl (fx_m rfl) (ly_6 cy _ _) rfl in_X3 6 (by decide) tw_156 (v := nu (μ 6 6)) rfl dX1_gatherStones_12 ?_
    refine r_icmp_ge C 95 hv1 (ho0 _ _) rfl dX1_gatherStones_15 (fun c1 => ?_) (fun c1 => ?_)
    · replace hf := if_t hf c1
      refine r_iconst C dX1_gatherStones_95 ?_
      obtain ⟨rfl, rfl⟩ := of_ret hf
      exact r_zret C rfl (by decide) dX1_gatherStones_96
    · replace hf := if_f hf c1
      refine r_aload_n C 0 rfl rfl dX1_gatherStones_18 ?_
      refine r_getf C 7 (by decide) rfl (fx_m rfl) (ly_7 cy _ _) rfl in_X1 0 (by decide) tw_199 (v := rf 6) rfl dX1_gatherStones_19 ?_
      refine r_iload_n C 1 rfl rfl dX1_gatherStones_22 ?_
      obtain ⟨r2, μ3, hc4, hf⟩ := of_bd hf
      refine r_callVR C hCF (As := [nu v1]) 6 (by decide) rfl (fx_m rfl) (ly_6 cy _ _) rfl (c_X3_stoneAt hv1 hc4) rfl (by decide) (by decide) ⟨Nat.le_refl 0, Nat.le_refl 0⟩ tw_725 tw_598 tw_7 tw_596 tw_597 1 (by decide) rfl (Nat.le_of_ble_eq_true rfl) dX1_gatherStones_23 ?_
      refine V_in (fun ho5 _ => ?_)
      refine r_astore_n C 2 (lw := [some (rf 7), some (nu v1), some (rf r2)]) rfl rfl (by decide) dX1_gatherStones_26 ?_
      refine r_aload_n C 2 rfl rfl dX1_gatherStones_27 ?_
      refine r_ifnull C 89 rfl dX1_gatherStones_28 (fun c7 => ?_) (fun c7 => ?_)
      · replace hf := if_t hf c7
        refine r_iinc C rfl (lw := [some (rf 7), some (nu (v1 + 1)), some (rf r2)]) rfl (by decide) dX1_gatherStones_89 ?_
        refine r_goto C 7 rfl dX1_gatherStones_92 ?_
        obtain ⟨g8, hf⟩ := of_g hf
        exact V_lw (ih (v1 + 1) μ3 g8 hf) (And.intro rfl (And.intro rfl trivial))
      · replace hf := if_f hf c7
        refine r_aload_n C 2 rfl rfl dX1_gatherStones_31 ?_
        obtain ⟨g9, hf⟩ := of_g hf
        obtain ⟨r10, μ11, hc12, hf⟩ := of_bd hf
        refine r_callVI C hCF (As := []) _ (st_0 g9) rfl (st_m g9) (ly_st cy _ g9 _) rfl (c_X4_isDone hc12) rfl (by decide) (by decide) ⟨Nat.le_refl 0, Nat.le_refl 0⟩ tw_726 tw_602 tw_17 tw_600 tw_601 0 (by decide) rfl (Nat.le_of_ble_eq_true rfl) dX1_gatherStones_32 (fun hr14 => ?_)
        refine V_in (fun ho13 _ => ?_)
        refine r_if_eq C 41 hr14 rfl dX1_gatherStones_35 (fun c15 => ?_) (fun c15 => ?_)
        · replace hf := if_t hf c15
          refine r_aload_n C 2 rfl rfl dX1_gatherStones_41 ?_
          obtain ⟨g16, hf⟩ := of_g hf
          refine r_getfN C _ (st_0 g16) rfl (st_m g16) (ly_st cy _ g16 _) rfl in_X4 3 (by decide) tw_561 (v := nu (μ11 r2.toNat 3)) rfl dX1_gatherStones_42 ?_
          refine r_iconst C dX1_gatherStones_45 ?_
          refine r_icmp_ne C 57 (ho13 _ _) (inR_lit rfl) rfl dX1_gatherStones_46 (fun c17 => ?_) (fun c17 => ?_)
          · replace hf := if_f hf c17
            refine r_iconst C dX1_gatherStones_57 ?_
            obtain ⟨rfl, rfl⟩ := of_ret hf
            exact r_zret C rfl (by decide) dX1_gatherStones_58
          · replace hf := if_t hf c17
            refine r_aload_n C 0 rfl rfl dX1_gatherStones_49 ?_
            refine r_getf C 7 (by decide) rfl (fx_m rfl) (ly_7 cy _ _) rfl in_X1 5 (by decide) tw_204 (v := nu (μ11 7 5)) rfl dX1_gatherStones_50 ?_
            refine r_iconst C dX1_gatherStones_53 ?_
            refine r_icmp_lt C 59 (ho13 _ _) (inR_lit rfl) rfl dX1_gatherStones_54 (fun c18 => ?_) (fun c18 => ?_)
            · replace hf := if_t hf c18
              refine r_aload_n C 0 rfl rfl dX1_gatherStones_59 ?_
              refine r_getf C 7 (by decide) rfl (fx_m rfl) (ly_7 cy _ _) rfl in_X1 3 (by decide) tw_202 (v := rf 21) rfl dX1_gatherStones_60 ?_
              refine r_aload_n C 0 rfl rfl dX1_gatherStones_63 ?_
              refine r_getf C 7 (by decide) rfl (fx_m rfl) (ly_7 cy _ _) rfl in_X1 5 (by decide) tw_204 (v := nu (μ11 7 5)) rfl dX1_gatherStones_64 ?_
              refine r_aload_n C 2 rfl rfl dX1_gatherStones_67 ?_
              obtain ⟨g19, hf⟩ := of_g hf
              refine r_aastS C 21 (by decide) rfl (fx_m rfl) (by decide) (n := 5) (fun f => ly_21 cy _ f) g16 g19 (by decide) dX1_gatherStones_68 (fun μ20 hμ22 => ?_)
              replace hf := of_lm hf hμ22
              refine V_in (fun ho21 _ => ?_)
              refine r_aload_n C 0 rfl rfl dX1_gatherStones_69 ?_
              refine r_getf C 7 (by decide) rfl (fx_m rfl) (ly_7 cy _ _) rfl in_X1 4 (by decide) tw_203 (v := rf 22) rfl dX1_gatherStones_70 ?_
              refine r_aload_n C 0 rfl rfl dX1_gatherStones_73 ?_
              refine r_getf C 7 (by decide) rfl (fx_m rfl) (ly_7 cy _ _) rfl in_X1 5 (by decide) tw_204 (v := nu (μ20 7 5)) rfl dX1_gatherStones_74 ?_
              refine r_iload_n C 1 rfl rfl dX1_gatherStones_77 ?_
              obtain ⟨g23, hf⟩ := of_g hf
              refine r_iast C 22 (by decide) rfl (fx_m rfl) (by decide) 0 (cA := cy 0) (n := 5) (fun f => ly_22 cy _ f) rfl g23 (by decide) hv1 dX1_gatherStones_78 (fun μ24 hμ26 => ?_)
              replace hf := of_lm hf hμ26
              refine V_in (fun ho25 _ => ?_)
              refine r_aload_n C 0 rfl rfl dX1_gatherStones_79 ?_
              refine r_dup C dX1_gatherStones_80 ?_
              refine r_getf C 7 (by decide) rfl (fx_m rfl) (ly_7 cy _ _) rfl in_X1 5 (by decide) tw_204 (v := nu (μ24 7 5)) rfl dX1_gatherStones_81 ?_
              refine r_iconst C dX1_gatherStones_84 ?_
              refine r_iadd C dX1_gatherStones_85 ?_
              obtain ⟨g27, hf⟩ := of_g hf
              refine r_putf C 7 (by decide) rfl (fx_m rfl) (by decide) (ly_7 cy _ _) 5 (ly_7 cy _ _) rfl (Nat.le_of_ble_eq_true rfl) g27 rfl in_X1 tyX1 tyX1_ok nmX1 (by decide) tw_204 rfl rfl dX1_gatherStones_86 (fun μ28 hμ30 => ?_)
              replace hf := of_lm hf hμ30
              refine V_in (fun ho29 _ => ?_)
              refine r_iinc C rfl (lw := [some (rf 7), some (nu (v1 + 1)), some (rf r2)]) rfl (by decide) dX1_gatherStones_89 ?_
              refine r_goto C 7 rfl dX1_gatherStones_92 ?_
              obtain ⟨g31, hf⟩ := of_g hf
              exact V_lw (ih (v1 + 1) μ28 g31 hf) (And.intro rfl (And.intro rfl trivial))
            · replace hf := if_f hf c18
              refine r_iconst C dX1_gatherStones_57 ?_
              obtain ⟨rfl, rfl⟩ := of_ret hf
              exact r_zret C rfl (by decide) dX1_gatherStones_58
        · replace hf := if_f hf c15
          refine r_goto C 89 rfl dX1_gatherStones_38 ?_
          refine r_iinc C rfl (lw := [some (rf 7), some (nu (v1 + 1)), some (rf r2)]) rfl (by decide) dX1_gatherStones_89 ?_
          refine r_goto C 7 rfl dX1_gatherStones_92 ?_
          obtain ⟨g32, hf⟩ := of_g hf
          exact V_lw (ih (v1 + 1) μ11 g32 hf) (And.intro rfl (And.intro rfl trivial))
set_option maxHeartbeats 4000000 in
set_option maxRecDepth 100000 in
theorem c_X1_gatherStones {l : Launch} {D : va_G} {cy : Nat → ClassId} {ids : List Nat} {ad : Nat → Nat} {μ μ' : Mem} { r : Int}  (hf : f_X1_gatherStones μ  = some (r, μ')) : KK aI l D (tyl cy) (lay cy) ids ad 4 yX1_gatherStones cX1_gatherStones 3 (some .boolean) [rf 7] μ r μ' := by
  refine KK.of (by decide +kernel) (Nat.le_of_ble_eq_true rfl) ?_
  intro p e s m args below meth c A C hCF
  unfold f_X1_gatherStones at hf
  refine V_in (fun ho0 _ => ?_)
  refine r_aload_n C 0 rfl rfl dX1_gatherStones_0 ?_
  refine r_iconst C dX1_gatherStones_1 ?_
  refine r_putf C 7 (by decide) rfl (fx_m rfl) (by decide) (ly_7 cy _ _) 5 (ly_7 cy _ _) rfl (Nat.le_of_ble_eq_true rfl) (inR_lit rfl) rfl in_X1 tyX1 tyX1_ok nmX1 (by decide) tw_204 rfl rfl dX1_gatherStones_2 (fun μ1 hμ3 => ?_)
  replace hf := of_lm hf hμ3
  refine V_in (fun ho2 _ => ?_)
  refine r_iconst C dX1_gatherStones_5 ?_
  refine r_istore_n C 1 (lw := [some (rf 7), some (nu 0), none]) rfl rfl (by decide) dX1_gatherStones_6 ?_
  exact V_lw (w_X1_gatherStones_7 C hCF 64 0 μ1 (inR_lit rfl) hf) (And.intro rfl (And.intro rfl trivial))
set_option maxHeartbeats 4000000 in
set_option maxRecDepth 100000 in
theorem w_X1_keepPlan_10 {p : Program} {l : Launch} {e : Env} {s : State} {m : MethodId} {args : Array Value} {below : List Frame} {meth : Method} {c : Code} {D : va_G} {cy : Nat → ClassId} {A : Nat → Prop} {ids : List Nat} {ad : Nat → Nat} {r : Int} {μ' : Mem} (C : Cx p s m args meth c D (tyl cy) A 3 cX1_keepPlan yX1_keepPlan.cls none) (hCF : CF ad A s) : ∀ n : Nat, ∀ (v1 : Int) (μ : Mem), inR v1 → f_X1_keepPlan_10   n v1 μ = some (r, μ') → V p l e (rmk 2) s m args below meth c 0 0 (MQ below (aV D (tyl cy) (lay cy) ids ad A r μ') args s 0 0 A) D A (lay cy) ids ad 3 μ 10 [some (rf 7), some (nu v1), none] [] := by
  intro n
  induction n with
  | zero =>
    intro v1 μ hv1 hf
    cases hf
  | succ n ih =>
    intro v1 μ hv1 hf
    rw [f_X1_keepPlan_10_e] at hf
    refine V_in (fun ho0 _ => ?_)
    refine r_iload_n C 1 rfl rfl dX1_keepPlan_10 ?_
    refine r_aload_n C 0 rfl rfl dX1_keepPlan_11 ?_
    refine r_getf C 7 (by decide) rfl (fx_m rfl) (ly_7 cy _ _) rfl in_X1 5 (by decide) tw_204 (v := nu (μ 7 5)) rfl dX1_keepPlan_12 ?_
    refine r_icmp_ge C 87 hv1 (ho0 _ _) rfl dX1_keepPlan_15 (fun c1 => ?_) (fun c1 => ?_)
    · replace hf := if_t hf c1
      obtain ⟨-, rfl⟩ := of_ret hf
      exact r_vret C rfl dX1_keepPlan_87
    · replace hf := if_f hf c1
      refine r_aload_n C 0 rfl rfl dX1_keepPlan_18 ?_
      refine r_getf C 7 (by decide) rfl (fx_m rfl) (ly_7 cy _ _) rfl in_X1 9 (by decide) tw_208 (v := rf 26) rfl dX1_keepPlan_19 ?_
      refine r_iload_n C 1 rfl rfl dX1_keepPlan_22 ?_
      obtain ⟨g2, hf⟩ := of_g hf
      refine r_iald C 26 (by decide) rfl (fx_m rfl) 0 (cA := cy 0) (n := 5) (ly_26 cy _ _) rfl g2 (by decide) dX1_keepPlan_23 ?_
      refine r_istore_n C 2 (lw := [some (rf 7), some (nu v1), some (nu (μ 26 v1.toNat))]) rfl rfl (by decide) dX1_keepPlan_24 ?_
      refine r_aload_n C 0 rfl rfl dX1_keepPlan_25 ?_
      refine r_getf C 7 (by decide) rfl (fx_m rfl) (ly_7 cy _ _) rfl in_X1 16 (by decide) tw_215 (v := rf 31) rfl dX1_keepPlan_26 ?_
      refine r_iload_n C 1 rfl rfl dX1_keepPlan_29 ?_
      refine r_aald C 31 (by decide) rfl (fx_m rfl) 5 (cA := cy 5) (n := 5) (ly_31 cy _ _) rfl rfl g2 (by decide) dX1_keepPlan_30 ?_
      refine r_iconst C dX1_keepPlan_31 ?_
      refine r_aload_n C 0 rfl rfl dX1_keepPlan_32 ?_
      refine r_getf C 7 (by decide) rfl (fx_m rfl) (ly_7 cy _ _) rfl in_X1 4 (by decide) tw_203 (v := rf 22) rfl dX1_keepPlan_33 ?_
      refine r_iload_n C 2 rfl rfl dX1_keepPlan_36 ?_
      obtain ⟨g3, hf⟩ := of_g hf
      refine r_iald C 22 (by decide) rfl (fx_m rfl) 0 (cA := cy 0) (n := 5) (ly_22 cy _ _) rfl g3 (by decide) dX1_keepPlan_37 ?_
      refine r_iast C _ (row0 (b := 45)) rfl (ba_r45 (rowz g2)) (row9 (b := 45) (rowz g2) (by decide)) 0 (cA := cy 0) (n := 4) (fun f => ly_r45 cy _ (rowz g2) f) rfl ⟨by decide, by decide⟩ (by decide) (ho0 _ _) dX1_keepPlan_38 (fun μ4 hμ6 => ?_)
      replace hf := of_lm hf hμ6
      refine V_in (fun ho5 _ => ?_)
      refine r_aload_n C 0 rfl rfl dX1_keepPlan_39 ?_
      refine r_getf C 7 (by decide) rfl (fx_m rfl) (ly_7 cy _ _) rfl in_X1 16 (by decide) tw_215 (v := rf 31) rfl dX1_keepPlan_40 ?_
      refine r_iload_n C 1 rfl rfl dX1_keepPlan_43 ?_
      refine r_aald C 31 (by decide) rfl (fx_m rfl) 5 (cA := cy 5) (n := 5) (ly_31 cy _ _) rfl rfl g2 (by decide) dX1_keepPlan_44 ?_
      refine r_iconst C dX1_keepPlan_45 ?_
      refine r_aload_n C 0 rfl rfl dX1_keepPlan_46 ?_
      refine r_getf C 7 (by decide) rfl (fx_m rfl) (ly_7 cy _ _) rfl in_X1 10 (by decide) tw_209 (v := rf 27) rfl dX1_keepPlan_47 ?_
      refine r_iload_n C 2 rfl rfl dX1_keepPlan_50 ?_
      refine r_iald C 27 (by decide) rfl (fx_m rfl) 0 (cA := cy 0) (n := 5) (ly_27 cy _ _) rfl g3 (by decide) dX1_keepPlan_51 ?_
      refine r_iast C _ (row0 (b := 45)) rfl (ba_r45 (rowz g2)) (row9 (b := 45) (rowz g2) (by decide)) 0 (cA := cy 0) (n := 4) (fun f => ly_r45 cy _ (rowz g2) f) rfl ⟨by decide, by decide⟩ (by decide) (ho5 _ _) dX1_keepPlan_52 (fun μ7 hμ9 => ?_)
      replace hf := of_lm hf hμ9
      refine V_in (fun ho8 _ => ?_)
      refine r_aload_n C 0 rfl rfl dX1_keepPlan_53 ?_
      refine r_getf C 7 (by decide) rfl (fx_m rfl) (ly_7 cy _ _) rfl in_X1 16 (by decide) tw_215 (v := rf 31) rfl dX1_keepPlan_54 ?_
      refine r_iload_n C 1 rfl rfl dX1_keepPlan_57 ?_
      refine r_aald C 31 (by decide) rfl (fx_m rfl) 5 (cA := cy 5) (n := 5) (ly_31 cy _ _) rfl rfl g2 (by decide) dX1_keepPlan_58 ?_
      refine r_iconst C dX1_keepPlan_59 ?_
      refine r_aload_n C 0 rfl rfl dX1_keepPlan_60 ?_
      refine r_getf C 7 (by decide) rfl (fx_m rfl) (ly_7 cy _ _) rfl in_X1 11 (by decide) tw_210 (v := rf 28) rfl dX1_keepPlan_61 ?_
      refine r_iload_n C 2 rfl rfl dX1_keepPlan_64 ?_
      refine r_iald C 28 (by decide) rfl (fx_m rfl) 0 (cA := cy 0) (n := 5) (ly_28 cy _ _) rfl g3 (by decide) dX1_keepPlan_65 ?_
      refine r_iast C _ (row0 (b := 45)) rfl (ba_r45 (rowz g2)) (row9 (b := 45) (rowz g2) (by decide)) 0 (cA := cy 0) (n := 4) (fun f => ly_r45 cy _ (rowz g2) f) rfl ⟨by decide, by decide⟩ (by decide) (ho8 _ _) dX1_keepPlan_66 (fun μ10 hμ12 => ?_)
      replace hf := of_lm hf hμ12
      refine V_in (fun ho11 _ => ?_)
      refine r_aload_n C 0 rfl rfl dX1_keepPlan_67 ?_
      refine r_getf C 7 (by decide) rfl (fx_m rfl) (ly_7 cy _ _) rfl in_X1 16 (by decide) tw_215 (v := rf 31) rfl dX1_keepPlan_68 ?_
      refine r_iload_n C 1 rfl rfl dX1_keepPlan_71 ?_
      refine r_aald C 31 (by decide) rfl (fx_m rfl) 5 (cA := cy 5) (n := 5) (ly_31 cy _ _) rfl rfl g2 (by decide) dX1_keepPlan_72 ?_
      refine r_iconst C dX1_keepPlan_73 ?_
      refine r_aload_n C 0 rfl rfl dX1_keepPlan_74 ?_
      refine r_getf C 7 (by decide) rfl (fx_m rfl) (ly_7 cy _ _) rfl in_X1 12 (by decide) tw_211 (v := rf 29) rfl dX1_keepPlan_75 ?_
      refine r_iload_n C 2 rfl rfl dX1_keepPlan_78 ?_
      refine r_iald C 29 (by decide) rfl (fx_m rfl) 0 (cA := cy 0) (n := 5) (ly_29 cy _ _) rfl g3 (by decide) dX1_keepPlan_79 ?_
      refine r_iast C _ (row0 (b := 45)) rfl (ba_r45 (rowz g2)) (row9 (b := 45) (rowz g2) (by decide)) 0 (cA := cy 0) (n := 4) (fun f => ly_r45 cy _ (rowz g2) f) rfl ⟨by decide, by decide⟩ (by decide) (ho11 _ _) dX1_keepPlan_80 (fun μ13 hμ15 => ?_)
      replace hf := of_lm hf hμ15
      refine V_in (fun ho14 _ => ?_)
      refine r_iinc C rfl (lw := [some (rf 7), some (nu (v1 + 1)), some (nu (μ 26 v1.toNat))]) rfl (by decide) dX1_keepPlan_81 ?_
      refine r_goto C 10 rfl dX1_keepPlan_84 ?_
      obtain ⟨g16, hf⟩ := of_g hf
      exact V_lw (ih (v1 + 1) μ13 g16 hf) (And.intro rfl (And.intro rfl trivial))
set_option maxHeartbeats 4000000 in
set_option maxRecDepth 100000 in
theorem c_X1_keepPlan {l : Launch} {D : va_G} {cy : Nat → ClassId} {ids : List Nat} {ad : Nat → Nat} {μ μ' : Mem} { r : Int}  (hf : f_X1_keepPlan μ  = some (r, μ')) : KK aV l D (tyl cy) (lay cy) ids ad 2 yX1_keepPlan cX1_keepPlan 3 none [rf 7] μ r μ' := by
  refine KK.of (by decide +kernel) (Nat.le_of_ble_eq_true rfl) ?_
  intro p e s m args below meth c A C hCF
  unfold f_X1_keepPlan at hf
  refine V_in (fun ho0 _ => ?_)
  refine r_aload_n C 0 rfl rfl dX1_keepPlan_0 ?_
  refine r_aload_n C 0 rfl rfl dX1_keepPlan_1 ?_
  refine r_getf C 7 (by decide) rfl (fx_m rfl) (ly_7 cy _ _) rfl in_X1 5 (by decide) tw_204 (v := nu (μ 7 5)) rfl dX1_keepPlan_2 ?_
  refine r_putf C 7 (by decide) rfl (fx_m rfl) (by decide) (ly_7 cy _ _) 17 (ly_7 cy _ _) rfl (Nat.le_of_ble_eq_true rfl) (ho0 _ _) rfl in_X1 tyX1 tyX1_ok nmX1 (by decide) tw_216 rfl rfl dX1_keepPlan_5 (fun μ1 hμ3 => ?_)
  replace hf := of_lm hf hμ3
  refine V_in (fun ho2 _ => ?_)
  refine r_iconst C dX1_keepPlan_8 ?_
  refine r_istore_n C 1 (lw := [some (rf 7), some (nu 0), none]) rfl rfl (by decide) dX1_keepPlan_9 ?_
  exact V_lw (w_X1_keepPlan_10 C hCF 64 0 μ1 (inR_lit rfl) hf) (And.intro rfl (And.intro rfl trivial))
set_option maxHeartbeats 4000000 in
set_option maxRecDepth 100000 in
theorem c_X1_menWanted {l : Launch} {D : va_G} {cy : Nat → ClassId} {ids : List Nat} {ad : Nat → Nat} {μ μ' : Mem} {a1 r : Int}  (hf : f_X1_menWanted μ a1 = some (r, μ')) : KK aI l D (tyl cy) (lay cy) ids ad 6 yX1_menWanted cX1_menWanted 4 (some .int) [rf 7, rf a1] μ r μ' := by
  refine KK.of (by decide +kernel) (Nat.le_of_ble_eq_true rfl) ?_
  intro p e s m args below meth c A C hCF
  unfold f_X1_menWanted at hf
  refine V_in (fun ho0 _ => ?_)
  refine r_aload_n C 0 rfl rfl dX1_menWanted_0 ?_
  refine r_getf C 7 (by decide) rfl (fx_m rfl) (ly_7 cy _ _) rfl in_X1 1 (by decide) tw_200 (v := rf 4) rfl dX1_menWanted_1 ?_
  refine r_aload_n C 1 rfl rfl dX1_menWanted_4 ?_
  obtain ⟨g1, hf⟩ := of_g hf
  refine r_getfN C _ (st_0 g1) rfl (st_m g1) (ly_st cy _ g1 _) rfl in_X4 0 (by decide) tw_550 (v := nu (μ a1.toNat 0)) rfl dX1_menWanted_5 ?_
  refine r_iconst C dX1_menWanted_8 ?_
  obtain ⟨r2, μ3, hc4, hf⟩ := of_bd hf
  refine r_callVI C hCF (As := [nu (μ a1.toNat 0), nu 0]) 4 (by decide) rfl (fx_m rfl) (ly_4 cy _ _) rfl (c_X6_pullOfWeight (ho0 _ _) (inR_lit rfl) hc4) rfl (by decide) (by decide) ⟨Nat.le_refl 0, Nat.le_refl 0⟩ tw_740 tw_622 tw_5 tw_620 tw_621 2 (by decide) rfl (Nat.le_of_ble_eq_true rfl) dX1_menWanted_9 (fun hr6 => ?_)
  refine V_in (fun ho5 _ => ?_)
  refine r_istore_n C 2 (lw := [some (rf 7), some (rf a1), some (nu r2), none]) rfl rfl (by decide) dX1_menWanted_12 ?_
  refine r_aload_n C 1 rfl rfl dX1_menWanted_13 ?_
  obtain ⟨g7, hf⟩ := of_g hf
  refine r_getfN C _ (st_0 g7) rfl (st_m g7) (ly_st cy _ g7 _) rfl in_X4 2 (by decide) tw_557 (v := nu (μ3 a1.toNat 2)) rfl dX1_menWanted_14 ?_
  refine r_iconst C dX1_menWanted_17 ?_
  refine r_icmp_gt C 36 (ho5 _ _) (inR_lit rfl) rfl dX1_menWanted_18 (fun c8 => ?_) (fun c8 => ?_)
  · replace hf := if_t hf c8
    refine r_iconst C dX1_menWanted_36 ?_
    refine r_istore_n C 3 (lw := [some (rf 7), some (rf a1), some (nu r2), some (nu 0)]) rfl rfl (by decide) dX1_menWanted_37 ?_
    refine r_iload_n C 2 rfl rfl dX1_menWanted_38 ?_
    refine r_iload_n C 3 rfl rfl dX1_menWanted_39 ?_
    obtain ⟨r9, μ10, hc11, hf⟩ := of_bd hf
    refine r_callSI C hCF (As := [nu r2, nu 0]) (c_J9_max_7cf53 hr6 (inR_lit rfl) hc11) rfl (by decide) (by decide) ⟨Nat.le_refl 0, Nat.le_refl 0⟩ tw_741 tw_397 tw_12 tw_396 2 (by decide) rfl (Nat.le_of_ble_eq_true rfl) dX1_menWanted_40 (fun hr13 => ?_)
    refine V_in (fun ho12 _ => ?_)
    obtain ⟨rfl, rfl⟩ := of_ret hf
    exact r_iret C rfl hr13 dX1_menWanted_43
  · replace hf := if_f hf c8
    refine r_aload_n C 0 rfl rfl dX1_menWanted_21 ?_
    refine r_getf C 7 (by decide) rfl (fx_m rfl) (ly_7 cy _ _) rfl in_X1 1 (by decide) tw_200 (v := rf 4) rfl dX1_menWanted_22 ?_
    refine r_aload_n C 1 rfl rfl dX1_menWanted_25 ?_
    refine r_getfN C _ (st_0 g7) rfl (st_m g7) (ly_st cy _ g7 _) rfl in_X4 0 (by decide) tw_550 (v := nu (μ3 a1.toNat 0)) rfl dX1_menWanted_26 ?_
    refine r_iconst C dX1_menWanted_29 ?_
    obtain ⟨r14, μ15, hc16, hf⟩ := of_bd hf
    refine r_callVI C hCF (As := [nu (μ3 a1.toNat 0), nu 2]) 4 (by decide) rfl (fx_m rfl) (ly_4 cy _ _) rfl (c_X6_pullOfWeight (ho5 _ _) (inR_lit rfl) hc16) rfl (by decide) (by decide) ⟨Nat.le_refl 0, Nat.le_refl 0⟩ tw_740 tw_622 tw_5 tw_620 tw_621 2 (by decide) rfl (Nat.le_of_ble_eq_true rfl) dX1_menWanted_30 (fun hr18 => ?_)
    refine V_in (fun ho17 _ => ?_)
    refine r_goto C 37 rfl dX1_menWanted_33 ?_
    refine r_istore_n C 3 (lw := [some (rf 7), some (rf a1), some (nu r2), some (nu r14)]) rfl rfl (by decide) dX1_menWanted_37 ?_
    refine r_iload_n C 2 rfl rfl dX1_menWanted_38 ?_
    refine r_iload_n C 3 rfl rfl dX1_menWanted_39 ?_
    obtain ⟨r19, μ20, hc21, hf⟩ := of_bd hf
    refine r_callSI C hCF (As := [nu r2, nu r14]) (c_J9_max_7cf53 hr6 hr18 hc21) rfl (by decide) (by decide) ⟨Nat.le_refl 0, Nat.le_refl 0⟩ tw_741 tw_397 tw_12 tw_396 2 (by decide) rfl (Nat.le_of_ble_eq_true rfl) dX1_menWanted_40 (fun hr23 => ?_)
    refine V_in (fun ho22 _ => ?_)
    obtain ⟨rfl, rfl⟩ := of_ret hf
    exact r_iret C rfl hr23 dX1_menWanted_43
set_option maxHeartbeats 4000000 in
set_option maxRecDepth 100000 in
theorem w_X1_leadOf_82 {p : Program} {l : Launch} {e : Env} {s : State} {m : MethodId} {args : Array Value} {below : List Frame} {meth : Method} {c : Code} {D : va_G} {cy : Nat → ClassId} {A : Nat → Prop} {ids : List Nat} {ad : Nat → Nat} {r : Int} {μ' : Mem} (C : Cx p s m args meth c D (tyl cy) A 4 cX1_leadOf yX1_leadOf.cls (some .int)) (hCF : CF ad A s) : ∀ (v1 v3 : Int) (μ : Mem), inR v3 → f_X1_leadOf_82   v1 v3 μ = some (r, μ') → V p l e (rmk 8) s m args below meth c 0 0 (MQ below (aI D (tyl cy) (lay cy) ids ad A r μ') args s 0 0 A) D A (lay cy) ids ad 4 μ 82 [some (rf 7), some (rf v1), none, some (nu v3)] [] := by
  intro v1 v3 μ hv3 hf
  unfold f_X1_leadOf_82 at hf
  refine V_in (fun ho0 _ => ?_)
  refine r_aload_n C 1 rfl rfl dX1_leadOf_82 ?_
  obtain ⟨g1, hf⟩ := of_g hf
  refine r_getfN C _ (st_0 g1) rfl (st_m g1) (ly_st cy _ g1 _) rfl in_X4 2 (by decide) tw_557 (v := nu (μ v1.toNat 2)) rfl dX1_leadOf_83 ?_
  refine r_iconst C dX1_leadOf_86 ?_
  refine r_icmp_gt C 101 (ho0 _ _) (inR_lit rfl) rfl dX1_leadOf_87 (fun c2 => ?_) (fun c2 => ?_)
  · replace hf := if_t hf c2
    refine r_iload_n C 3 rfl rfl dX1_leadOf_101 ?_
    obtain ⟨rfl, rfl⟩ := of_ret hf
    exact r_iret C rfl hv3 dX1_leadOf_102
  · replace hf := if_f hf c2
    refine r_iload_n C 3 rfl rfl dX1_leadOf_90 ?_
    refine r_aload_n C 0 rfl rfl dX1_leadOf_91 ?_
    refine r_getf C 7 (by decide) rfl (fx_m rfl) (ly_7 cy _ _) rfl in_X1 1 (by decide) tw_200 (v := rf 4) rfl dX1_leadOf_92 ?_
    refine r_iconst C dX1_leadOf_95 ?_
    obtain ⟨r3, μ4, hc5, hf⟩ := of_bd hf
    refine r_callVI C hCF (As := [nu 5]) 4 (by decide) rfl (fx_m rfl) (ly_4 cy _ _) rfl (c_X6_numberAt (inR_lit rfl) hc5) rfl (by decide) (by decide) ⟨Nat.le_refl 0, Nat.le_refl 0⟩ tw_742 tw_626 tw_5 tw_624 tw_625 1 (by decide) rfl (Nat.le_of_ble_eq_true rfl) dX1_leadOf_96 (fun hr7 => ?_)
    refine V_in (fun ho6 _ => ?_)
    refine r_iadd C dX1_leadOf_99 ?_
    refine r_istore_n C 3 (lw := [some (rf 7), some (rf v1), none, some (nu (v3 + r3))]) rfl rfl (by decide) dX1_leadOf_100 ?_
    refine r_iload_n C 3 rfl rfl dX1_leadOf_101 ?_
    obtain ⟨g8, hf⟩ := of_g hf
    obtain ⟨rfl, rfl⟩ := of_ret hf
    exact r_iret C rfl g8 dX1_leadOf_102
set_option maxHeartbeats 4000000 in
set_option maxRecDepth 100000 in
theorem w_X1_leadOf_50 {p : Program} {l : Launch} {e : Env} {s : State} {m : MethodId} {args : Array Value} {below : List Frame} {meth : Method} {c : Code} {D : va_G} {cy : Nat → ClassId} {A : Nat → Prop} {ids : List Nat} {ad : Nat → Nat} {r : Int} {μ' : Mem} (C : Cx p s m args meth c D (tyl cy) A 4 cX1_leadOf yX1_leadOf.cls (some .int)) (hCF : CF ad A s) : ∀ (v1 v2 : Int) (μ : Mem), f_X1_leadOf_50   v1 v2 μ = some (r, μ') → V p l e (rmk 8) s m args below meth c 0 0 (MQ below (aI D (tyl cy) (lay cy) ids ad A r μ') args s 0 0 A) D A (lay cy) ids ad 4 μ 50 [some (rf 7), some (rf v1), some (rf v2), none] [] := by
  intro v1 v2 μ  hf
  unfold f_X1_leadOf_50 at hf
  refine V_in (fun ho0 _ => ?_)
  refine r_iconst C dX1_leadOf_50 ?_
  refine r_istore_n C 3 (lw := [some (rf 7), some (rf v1), some (rf v2), some (nu 0)]) rfl rfl (by decide) dX1_leadOf_51 ?_
  refine r_aload_n C 1 rfl rfl dX1_leadOf_52 ?_
  obtain ⟨g1, hf⟩ := of_g hf
  refine r_getfN C _ (st_0 g1) rfl (st_m g1) (ly_st cy _ g1 _) rfl in_X4 2 (by decide) tw_557 (v := nu (μ v1.toNat 2)) rfl dX1_leadOf_53 ?_
  refine r_if_gt C 82 (ho0 _ _) rfl dX1_leadOf_56 (fun c2 => ?_) (fun c2 => ?_)
  · replace hf := if_t hf c2
    exact V_lw (w_X1_leadOf_82 C hCF v1 0 μ (inR_lit rfl) hf) (And.intro rfl (And.intro rfl (And.intro rfl trivial)))
  · replace hf := if_f hf c2
    refine r_iload_n C 3 rfl rfl dX1_leadOf_59 ?_
    refine r_aload_n C 1 rfl rfl dX1_leadOf_60 ?_
    refine r_getfN C _ (st_0 g1) rfl (st_m g1) (ly_st cy _ g1 _) rfl in_X4 0 (by decide) tw_550 (v := nu (μ v1.toNat 0)) rfl dX1_leadOf_61 ?_
    refine r_aload_n C 0 rfl rfl dX1_leadOf_64 ?_
    refine r_getf C 7 (by decide) rfl (fx_m rfl) (ly_7 cy _ _) rfl in_X1 1 (by decide) tw_200 (v := rf 4) rfl dX1_leadOf_65 ?_
    refine r_iconst C dX1_leadOf_68 ?_
    obtain ⟨r3, μ4, hc5, hf⟩ := of_bd hf
    refine r_callVI C hCF (As := [nu 4]) 4 (by decide) rfl (fx_m rfl) (ly_4 cy _ _) rfl (c_X6_numberAt (inR_lit rfl) hc5) rfl (by decide) (by decide) ⟨Nat.le_refl 0, Nat.le_refl 0⟩ tw_742 tw_626 tw_5 tw_624 tw_625 1 (by decide) rfl (Nat.le_of_ble_eq_true rfl) dX1_leadOf_69 (fun hr7 => ?_)
    refine V_in (fun ho6 _ => ?_)
    refine r_imul C dX1_leadOf_72 ?_
    refine r_aload_n C 2 rfl rfl dX1_leadOf_73 ?_
    obtain ⟨g8, hf⟩ := of_g hf
    refine r_getfN C _ (ga_0 g8) rfl (ga_m g8) (ly_ga cy _ g8 _) rfl in_X0 0 (by decide) tw_340 (v := nu (μ4 v2.toNat 0)) rfl dX1_leadOf_74 ?_
    obtain ⟨g9, hf⟩ := of_g hf
    obtain ⟨r10, μ11, hc12, hf⟩ := of_bd hf
    refine r_callSNI C hCF (As := [nu ((μ v1.toNat 0) * r3), nu (μ4 v2.toNat 0)]) (c_X10_upwards g9 (ho6 _ _) hc12) rfl (by decide) (by decide) ⟨Nat.le_refl 0, Nat.le_refl 0⟩ tw_743 tw_629 tw_1 tw_628 2 (by decide) rfl (Nat.le_of_ble_eq_true rfl) dX1_leadOf_77 (fun hr14 => ?_)
    refine V_in (fun ho13 _ => ?_)
    refine r_iadd C dX1_leadOf_80 ?_
    refine r_istore_n C 3 (lw := [some (rf 7), some (rf v1), some (rf v2), some (nu (0 + r10))]) rfl rfl (by decide) dX1_leadOf_81 ?_
    obtain ⟨g15, hf⟩ := of_g hf
    exact V_lw (w_X1_leadOf_82 C hCF v1 (0 + r10) μ11 g15 hf) (And.intro rfl (And.intro rfl (And.intro rfl trivial)))
set_option maxHeartbeats 4000000 in
set_option maxRecDepth 100000 in
theorem c_X1_leadOf {l : Launch} {D : va_G} {cy : Nat → ClassId} {ids : List Nat} {ad : Nat → Nat} {μ μ' : Mem} {a1 a2 r : Int}  (hf : f_X1_leadOf μ a1 a2 = some (r, μ')) : KK aI l D (tyl cy) (lay cy) ids ad 8 yX1_leadOf cX1_leadOf 4 (some .int) [rf 7, rf a1, rf a2] μ r μ' := by
  refine KK.of (by decide +kernel) (Nat.le_of_ble_eq_true rfl) ?_
  intro p e s m args below meth c A C hCF
  unfold f_X1_leadOf at hf
  refine V_in (fun ho0 _ => ?_)
  refine r_aload_n C 2 rfl rfl dX1_leadOf_0 ?_
  refine r_ifnull C 24 rfl dX1_leadOf_1 (fun c1 => ?_) (fun c1 => ?_)
  · replace hf := if_t hf c1
    refine r_iconst C dX1_leadOf_24 ?_
    obtain ⟨rfl, rfl⟩ := of_ret hf
    exact r_iret C rfl (inR_lit rfl) dX1_leadOf_25
  · replace hf := if_f hf c1
    refine r_aload_n C 2 rfl rfl dX1_leadOf_4 ?_
    obtain ⟨g2, hf⟩ := of_g hf
    refine r_getfN C _ (ga_0 g2) rfl (ga_m g2) (ly_ga cy _ g2 _) rfl in_X0 1 (by decide) tw_344 (v := nu (μ a2.toNat 1)) rfl dX1_leadOf_5 ?_
    refine r_iconst C dX1_leadOf_8 ?_
    refine r_icmp_ne C 24 (ho0 _ _) (inR_lit rfl) rfl dX1_leadOf_9 (fun c3 => ?_) (fun c3 => ?_)
    · replace hf := if_f hf c3
      refine r_iconst C dX1_leadOf_24 ?_
      obtain ⟨rfl, rfl⟩ := of_ret hf
      exact r_iret C rfl (inR_lit rfl) dX1_leadOf_25
    · replace hf := if_t hf c3
      refine r_aload_n C 0 rfl rfl dX1_leadOf_12 ?_
      refine r_aload_n C 1 rfl rfl dX1_leadOf_13 ?_
      obtain ⟨r4, μ5, hc6, hf⟩ := of_bd hf
      refine r_callVI C hCF (As := [rf a1]) 7 (by decide) rfl (fx_m rfl) (ly_7 cy _ _) rfl (c_X1_menWanted hc6) rfl (by decide) (by decide) ⟨Nat.le_refl 0, Nat.le_refl 0⟩ tw_736 tw_739 tw_8 tw_738 ts_19 1 (by decide) rfl (Nat.le_of_ble_eq_true rfl) dX1_leadOf_14 (fun hr8 => ?_)
      refine V_in (fun ho7 _ => ?_)
      refine r_aload_n C 2 rfl rfl dX1_leadOf_17 ?_
      obtain ⟨g9, hf⟩ := of_g hf
      refine r_getfN C _ (ga_0 g9) rfl (ga_m g9) (ly_ga cy _ g9 _) rfl in_X0 0 (by decide) tw_340 (v := nu (μ5 a2.toNat 0)) rfl dX1_leadOf_18 ?_
      refine r_icmp_le C 26 hr8 (ho7 _ _) rfl dX1_leadOf_21 (fun c10 => ?_) (fun c10 => ?_)
      · replace hf := if_t hf c10
        refine r_aload_n C 1 rfl rfl dX1_leadOf_26 ?_
        obtain ⟨g11, hf⟩ := of_g hf
        refine r_getfN C _ (st_0 g11) rfl (st_m g11) (ly_st cy _ g11 _) rfl in_X4 2 (by decide) tw_557 (v := nu (μ5 a1.toNat 2)) rfl dX1_leadOf_27 ?_
        refine r_iconst C dX1_leadOf_30 ?_
        refine r_icmp_gt C 50 (ho7 _ _) (inR_lit rfl) rfl dX1_leadOf_31 (fun c12 => ?_) (fun c12 => ?_)
        · replace hf := if_t hf c12
          exact V_lw (w_X1_leadOf_50 C hCF a1 a2 μ5 hf) (And.intro rfl (And.intro rfl (And.intro rfl trivial)))
        · replace hf := if_f hf c12
          refine r_aload_n C 0 rfl rfl dX1_leadOf_34 ?_
          refine r_getf C 7 (by decide) rfl (fx_m rfl) (ly_7 cy _ _) rfl in_X1 0 (by decide) tw_199 (v := rf 6) rfl dX1_leadOf_35 ?_
          refine r_getfN C 6 (by decide) rfl (fx_m rfl) (ly_6 cy _ _) rfl in_X3 8 (by decide) tw_160 (v := nu (μ5 6 8)) rfl dX1_leadOf_38 ?_
          refine r_aload_n C 1 rfl rfl dX1_leadOf_41 ?_
          refine r_getfN C _ (st_0 g11) rfl (st_m g11) (ly_st cy _ g11 _) rfl in_X4 1 (by decide) tw_552 (v := nu (μ5 a1.toNat 1)) rfl dX1_leadOf_42 ?_
          refine r_icmp_gt C 50 (ho7 _ _) (ho7 _ _) rfl dX1_leadOf_45 (fun c13 => ?_) (fun c13 => ?_)
          · replace hf := if_t hf c13
            exact V_lw (w_X1_leadOf_50 C hCF a1 a2 μ5 hf) (And.intro rfl (And.intro rfl (And.intro rfl trivial)))
          · replace hf := if_f hf c13
            refine r_iconst C dX1_leadOf_48 ?_
            obtain ⟨rfl, rfl⟩ := of_ret hf
            exact r_iret C rfl (inR_lit rfl) dX1_leadOf_49
      · replace hf := if_f hf c10
        refine r_iconst C dX1_leadOf_24 ?_
        obtain ⟨rfl, rfl⟩ := of_ret hf
        exact r_iret C rfl (inR_lit rfl) dX1_leadOf_25
set_option maxHeartbeats 4000000 in
set_option maxRecDepth 100000 in
theorem w_X1_prepareWorks_128 {p : Program} {l : Launch} {e : Env} {s : State} {m : MethodId} {args : Array Value} {below : List Frame} {meth : Method} {c : Code} {D : va_G} {cy : Nat → ClassId} {A : Nat → Prop} {ids : List Nat} {ad : Nat → Nat} {r : Int} {μ' : Mem} (C : Cx p s m args meth c D (tyl cy) A 4 cX1_prepareWorks yX1_prepareWorks.cls none) (hCF : CF ad A s) (k29 : Int → Mem → Option (Int × Mem)) (hk29 : ∀ (v1 : Int) (μ : Mem), inR v1 → k29 v1 μ = some (r, μ') → V p l e (rmk 10) s m args below meth c 0 0 (MQ below (aV D (tyl cy) (lay cy) ids ad A r μ') args s 0 0 A) D A (lay cy) ids ad 4 μ 29 [some (rf 7), some (nu v1), none, none] []) : ∀ n : Nat, ∀ (v1 v2 v3 : Int) (μ : Mem), inR v1 → inR v3 → f_X1_prepareWorks_128  k29 n v1 v2 v3 μ = some (r, μ') → V p l e (rmk 10) s m args below meth c 0 0 (MQ below (aV D (tyl cy) (lay cy) ids ad A r μ') args s 0 0 A) D A (lay cy) ids ad 4 μ 128 [some (rf 7), some (nu v1), some (rf v2), some (nu v3)] [] := by
  intro n
  induction n with
  | zero =>
    intro v1 v2 v3 μ hv1 hv3 hf
    cases hf
  | succ n ih =>
    intro v1 v2 v3 μ hv1 hv3 hf
    rw [f_X1_prepareWorks_128_e] at hf
    refine V_in (fun ho0 _ => ?_)
    refine r_iload_n C 3 rfl rfl dX1_prepareWorks_128 ?_
    refine r_bipush C dX1_prepareWorks_129 rfl ?_
    refine r_icmp_ge C 161 hv3 (inR_lit rfl) rfl dX1_prepareWorks_131 (fun c1 => ?_) (fun c1 => ?_)
    · replace hf := if_t hf c1
      refine r_iinc C rfl (lw := [some (rf 7), some (nu (v1 + 1)), some (rf v2), some (nu v3)]) rfl (by decide) dX1_prepareWorks_161 ?_
      refine r_goto C 29 rfl dX1_prepareWorks_164 ?_
      obtain ⟨g2, hf⟩ := of_g hf
      exact V_lw (hk29 (v1 + 1) μ g2 hf) (And.intro rfl (And.intro rfl trivial))
    · replace hf := if_f hf c1
      refine r_aload_n C 0 rfl rfl dX1_prepareWorks_134 ?_
      refine r_getf C 7 (by decide) rfl (fx_m rfl) (ly_7 cy _ _) rfl in_X1 6 (by decide) tw_205 (v := rf 23) rfl dX1_prepareWorks_135 ?_
      refine r_iload_n C 1 rfl rfl dX1_prepareWorks_138 ?_
      obtain ⟨g3, hf⟩ := of_g hf
      refine r_aald C 23 (by decide) rfl (fx_m rfl) 5 (cA := cy 5) (n := 5) (ly_23 cy _ _) rfl rfl g3 (by decide) dX1_prepareWorks_139 ?_
      refine r_iload_n C 3 rfl rfl dX1_prepareWorks_140 ?_
      refine r_aload_n C 0 rfl rfl dX1_prepareWorks_141 ?_
      refine r_aload_n C 2 rfl rfl dX1_prepareWorks_142 ?_
      refine r_aload_n C 0 rfl rfl dX1_prepareWorks_143 ?_
      refine r_getf C 7 (by decide) rfl (fx_m rfl) (ly_7 cy _ _) rfl in_X1 0 (by decide) tw_199 (v := rf 6) rfl dX1_prepareWorks_144 ?_
      refine r_iload_n C 3 rfl rfl dX1_prepareWorks_147 ?_
      obtain ⟨r4, μ5, hc6, hf⟩ := of_bd hf
      refine r_callVR C hCF (As := [nu v3]) 6 (by decide) rfl (fx_m rfl) (ly_6 cy _ _) rfl (c_X3_gangAt hv3 hc6) rfl (by decide) (by decide) ⟨Nat.le_refl 0, Nat.le_refl 0⟩ tw_731 tw_594 tw_7 tw_592 tw_593 1 (by decide) rfl (Nat.le_of_ble_eq_true rfl) dX1_prepareWorks_148 ?_
      refine V_in (fun ho7 _ => ?_)
      obtain ⟨r9, μ10, hc11, hf⟩ := of_bd hf
      refine r_callVI C hCF (As := [rf v2, rf r4]) 7 (by decide) rfl (fx_m rfl) (ly_7 cy _ _) rfl (c_X1_leadOf hc11) rfl (by decide) (by decide) ⟨Nat.le_refl 0, Nat.le_refl 0⟩ tw_732 tw_735 tw_8 tw_734 ts_18 2 (by decide) rfl (Nat.le_of_ble_eq_true rfl) dX1_prepareWorks_151 (fun hr13 => ?_)
      refine V_in (fun ho12 _ => ?_)
      obtain ⟨g14, hf⟩ := of_g hf
      refine r_iast C _ (row0 (b := 40)) rfl (ba_r40 (rowz g3)) (row9 (b := 40) (rowz g3) (by decide)) 0 (cA := cy 0) (n := 6) (fun f => ly_r40 cy _ (rowz g3) f) rfl g14 (by decide) hr13 dX1_prepareWorks_154 (fun μ15 hμ17 => ?_)
      replace hf := of_lm hf hμ17
      refine V_in (fun ho16 _ => ?_)
      refine r_iinc C rfl (lw := [some (rf 7), some (nu v1), some (rf v2), some (nu (v3 + 1))]) rfl (by decide) dX1_prepareWorks_155 ?_
      refine r_goto C 128 rfl dX1_prepareWorks_158 ?_
      obtain ⟨g18, hf⟩ := of_g hf
      exact V_lw (ih v1 v2 (v3 + 1) μ15 hv1 g18 hf) (And.intro rfl (And.intro rfl (And.intro rfl (And.intro rfl trivial))))
set_option maxHeartbeats 4000000 in
set_option maxRecDepth 100000 in
theorem w_X1_prepareWorks_84 {p : Program} {l : Launch} {e : Env} {s : State} {m : MethodId} {args : Array Value} {below : List Frame} {meth : Method} {c : Code} {D : va_G} {cy : Nat → ClassId} {A : Nat → Prop} {ids : List Nat} {ad : Nat → Nat} {r : Int} {μ' : Mem} (C : Cx p s m args meth c D (tyl cy) A 4 cX1_prepareWorks yX1_prepareWorks.cls none) (hCF : CF ad A s) (k29 : Int → Mem → Option (Int × Mem)) (hk29 : ∀ (v1 : Int) (μ : Mem), inR v1 → k29 v1 μ = some (r, μ') → V p l e (rmk 10) s m args below meth c 0 0 (MQ below (aV D (tyl cy) (lay cy) ids ad A r μ') args s 0 0 A) D A (lay cy) ids ad 4 μ 29 [some (rf 7), some (nu v1), none, none] []) : ∀ n : Nat, ∀ (v1 v2 v3 : Int) (μ : Mem), inR v1 → inR v3 → f_X1_prepareWorks_84  k29 n v1 v2 v3 μ = some (r, μ') → V p l e (rmk 10) s m args below meth c 0 0 (MQ below (aV D (tyl cy) (lay cy) ids ad A r μ') args s 0 0 A) D A (lay cy) ids ad 4 μ 84 [some (rf 7), some (nu v1), some (rf v2), some (nu v3)] [] := by
  intro n
  induction n with
  | zero =>
    intro v1 v2 v3 μ hv1 hv3 hf
    cases hf
  | succ n ih =>
    intro v1 v2 v3 μ hv1 hv3 hf
    rw [f_X1_prepareWorks_84_e] at hf
    refine V_in (fun ho0 _ => ?_)
    refine r_iload_n C 3 rfl rfl dX1_prepareWorks_84 ?_
    refine r_aload_n C 0 rfl rfl dX1_prepareWorks_85 ?_
    refine r_getf C 7 (by decide) rfl (fx_m rfl) (ly_7 cy _ _) rfl in_X1 5 (by decide) tw_204 (v := nu (μ 7 5)) rfl dX1_prepareWorks_86 ?_
    refine r_icmp_ge C 126 hv3 (ho0 _ _) rfl dX1_prepareWorks_89 (fun c1 => ?_) (fun c1 => ?_)
    · replace hf := if_t hf c1
      refine r_iconst C dX1_prepareWorks_126 ?_
      refine r_istore_n C 3 (lw := [some (rf 7), some (nu v1), some (rf v2), some (nu 0)]) rfl rfl (by decide) dX1_prepareWorks_127 ?_
      exact V_lw (w_X1_prepareWorks_128 C hCF k29 hk29 64 v1 v2 0 μ hv1 (inR_lit rfl) hf) (And.intro rfl (And.intro rfl (And.intro rfl (And.intro rfl trivial))))
    · replace hf := if_f hf c1
      refine r_aload_n C 0 rfl rfl dX1_prepareWorks_92 ?_
      refine r_getf C 7 (by decide) rfl (fx_m rfl) (ly_7 cy _ _) rfl in_X1 3 (by decide) tw_202 (v := rf 21) rfl dX1_prepareWorks_93 ?_
      refine r_iload_n C 3 rfl rfl dX1_prepareWorks_96 ?_
      obtain ⟨g2, hf⟩ := of_g hf
      refine r_aald C 21 (by decide) rfl (fx_m rfl) 4 (cA := cy 4) (n := 5) (ly_21 cy _ _) rfl rfl g2 (by decide) dX1_prepareWorks_97 ?_
      obtain ⟨g3, hf⟩ := of_g hf
      refine r_getfN C _ (st_0 g3) rfl (st_m g3) (ly_st cy _ g3 _) rfl in_X4 1 (by decide) tw_552 (v := nu (μ (μ 21 v3.toNat).toNat 1)) rfl dX1_prepareWorks_98 ?_
      refine r_aload_n C 2 rfl rfl dX1_prepareWorks_101 ?_
      obtain ⟨g4, hf⟩ := of_g hf
      refine r_getfN C _ (st_0 g4) rfl (st_m g4) (ly_st cy _ g4 _) rfl in_X4 1 (by decide) tw_552 (v := nu (μ v2.toNat 1)) rfl dX1_prepareWorks_102 ?_
      refine r_icmp_ge C 120 (ho0 _ _) (ho0 _ _) rfl dX1_prepareWorks_105 (fun c5 => ?_) (fun c5 => ?_)
      · replace hf := if_t hf c5
        refine r_iinc C rfl (lw := [some (rf 7), some (nu v1), some (rf v2), some (nu (v3 + 1))]) rfl (by decide) dX1_prepareWorks_120 ?_
        refine r_goto C 84 rfl dX1_prepareWorks_123 ?_
        obtain ⟨g6, hf⟩ := of_g hf
        exact V_lw (ih v1 v2 (v3 + 1) μ hv1 g6 hf) (And.intro rfl (And.intro rfl (And.intro rfl (And.intro rfl trivial))))
      · replace hf := if_f hf c5
        refine r_aload_n C 0 rfl rfl dX1_prepareWorks_108 ?_
        refine r_getf C 7 (by decide) rfl (fx_m rfl) (ly_7 cy _ _) rfl in_X1 8 (by decide) tw_207 (v := rf 25) rfl dX1_prepareWorks_109 ?_
        refine r_iload_n C 1 rfl rfl dX1_prepareWorks_112 ?_
        refine r_dup2 C dX1_prepareWorks_113 ?_
        obtain ⟨g7, hf⟩ := of_g hf
        refine r_iald C 25 (by decide) rfl (fx_m rfl) 0 (cA := cy 0) (n := 5) (ly_25 cy _ _) rfl g7 (by decide) dX1_prepareWorks_114 ?_
        refine r_iconst C dX1_prepareWorks_115 ?_
        refine r_iload_n C 3 rfl rfl dX1_prepareWorks_116 ?_
        refine r_ishl C dX1_prepareWorks_117 ?_
        refine r_ior C dX1_prepareWorks_118 ?_
        refine r_iast C 25 (by decide) rfl (fx_m rfl) (by decide) 0 (cA := cy 0) (n := 5) (fun f => ly_25 cy _ f) rfl g7 (by decide) (zI_rng _) dX1_prepareWorks_119 (fun μ8 hμ10 => ?_)
        replace hf := of_lm hf hμ10
        refine V_in (fun ho9 _ => ?_)
        refine r_iinc C rfl (lw := [some (rf 7), some (nu v1), some (rf v2), some (nu (v3 + 1))]) rfl (by decide) dX1_prepareWorks_120 ?_
        refine r_goto C 84 rfl dX1_prepareWorks_123 ?_
        obtain ⟨g11, hf⟩ := of_g hf
        exact V_lw (ih v1 v2 (v3 + 1) μ8 hv1 g11 hf) (And.intro rfl (And.intro rfl (And.intro rfl (And.intro rfl trivial))))
set_option maxHeartbeats 4000000 in
set_option maxRecDepth 100000 in
theorem w_X1_prepareWorks_67 {p : Program} {l : Launch} {e : Env} {s : State} {m : MethodId} {args : Array Value} {below : List Frame} {meth : Method} {c : Code} {D : va_G} {cy : Nat → ClassId} {A : Nat → Prop} {ids : List Nat} {ad : Nat → Nat} {r : Int} {μ' : Mem} (C : Cx p s m args meth c D (tyl cy) A 4 cX1_prepareWorks yX1_prepareWorks.cls none) (hCF : CF ad A s) (k29 : Int → Mem → Option (Int × Mem)) (hk29 : ∀ (v1 : Int) (μ : Mem), inR v1 → k29 v1 μ = some (r, μ') → V p l e (rmk 10) s m args below meth c 0 0 (MQ below (aV D (tyl cy) (lay cy) ids ad A r μ') args s 0 0 A) D A (lay cy) ids ad 4 μ 29 [some (rf 7), some (nu v1), none, none] []) : ∀ (v1 v2 w0 w1 : Int) (μ : Mem), inR v1 → inR w0 → inR w1 → f_X1_prepareWorks_67  k29 v1 v2 w0 w1 μ = some (r, μ') → V p l e (rmk 10) s m args below meth c 0 0 (MQ below (aV D (tyl cy) (lay cy) ids ad A r μ') args s 0 0 A) D A (lay cy) ids ad 4 μ 67 [some (rf 7), some (nu v1), some (rf v2), none] [nu w0, nu w1, rf 24] := by
  intro v1 v2 w0 w1 μ hv1 hw0 hw1 hf
  unfold f_X1_prepareWorks_67 at hf
  refine V_in (fun ho0 _ => ?_)
  obtain ⟨g1, hf⟩ := of_g hf
  refine r_iast C 24 (by decide) rfl (fx_m rfl) (by decide) 0 (cA := cy 0) (n := 5) (fun f => ly_24 cy _ f) rfl g1 (by decide) hw0 dX1_prepareWorks_67 (fun μ2 hμ4 => ?_)
  replace hf := of_lm hf hμ4
  refine V_in (fun ho3 _ => ?_)
  refine r_aload_n C 0 rfl rfl dX1_prepareWorks_68 ?_
  refine r_getf C 7 (by decide) rfl (fx_m rfl) (ly_7 cy _ _) rfl in_X1 12 (by decide) tw_211 (v := rf 29) rfl dX1_prepareWorks_69 ?_
  refine r_iload_n C 1 rfl rfl dX1_prepareWorks_72 ?_
  refine r_iconst C dX1_prepareWorks_73 ?_
  obtain ⟨g5, hf⟩ := of_g hf
  refine r_iast C 29 (by decide) rfl (fx_m rfl) (by decide) 0 (cA := cy 0) (n := 5) (fun f => ly_29 cy _ f) rfl g5 (by decide) (inR_lit rfl) dX1_prepareWorks_74 (fun μ6 hμ8 => ?_)
  replace hf := of_lm hf hμ8
  refine V_in (fun ho7 _ => ?_)
  refine r_aload_n C 0 rfl rfl dX1_prepareWorks_75 ?_
  refine r_getf C 7 (by decide) rfl (fx_m rfl) (ly_7 cy _ _) rfl in_X1 8 (by decide) tw_207 (v := rf 25) rfl dX1_prepareWorks_76 ?_
  refine r_iload_n C 1 rfl rfl dX1_prepareWorks_79 ?_
  refine r_iconst C dX1_prepareWorks_80 ?_
  refine r_iast C 25 (by decide) rfl (fx_m rfl) (by decide) 0 (cA := cy 0) (n := 5) (fun f => ly_25 cy _ f) rfl g5 (by decide) (inR_lit rfl) dX1_prepareWorks_81 (fun μ9 hμ11 => ?_)
  replace hf := of_lm hf hμ11
  refine V_in (fun ho10 _ => ?_)
  refine r_iconst C dX1_prepareWorks_82 ?_
  refine r_istore_n C 3 (lw := [some (rf 7), some (nu v1), some (rf v2), some (nu 0)]) rfl rfl (by decide) dX1_prepareWorks_83 ?_
  exact V_lw (w_X1_prepareWorks_84 C hCF k29 hk29 64 v1 v2 0 μ9 hv1 (inR_lit rfl) hf) (And.intro rfl (And.intro rfl (And.intro rfl (And.intro rfl trivial))))
set_option maxHeartbeats 4000000 in
set_option maxRecDepth 100000 in
theorem w_X1_prepareWorks_29 {p : Program} {l : Launch} {e : Env} {s : State} {m : MethodId} {args : Array Value} {below : List Frame} {meth : Method} {c : Code} {D : va_G} {cy : Nat → ClassId} {A : Nat → Prop} {ids : List Nat} {ad : Nat → Nat} {r : Int} {μ' : Mem} (C : Cx p s m args meth c D (tyl cy) A 4 cX1_prepareWorks yX1_prepareWorks.cls none) (hCF : CF ad A s) : ∀ n : Nat, ∀ (v1 : Int) (μ : Mem), inR v1 → f_X1_prepareWorks_29   n v1 μ = some (r, μ') → V p l e (rmk 10) s m args below meth c 0 0 (MQ below (aV D (tyl cy) (lay cy) ids ad A r μ') args s 0 0 A) D A (lay cy) ids ad 4 μ 29 [some (rf 7), some (nu v1), none, none] [] := by
  intro n
  induction n with
  | zero =>
    intro v1 μ hv1 hf
    cases hf
  | succ n ih =>
    intro v1 μ hv1 hf
    rw [f_X1_prepareWorks_29_e] at hf
    refine V_in (fun ho0 _ => ?_)
    refine r_iload_n C 1 rfl rfl dX1_prepareWorks_29 ?_
    refine r_aload_n C 0 rfl rfl dX1_prepareWorks_30 ?_
    refine r_getf C 7 (by decide) rfl (fx_m rfl) (ly_7 cy _ _) rfl in_X1 5 (by decide) tw_204 (v := nu (μ 7 5)) rfl dX1_prepareWorks_31 ?_
    refine r_icmp_ge C 167 hv1 (ho0 _ _) rfl dX1_prepareWorks_34 (fun c1 => ?_) (fun c1 => ?_)
    · replace hf := if_t hf c1
      obtain ⟨-, rfl⟩ := of_ret hf
      exact r_vret C rfl dX1_prepareWorks_167
    · replace hf := if_f hf c1
      refine r_aload_n C 0 rfl rfl dX1_prepareWorks_37 ?_
      refine r_getf C 7 (by decide) rfl (fx_m rfl) (ly_7 cy _ _) rfl in_X1 3 (by decide) tw_202 (v := rf 21) rfl dX1_prepareWorks_38 ?_
      refine r_iload_n C 1 rfl rfl dX1_prepareWorks_41 ?_
      obtain ⟨g2, hf⟩ := of_g hf
      refine r_aald C 21 (by decide) rfl (fx_m rfl) 4 (cA := cy 4) (n := 5) (ly_21 cy _ _) rfl rfl g2 (by decide) dX1_prepareWorks_42 ?_
      refine r_astore_n C 2 (lw := [some (rf 7), some (nu v1), some (rf (μ 21 v1.toNat)), none]) rfl rfl (by decide) dX1_prepareWorks_43 ?_
      refine r_aload_n C 0 rfl rfl dX1_prepareWorks_44 ?_
      refine r_getf C 7 (by decide) rfl (fx_m rfl) (ly_7 cy _ _) rfl in_X1 7 (by decide) tw_206 (v := rf 24) rfl dX1_prepareWorks_45 ?_
      refine r_iload_n C 1 rfl rfl dX1_prepareWorks_48 ?_
      refine r_aload_n C 2 rfl rfl dX1_prepareWorks_49 ?_
      obtain ⟨g3, hf⟩ := of_g hf
      refine r_getfN C _ (st_0 g3) rfl (st_m g3) (ly_st cy _ g3 _) rfl in_X4 2 (by decide) tw_557 (v := nu (μ (μ 21 v1.toNat).toNat 2)) rfl dX1_prepareWorks_50 ?_
      refine r_iconst C dX1_prepareWorks_53 ?_
      refine r_icmp_gt C 66 (ho0 _ _) (inR_lit rfl) rfl dX1_prepareWorks_54 (fun c4 => ?_) (fun c4 => ?_)
      · replace hf := if_t hf c4
        refine r_iconst C dX1_prepareWorks_66 ?_
        exact V_lw (w_X1_prepareWorks_67 C hCF (f_X1_prepareWorks_29 n) ih v1 (μ 21 v1.toNat) 0 v1 μ hv1 (inR_lit rfl) hv1 hf) (And.intro rfl (And.intro rfl (And.intro rfl trivial)))
      · replace hf := if_f hf c4
        refine r_aload_n C 2 rfl rfl dX1_prepareWorks_57 ?_
        refine r_getfN C _ (st_0 g3) rfl (st_m g3) (ly_st cy _ g3 _) rfl in_X4 1 (by decide) tw_552 (v := nu (μ (μ 21 v1.toNat).toNat 1)) rfl dX1_prepareWorks_58 ?_
        refine r_iconst C dX1_prepareWorks_61 ?_
        refine r_iadd C dX1_prepareWorks_62 ?_
        refine r_goto C 67 rfl dX1_prepareWorks_63 ?_
        obtain ⟨g5, hf⟩ := of_g hf
        exact V_lw (w_X1_prepareWorks_67 C hCF (f_X1_prepareWorks_29 n) ih v1 (μ 21 v1.toNat) ((μ (μ 21 v1.toNat).toNat 1) + 1) v1 μ hv1 g5 hv1 hf) (And.intro rfl (And.intro rfl (And.intro rfl trivial)))
set_option maxHeartbeats 4000000 in
set_option maxRecDepth 100000 in
theorem w_X1_prepareWorks_2 {p : Program} {l : Launch} {e : Env} {s : State} {m : MethodId} {args : Array Value} {below : List Frame} {meth : Method} {c : Code} {D : va_G} {cy : Nat → ClassId} {A : Nat → Prop} {ids : List Nat} {ad : Nat → Nat} {r : Int} {μ' : Mem} (C : Cx p s m args meth c D (tyl cy) A 4 cX1_prepareWorks yX1_prepareWorks.cls none) (hCF : CF ad A s) : ∀ n : Nat, ∀ (v1 : Int) (μ : Mem), inR v1 → f_X1_prepareWorks_2   n v1 μ = some (r, μ') → V p l e (rmk 10) s m args below meth c 0 0 (MQ below (aV D (tyl cy) (lay cy) ids ad A r μ') args s 0 0 A) D A (lay cy) ids ad 4 μ 2 [some (rf 7), some (nu v1), none, none] [] := by
  intro n
  induction n with
  | zero =>
    intro v1 μ hv1 hf
    cases hf
  | succ n ih =>
    intro v1 μ hv1 hf
    rw [f_X1_prepareWorks_2_e] at hf
    refine V_in (fun ho0 _ => ?_)
    refine r_iload_n C 1 rfl rfl dX1_prepareWorks_2 ?_
    refine r_bipush C dX1_prepareWorks_3 rfl ?_
    refine r_icmp_ge C 27 hv1 (inR_lit rfl) rfl dX1_prepareWorks_5 (fun c1 => ?_) (fun c1 => ?_)
    · replace hf := if_t hf c1
      refine r_iconst C dX1_prepareWorks_27 ?_
      refine r_istore_n C 1 (lw := [some (rf 7), some (nu 0), none, none]) rfl rfl (by decide) dX1_prepareWorks_28 ?_
      exact V_lw (w_X1_prepareWorks_29 C hCF 64 0 μ (inR_lit rfl) hf) (And.intro rfl (And.intro rfl trivial))
    · replace hf := if_f hf c1
      refine r_aload_n C 0 rfl rfl dX1_prepareWorks_8 ?_
      refine r_getf C 7 (by decide) rfl (fx_m rfl) (ly_7 cy _ _) rfl in_X1 13 (by decide) tw_212 (v := rf 30) rfl dX1_prepareWorks_9 ?_
      refine r_iload_n C 1 rfl rfl dX1_prepareWorks_12 ?_
      refine r_aload_n C 0 rfl rfl dX1_prepareWorks_13 ?_
      refine r_getf C 7 (by decide) rfl (fx_m rfl) (ly_7 cy _ _) rfl in_X1 0 (by decide) tw_199 (v := rf 6) rfl dX1_prepareWorks_14 ?_
      refine r_getfN C 6 (by decide) rfl (fx_m rfl) (ly_6 cy _ _) rfl in_X3 9 (by decide) tw_164 (v := nu (μ 6 9)) rfl dX1_prepareWorks_17 ?_
      obtain ⟨g2, hf⟩ := of_g hf
      refine r_iast C 30 (by decide) rfl (fx_m rfl) (by decide) 0 (cA := cy 0) (n := 6) (fun f => ly_30 cy _ f) rfl g2 (by decide) (ho0 _ _) dX1_prepareWorks_20 (fun μ3 hμ5 => ?_)
      replace hf := of_lm hf hμ5
      refine V_in (fun ho4 _ => ?_)
      refine r_iinc C rfl (lw := [some (rf 7), some (nu (v1 + 1)), none, none]) rfl (by decide) dX1_prepareWorks_21 ?_
      refine r_goto C 2 rfl dX1_prepareWorks_24 ?_
      obtain ⟨g6, hf⟩ := of_g hf
      exact V_lw (ih (v1 + 1) μ3 g6 hf) (And.intro rfl (And.intro rfl trivial))
set_option maxHeartbeats 4000000 in
set_option maxRecDepth 100000 in
theorem c_X1_prepareWorks {l : Launch} {D : va_G} {cy : Nat → ClassId} {ids : List Nat} {ad : Nat → Nat} {μ μ' : Mem} { r : Int}  (hf : f_X1_prepareWorks μ  = some (r, μ')) : KK aV l D (tyl cy) (lay cy) ids ad 10 yX1_prepareWorks cX1_prepareWorks 4 none [rf 7] μ r μ' := by
  refine KK.of (by decide +kernel) (Nat.le_of_ble_eq_true rfl) ?_
  intro p e s m args below meth c A C hCF
  unfold f_X1_prepareWorks at hf
  refine V_in (fun ho0 _ => ?_)
  refine r_iconst C dX1_prepareWorks_0 ?_
  refine r_istore_n C 1 (lw := [some (rf 7), some (nu 0), none, none]) rfl rfl (by decide) dX1_prepareWorks_1 ?_
  exact V_lw (w_X1_prepareWorks_2 C hCF 64 0 μ (inR_lit rfl) hf) (And.intro rfl (And.intro rfl trivial))
set_option maxHeartbeats 4000000 in
set_option maxRecDepth 100000 in
theorem w_X1_layDay_10 {p : Program} {l : Launch} {e : Env} {s : State} {m : MethodId} {args : Array Value} {below : List Frame} {meth : Method} {c : Code} {D : va_G} {cy : Nat → ClassId} {A : Nat → Prop} {ids : List Nat} {ad : Nat → Nat} {r : Int} {μ' : Mem} (C : Cx p s m args meth c D (tyl cy) A 5 cX1_layDay yX1_layDay.cls (some .int)) (hCF : CF ad A s) : ∀ n : Nat, ∀ (v1 v3 v4 : Int) (μ : Mem), inR v1 → inR v3 → inR v4 → f_X1_layDay_10   n v1 v3 v4 μ = some (r, μ') → V p l e (rmk 8) s m args below meth c 0 0 (MQ below (aI D (tyl cy) (lay cy) ids ad A r μ') args s 0 0 A) D A (lay cy) ids ad 5 μ 10 [some (rf 7), some (nu v1), none, some (nu v3), some (nu v4)] [] := by
  intro n
  induction n with
  | zero =>
    intro v1 v3 v4 μ hv1 hv3 hv4 hf
    cases hf
  | succ n ih =>
    intro v1 v3 v4 μ hv1 hv3 hv4 hf
    rw [f_X1_layDay_10_e] at hf
    refine V_in (fun ho0 _ => ?_)
    refine r_iload C rfl dX1_layDay_10 ?_
    refine r_aload_n C 0 rfl rfl dX1_layDay_12 ?_
    refine r_getf C 7 (by decide) rfl (fx_m rfl) (ly_7 cy _ _) rfl in_X1 5 (by decide) tw_204 (v := nu (μ 7 5)) rfl dX1_layDay_13 ?_
    refine r_icmp_ge C 87 hv4 (ho0 _ _) rfl dX1_layDay_16 (fun c1 => ?_) (fun c1 => ?_)
    · replace hf := if_t hf c1
      refine r_iload_n C 3 rfl rfl dX1_layDay_87 ?_
      obtain ⟨rfl, rfl⟩ := of_ret hf
      exact r_iret C rfl hv3 dX1_layDay_88
    · replace hf := if_f hf c1
      refine r_iload_n C 3 rfl rfl dX1_layDay_19 ?_
      refine r_iconst C dX1_layDay_20 ?_
      refine r_icmp_eq C 87 hv3 (inR_lit rfl) rfl dX1_layDay_21 (fun c2 => ?_) (fun c2 => ?_)
      · replace hf := if_t hf c2
        refine r_iload_n C 3 rfl rfl dX1_layDay_87 ?_
        obtain ⟨rfl, rfl⟩ := of_ret hf
        exact r_iret C rfl hv3 dX1_layDay_88
      · replace hf := if_f hf c2
        refine r_aload_n C 0 rfl rfl dX1_layDay_24 ?_
        refine r_getf C 7 (by decide) rfl (fx_m rfl) (ly_7 cy _ _) rfl in_X1 8 (by decide) tw_207 (v := rf 25) rfl dX1_layDay_25 ?_
        refine r_iload_n C 1 rfl rfl dX1_layDay_28 ?_
        obtain ⟨g3, hf⟩ := of_g hf
        refine r_iald C 25 (by decide) rfl (fx_m rfl) 0 (cA := cy 0) (n := 5) (ly_25 cy _ _) rfl g3 (by decide) dX1_layDay_29 ?_
        refine r_iconst C dX1_layDay_30 ?_
        refine r_iload C rfl dX1_layDay_31 ?_
        refine r_ishl C dX1_layDay_33 ?_
        refine r_iand C dX1_layDay_34 ?_
        refine r_if_ne C 41 (zI_rng _) rfl dX1_layDay_35 (fun c4 => ?_) (fun c4 => ?_)
        · replace hf := if_f hf c4
          refine r_aload_n C 0 rfl rfl dX1_layDay_41 ?_
          refine r_getf C 7 (by decide) rfl (fx_m rfl) (ly_7 cy _ _) rfl in_X1 12 (by decide) tw_211 (v := rf 29) rfl dX1_layDay_42 ?_
          refine r_iload C rfl dX1_layDay_45 ?_
          obtain ⟨g5, hf⟩ := of_g hf
          refine r_iald C 29 (by decide) rfl (fx_m rfl) 0 (cA := cy 0) (n := 5) (ly_29 cy _ _) rfl g5 (by decide) dX1_layDay_47 ?_
          refine r_iconst C dX1_layDay_48 ?_
          refine r_icmp_eq C 65 (ho0 _ _) (inR_lit rfl) rfl dX1_layDay_49 (fun c6 => ?_) (fun c6 => ?_)
          · replace hf := if_t hf c6
            refine r_iconst C dX1_layDay_65 ?_
            obtain ⟨rfl, rfl⟩ := of_ret hf
            exact r_iret C rfl (inR_lit rfl) dX1_layDay_66
          · replace hf := if_f hf c6
            refine r_aload_n C 0 rfl rfl dX1_layDay_52 ?_
            refine r_getf C 7 (by decide) rfl (fx_m rfl) (ly_7 cy _ _) rfl in_X1 12 (by decide) tw_211 (v := rf 29) rfl dX1_layDay_53 ?_
            refine r_iload C rfl dX1_layDay_56 ?_
            refine r_iald C 29 (by decide) rfl (fx_m rfl) 0 (cA := cy 0) (n := 5) (ly_29 cy _ _) rfl g5 (by decide) dX1_layDay_58 ?_
            refine r_sipush C dX1_layDay_59 rfl ?_
            refine r_icmp_lt C 67 (ho0 _ _) (inR_lit rfl) rfl dX1_layDay_62 (fun c7 => ?_) (fun c7 => ?_)
            · replace hf := if_t hf c7
              refine r_iload_n C 3 rfl rfl dX1_layDay_67 ?_
              refine r_aload_n C 0 rfl rfl dX1_layDay_68 ?_
              refine r_getf C 7 (by decide) rfl (fx_m rfl) (ly_7 cy _ _) rfl in_X1 12 (by decide) tw_211 (v := rf 29) rfl dX1_layDay_69 ?_
              refine r_iload C rfl dX1_layDay_72 ?_
              refine r_iald C 29 (by decide) rfl (fx_m rfl) 0 (cA := cy 0) (n := 5) (ly_29 cy _ _) rfl g5 (by decide) dX1_layDay_74 ?_
              refine r_iconst C dX1_layDay_75 ?_
              refine r_iadd C dX1_layDay_76 ?_
              obtain ⟨g8, hf⟩ := of_g hf
              obtain ⟨r9, μ10, hc11, hf⟩ := of_bd hf
              refine r_callSI C hCF (As := [nu v3, nu ((μ 29 v4.toNat) + 1)]) (c_J9_max_7cf53 hv3 g8 hc11) rfl (by decide) (by decide) ⟨Nat.le_refl 0, Nat.le_refl 0⟩ tw_741 tw_397 tw_12 tw_396 2 (by decide) rfl (Nat.le_of_ble_eq_true rfl) dX1_layDay_77 (fun hr13 => ?_)
              refine V_in (fun ho12 _ => ?_)
              refine r_istore_n C 3 (lw := [some (rf 7), some (nu v1), none, some (nu r9), some (nu v4)]) rfl rfl (by decide) dX1_layDay_80 ?_
              refine r_iinc C rfl (lw := [some (rf 7), some (nu v1), none, some (nu r9), some (nu (v4 + 1))]) rfl (by decide) dX1_layDay_81 ?_
              refine r_goto C 10 rfl dX1_layDay_84 ?_
              obtain ⟨g14, hf⟩ := of_g hf
              exact V_lw (ih v1 r9 (v4 + 1) μ10 hv1 hr13 g14 hf) (And.intro rfl (And.intro rfl (And.intro rfl (And.intro rfl trivial))))
            · replace hf := if_f hf c7
              refine r_iconst C dX1_layDay_65 ?_
              obtain ⟨rfl, rfl⟩ := of_ret hf
              exact r_iret C rfl (inR_lit rfl) dX1_layDay_66
        · replace hf := if_t hf c4
          refine r_goto C 81 rfl dX1_layDay_38 ?_
          refine r_iinc C rfl (lw := [some (rf 7), some (nu v1), none, some (nu v3), some (nu (v4 + 1))]) rfl (by decide) dX1_layDay_81 ?_
          refine r_goto C 10 rfl dX1_layDay_84 ?_
          obtain ⟨g15, hf⟩ := of_g hf
          exact V_lw (ih v1 v3 (v4 + 1) μ hv1 hv3 g15 hf) (And.intro rfl (And.intro rfl (And.intro rfl (And.intro rfl trivial))))
set_option maxHeartbeats 4000000 in
set_option maxRecDepth 100000 in
theorem c_X1_layDay {l : Launch} {D : va_G} {cy : Nat → ClassId} {ids : List Nat} {ad : Nat → Nat} {μ μ' : Mem} {a1 a2 r : Int} (h1 : inR a1) (h2 : inR a2) (hf : f_X1_layDay μ a1 a2 = some (r, μ')) : KK aI l D (tyl cy) (lay cy) ids ad 8 yX1_layDay cX1_layDay 5 (some .int) [rf 7, nu a1, nu a2] μ r μ' := by
  refine KK.of (by decide +kernel) (Nat.le_of_ble_eq_true rfl) ?_
  intro p e s m args below meth c A C hCF
  unfold f_X1_layDay at hf
  refine V_in (fun ho0 _ => ?_)
  refine r_aload_n C 0 rfl rfl dX1_layDay_0 ?_
  refine r_iload_n C 1 rfl rfl dX1_layDay_1 ?_
  refine r_iload_n C 2 rfl rfl dX1_layDay_2 ?_
  obtain ⟨r1, μ2, hc3, hf⟩ := of_bd hf
  refine r_callVI C hCF (As := [nu a1, nu a2]) 7 (by decide) rfl (fx_m rfl) (ly_7 cy _ _) rfl (c_X1_readyDay h1 h2 hc3) rfl (by decide) (by decide) ⟨Nat.le_refl 0, Nat.le_refl 0⟩ tw_748 tw_751 tw_8 tw_750 ts_21 2 (by decide) rfl (Nat.le_of_ble_eq_true rfl) dX1_layDay_3 (fun hr5 => ?_)
  refine V_in (fun ho4 _ => ?_)
  refine r_istore_n C 3 (lw := [some (rf 7), some (nu a1), some (nu a2), some (nu r1), none]) rfl rfl (by decide) dX1_layDay_6 ?_
  refine r_iconst C dX1_layDay_7 ?_
  refine r_istore C (lw := [some (rf 7), some (nu a1), some (nu a2), some (nu r1), some (nu 0)]) rfl (by decide) dX1_layDay_8 ?_
  exact V_lw (w_X1_layDay_10 C hCF 64 a1 r1 0 μ2 h1 hr5 (inR_lit rfl) hf) (And.intro rfl (And.intro rfl (And.intro rfl (And.intro rfl trivial))))
set_option maxHeartbeats 4000000 in
set_option maxRecDepth 100000 in
theorem c_X1_leastTaker {l : Launch} {D : va_G} {cy : Nat → ClassId} {ids : List Nat} {ad : Nat → Nat} {μ μ' : Mem} {a1 a2 r : Int} (h1 : inR a1) (h2 : inR a2) (hf : f_X1_leastTaker μ a1 a2 = some (r, μ')) : KK aI l D (tyl cy) (lay cy) ids ad 2 yX1_leastTaker cX1_leastTaker 4 (some .int) [rf 7, nu a1, nu a2] μ r μ' := by
  refine KK.of (by decide +kernel) (Nat.le_of_ble_eq_true rfl) ?_
  intro p e s m args below meth c A C hCF
  unfold f_X1_leastTaker at hf
  refine V_in (fun ho0 _ => ?_)
  refine r_iload_n C 2 rfl rfl dX1_leastTaker_0 ?_
  refine r_iconst C dX1_leastTaker_1 ?_
  refine r_icmp_lt C 13 h2 (inR_lit rfl) rfl dX1_leastTaker_2 (fun c1 => ?_) (fun c1 => ?_)
  · replace hf := if_t hf c1
    refine r_iconst C dX1_leastTaker_13 ?_
    obtain ⟨rfl, rfl⟩ := of_ret hf
    exact r_iret C rfl (inR_lit rfl) dX1_leastTaker_14
  · replace hf := if_f hf c1
    refine r_iload_n C 2 rfl rfl dX1_leastTaker_5 ?_
    refine r_aload_n C 0 rfl rfl dX1_leastTaker_6 ?_
    refine r_getf C 7 (by decide) rfl (fx_m rfl) (ly_7 cy _ _) rfl in_X1 5 (by decide) tw_204 (v := nu (μ 7 5)) rfl dX1_leastTaker_7 ?_
    refine r_icmp_le C 15 h2 (ho0 _ _) rfl dX1_leastTaker_10 (fun c2 => ?_) (fun c2 => ?_)
    · replace hf := if_t hf c2
      refine r_aload_n C 0 rfl rfl dX1_leastTaker_15 ?_
      refine r_getf C 7 (by decide) rfl (fx_m rfl) (ly_7 cy _ _) rfl in_X1 9 (by decide) tw_208 (v := rf 26) rfl dX1_leastTaker_16 ?_
      refine r_iload_n C 2 rfl rfl dX1_leastTaker_19 ?_
      refine r_iconst C dX1_leastTaker_20 ?_
      refine r_isub C dX1_leastTaker_21 ?_
      obtain ⟨g3, hf⟩ := of_g hf
      refine r_iald C 26 (by decide) rfl (fx_m rfl) 0 (cA := cy 0) (n := 5) (ly_26 cy _ _) rfl g3 (by decide) dX1_leastTaker_22 ?_
      refine r_istore_n C 3 (lw := [some (rf 7), some (nu a1), some (nu a2), some (nu (μ 26 (a2 - 1).toNat))]) rfl rfl (by decide) dX1_leastTaker_23 ?_
      refine r_aload_n C 0 rfl rfl dX1_leastTaker_24 ?_
      refine r_getf C 7 (by decide) rfl (fx_m rfl) (ly_7 cy _ _) rfl in_X1 3 (by decide) tw_202 (v := rf 21) rfl dX1_leastTaker_25 ?_
      refine r_iload_n C 3 rfl rfl dX1_leastTaker_28 ?_
      obtain ⟨g4, hf⟩ := of_g hf
      refine r_aald C 21 (by decide) rfl (fx_m rfl) 4 (cA := cy 4) (n := 5) (ly_21 cy _ _) rfl rfl g4 (by decide) dX1_leastTaker_29 ?_
      obtain ⟨g5, hf⟩ := of_g hf
      refine r_getfN C _ (st_0 g5) rfl (st_m g5) (ly_st cy _ g5 _) rfl in_X4 1 (by decide) tw_552 (v := nu (μ (μ 21 (μ 26 (a2 - 1).toNat).toNat).toNat 1)) rfl dX1_leastTaker_30 ?_
      refine r_aload_n C 0 rfl rfl dX1_leastTaker_33 ?_
      refine r_getf C 7 (by decide) rfl (fx_m rfl) (ly_7 cy _ _) rfl in_X1 3 (by decide) tw_202 (v := rf 21) rfl dX1_leastTaker_34 ?_
      refine r_iload_n C 1 rfl rfl dX1_leastTaker_37 ?_
      obtain ⟨g6, hf⟩ := of_g hf
      refine r_aald C 21 (by decide) rfl (fx_m rfl) 4 (cA := cy 4) (n := 5) (ly_21 cy _ _) rfl rfl g6 (by decide) dX1_leastTaker_38 ?_
      obtain ⟨g7, hf⟩ := of_g hf
      refine r_getfN C _ (st_0 g7) rfl (st_m g7) (ly_st cy _ g7 _) rfl in_X4 1 (by decide) tw_552 (v := nu (μ (μ 21 a1.toNat).toNat 1)) rfl dX1_leastTaker_39 ?_
      refine r_icmp_ne C 54 (ho0 _ _) (ho0 _ _) rfl dX1_leastTaker_42 (fun c8 => ?_) (fun c8 => ?_)
      · replace hf := if_f hf c8
        refine r_iconst C dX1_leastTaker_54 ?_
        obtain ⟨rfl, rfl⟩ := of_ret hf
        exact r_iret C rfl (inR_lit rfl) dX1_leastTaker_55
      · replace hf := if_t hf c8
        refine r_aload_n C 0 rfl rfl dX1_leastTaker_45 ?_
        refine r_getf C 7 (by decide) rfl (fx_m rfl) (ly_7 cy _ _) rfl in_X1 10 (by decide) tw_209 (v := rf 27) rfl dX1_leastTaker_46 ?_
        refine r_iload_n C 3 rfl rfl dX1_leastTaker_49 ?_
        refine r_iald C 27 (by decide) rfl (fx_m rfl) 0 (cA := cy 0) (n := 5) (ly_27 cy _ _) rfl g4 (by decide) dX1_leastTaker_50 ?_
        refine r_goto C 55 rfl dX1_leastTaker_51 ?_
        obtain ⟨rfl, rfl⟩ := of_ret hf
        exact r_iret C rfl (ho0 _ _) dX1_leastTaker_55
    · replace hf := if_f hf c2
      refine r_iconst C dX1_leastTaker_13 ?_
      obtain ⟨rfl, rfl⟩ := of_ret hf
      exact r_iret C rfl (inR_lit rfl) dX1_leastTaker_14
set_option maxHeartbeats 4000000 in
set_option maxRecDepth 100000 in
theorem c_X1_mayComeNext {l : Launch} {D : va_G} {cy : Nat → ClassId} {ids : List Nat} {ad : Nat → Nat} {μ μ' : Mem} {a1 a2 r : Int} (h1 : inR a1) (h2 : inR a2) (hf : f_X1_mayComeNext μ a1 a2 = some (r, μ')) : KK aI l D (tyl cy) (lay cy) ids ad 2 yX1_mayComeNext cX1_mayComeNext 3 (some .boolean) [rf 7, nu a1, nu a2] μ r μ' := by
  refine KK.of (by decide +kernel) (Nat.le_of_ble_eq_true rfl) ?_
  intro p e s m args below meth c A C hCF
  unfold f_X1_mayComeNext at hf
  refine V_in (fun ho0 _ => ?_)
  refine r_iload_n C 2 rfl rfl dX1_mayComeNext_0 ?_
  refine r_iconst C dX1_mayComeNext_1 ?_
  refine r_iload_n C 1 rfl rfl dX1_mayComeNext_2 ?_
  refine r_ishl C dX1_mayComeNext_3 ?_
  refine r_iand C dX1_mayComeNext_4 ?_
  refine r_if_ne C 25 (zI_rng _) rfl dX1_mayComeNext_5 (fun c1 => ?_) (fun c1 => ?_)
  · replace hf := if_f hf c1
    refine r_iconst C dX1_mayComeNext_25 ?_
    obtain ⟨rfl, rfl⟩ := of_ret hf
    exact r_zret C rfl (by decide) dX1_mayComeNext_26
  · replace hf := if_t hf c1
    refine r_aload_n C 0 rfl rfl dX1_mayComeNext_8 ?_
    refine r_getf C 7 (by decide) rfl (fx_m rfl) (ly_7 cy _ _) rfl in_X1 8 (by decide) tw_207 (v := rf 25) rfl dX1_mayComeNext_9 ?_
    refine r_iload_n C 1 rfl rfl dX1_mayComeNext_12 ?_
    obtain ⟨g2, hf⟩ := of_g hf
    refine r_iald C 25 (by decide) rfl (fx_m rfl) 0 (cA := cy 0) (n := 5) (ly_25 cy _ _) rfl g2 (by decide) dX1_mayComeNext_13 ?_
    refine r_iload_n C 2 rfl rfl dX1_mayComeNext_14 ?_
    refine r_iconst C dX1_mayComeNext_15 ?_
    refine r_ixor C dX1_mayComeNext_16 ?_
    refine r_iand C dX1_mayComeNext_17 ?_
    refine r_if_ne C 25 (zI_rng _) rfl dX1_mayComeNext_18 (fun c3 => ?_) (fun c3 => ?_)
    · replace hf := if_f hf c3
      refine r_iconst C dX1_mayComeNext_25 ?_
      obtain ⟨rfl, rfl⟩ := of_ret hf
      exact r_zret C rfl (by decide) dX1_mayComeNext_26
    · replace hf := if_t hf c3
      refine r_iconst C dX1_mayComeNext_21 ?_
      refine r_goto C 26 rfl dX1_mayComeNext_22 ?_
      obtain ⟨rfl, rfl⟩ := of_ret hf
      exact r_zret C rfl (by decide) dX1_mayComeNext_26
set_option maxHeartbeats 4000000 in
set_option maxRecDepth 100000 in
theorem c_X1_place {l : Launch} {D : va_G} {cy : Nat → ClassId} {ids : List Nat} {ad : Nat → Nat} {μ μ' : Mem} {a1 a2 a3 r : Int} (h1 : inR a1) (h2 : inR a2) (h3 : inR a3) (hf : f_X1_place μ a1 a2 a3 = some (r, μ')) : KK aV l D (tyl cy) (lay cy) ids ad 2 yX1_place cX1_place 4 none [rf 7, nu a1, nu a2, nu a3] μ r μ' := by
  refine KK.of (by decide +kernel) (Nat.le_of_ble_eq_true rfl) ?_
  intro p e s m args below meth c A C hCF
  unfold f_X1_place at hf
  refine V_in (fun ho0 _ => ?_)
  refine r_aload_n C 0 rfl rfl dX1_place_0 ?_
  refine r_getf C 7 (by decide) rfl (fx_m rfl) (ly_7 cy _ _) rfl in_X1 10 (by decide) tw_209 (v := rf 27) rfl dX1_place_1 ?_
  refine r_iload_n C 1 rfl rfl dX1_place_4 ?_
  refine r_iload_n C 2 rfl rfl dX1_place_5 ?_
  obtain ⟨g1, hf⟩ := of_g hf
  refine r_iast C 27 (by decide) rfl (fx_m rfl) (by decide) 0 (cA := cy 0) (n := 5) (fun f => ly_27 cy _ f) rfl g1 (by decide) h2 dX1_place_6 (fun μ2 hμ4 => ?_)
  replace hf := of_lm hf hμ4
  refine V_in (fun ho3 _ => ?_)
  refine r_aload_n C 0 rfl rfl dX1_place_7 ?_
  refine r_getf C 7 (by decide) rfl (fx_m rfl) (ly_7 cy _ _) rfl in_X1 11 (by decide) tw_210 (v := rf 28) rfl dX1_place_8 ?_
  refine r_iload_n C 1 rfl rfl dX1_place_11 ?_
  refine r_aload_n C 0 rfl rfl dX1_place_12 ?_
  refine r_getf C 7 (by decide) rfl (fx_m rfl) (ly_7 cy _ _) rfl in_X1 13 (by decide) tw_212 (v := rf 30) rfl dX1_place_13 ?_
  refine r_iload_n C 2 rfl rfl dX1_place_16 ?_
  obtain ⟨g5, hf⟩ := of_g hf
  refine r_iald C 30 (by decide) rfl (fx_m rfl) 0 (cA := cy 0) (n := 6) (ly_30 cy _ _) rfl g5 (by decide) dX1_place_17 ?_
  refine r_iast C 28 (by decide) rfl (fx_m rfl) (by decide) 0 (cA := cy 0) (n := 5) (fun f => ly_28 cy _ f) rfl g1 (by decide) (ho3 _ _) dX1_place_18 (fun μ6 hμ8 => ?_)
  replace hf := of_lm hf hμ8
  refine V_in (fun ho7 _ => ?_)
  refine r_aload_n C 0 rfl rfl dX1_place_19 ?_
  refine r_getf C 7 (by decide) rfl (fx_m rfl) (ly_7 cy _ _) rfl in_X1 12 (by decide) tw_211 (v := rf 29) rfl dX1_place_20 ?_
  refine r_iload_n C 1 rfl rfl dX1_place_23 ?_
  refine r_iload_n C 3 rfl rfl dX1_place_24 ?_
  refine r_iast C 29 (by decide) rfl (fx_m rfl) (by decide) 0 (cA := cy 0) (n := 5) (fun f => ly_29 cy _ f) rfl g1 (by decide) h3 dX1_place_25 (fun μ9 hμ11 => ?_)
  replace hf := of_lm hf hμ11
  refine V_in (fun ho10 _ => ?_)
  refine r_aload_n C 0 rfl rfl dX1_place_26 ?_
  refine r_getf C 7 (by decide) rfl (fx_m rfl) (ly_7 cy _ _) rfl in_X1 13 (by decide) tw_212 (v := rf 30) rfl dX1_place_27 ?_
  refine r_iload_n C 2 rfl rfl dX1_place_30 ?_
  refine r_iload_n C 3 rfl rfl dX1_place_31 ?_
  refine r_iconst C dX1_place_32 ?_
  refine r_iadd C dX1_place_33 ?_
  obtain ⟨g12, hf⟩ := of_g hf
  refine r_iast C 30 (by decide) rfl (fx_m rfl) (by decide) 0 (cA := cy 0) (n := 6) (fun f => ly_30 cy _ f) rfl g5 (by decide) g12 dX1_place_34 (fun μ13 hμ15 => ?_)
  replace hf := of_lm hf hμ15
  refine V_in (fun ho14 _ => ?_)
  obtain ⟨-, rfl⟩ := of_ret hf
  exact r_vret C rfl dX1_place_35
set_option maxHeartbeats 4000000 in
set_option maxRecDepth 100000 in
theorem c_X1_takeBack {l : Launch} {D : va_G} {cy : Nat → ClassId} {ids : List Nat} {ad : Nat → Nat} {μ μ' : Mem} {a1 a2 r : Int} (h1 : inR a1) (h2 : inR a2) (hf : f_X1_takeBack μ a1 a2 = some (r, μ')) : KK aV l D (tyl cy) (lay cy) ids ad 2 yX1_takeBack cX1_takeBack 3 none [rf 7, nu a1, nu a2] μ r μ' := by
  refine KK.of (by decide +kernel) (Nat.le_of_ble_eq_true rfl) ?_
  intro p e s m args below meth c A C hCF
  unfold f_X1_takeBack at hf
  refine V_in (fun ho0 _ => ?_)
  refine r_aload_n C 0 rfl rfl dX1_takeBack_0 ?_
  refine r_getf C 7 (by decide) rfl (fx_m rfl) (ly_7 cy _ _) rfl in_X1 13 (by decide) tw_212 (v := rf 30) rfl dX1_takeBack_1 ?_
  refine r_iload_n C 2 rfl rfl dX1_takeBack_4 ?_
  refine r_aload_n C 0 rfl rfl dX1_takeBack_5 ?_
  refine r_getf C 7 (by decide) rfl (fx_m rfl) (ly_7 cy _ _) rfl in_X1 11 (by decide) tw_210 (v := rf 28) rfl dX1_takeBack_6 ?_
  refine r_iload_n C 1 rfl rfl dX1_takeBack_9 ?_
  obtain ⟨g1, hf⟩ := of_g hf
  refine r_iald C 28 (by decide) rfl (fx_m rfl) 0 (cA := cy 0) (n := 5) (ly_28 cy _ _) rfl g1 (by decide) dX1_takeBack_10 ?_
  obtain ⟨g2, hf⟩ := of_g hf
  refine r_iast C 30 (by decide) rfl (fx_m rfl) (by decide) 0 (cA := cy 0) (n := 6) (fun f => ly_30 cy _ f) rfl g2 (by decide) (ho0 _ _) dX1_takeBack_11 (fun μ3 hμ5 => ?_)
  replace hf := of_lm hf hμ5
  refine V_in (fun ho4 _ => ?_)
  refine r_aload_n C 0 rfl rfl dX1_takeBack_12 ?_
  refine r_getf C 7 (by decide) rfl (fx_m rfl) (ly_7 cy _ _) rfl in_X1 12 (by decide) tw_211 (v := rf 29) rfl dX1_takeBack_13 ?_
  refine r_iload_n C 1 rfl rfl dX1_takeBack_16 ?_
  refine r_iconst C dX1_takeBack_17 ?_
  refine r_iast C 29 (by decide) rfl (fx_m rfl) (by decide) 0 (cA := cy 0) (n := 5) (fun f => ly_29 cy _ f) rfl g1 (by decide) (inR_lit rfl) dX1_takeBack_18 (fun μ6 hμ8 => ?_)
  replace hf := of_lm hf hμ8
  refine V_in (fun ho7 _ => ?_)
  obtain ⟨-, rfl⟩ := of_ret hf
  exact r_vret C rfl dX1_takeBack_19
set_option maxHeartbeats 4000000 in
set_option maxRecDepth 100000 in
theorem w_X1_seekLeast_48 {p : Program} {l : Launch} {e : Env} {s : State} {m : MethodId} {args : Array Value} {below : List Frame} {meth : Method} {c : Code} {D : va_G} {cy : Nat → ClassId} {A : Nat → Prop} {ids : List Nat} {ad : Nat → Nat} {r : Int} {μ' : Mem} (C : Cx p s m args meth c D (tyl cy) A 7 cX1_seekLeast yX1_seekLeast.cls none) (hCF : CF ad A s) {d : Nat} (fr : Mem → Int → Int → Int → Option (Int × Mem)) (hfr : ∀ {μ μ' : Mem} {a1 a2 a3 r : Int}, inR a1 → inR a2 → inR a3 → fr μ a1 a2 a3 = some (r, μ') → KK aV l D (tyl cy) (lay cy) ids ad (10 + d) yX1_seekLeast cX1_seekLeast 7 none [rf 7, nu a1, nu a2, nu a3] μ r μ') (k17 : Int → Int → Int → Int → Mem → Option (Int × Mem)) (hk17 : ∀ (v1 v2 v3 v4 : Int) (μ : Mem), inR v1 → inR v2 → inR v3 → inR v4 → k17 v1 v2 v3 v4 μ = some (r, μ') → V p l e (rmk (10 + (d + 1))) s m args below meth c 0 0 (MQ below (aV D (tyl cy) (lay cy) ids ad A r μ') args s 0 0 A) D A (lay cy) ids ad 7 μ 17 [some (rf 7), some (nu v1), some (nu v2), some (nu v3), some (nu v4), none, none] []) : ∀ n : Nat, ∀ (v1 v2 v3 v4 v5 : Int) (μ : Mem), inR v1 → inR v2 → inR v3 → inR v4 → inR v5 → f_X1_seekLeast_48 fr k17 n v1 v2 v3 v4 v5 μ = some (r, μ') → V p l e (rmk (10 + (d + 1))) s m args below meth c 0 0 (MQ below (aV D (tyl cy) (lay cy) ids ad A r μ') args s 0 0 A) D A (lay cy) ids ad 7 μ 48 [some (rf 7), some (nu v1), some (nu v2), some (nu v3), some (nu v4), some (nu v5), none] [] := by
  intro n
  induction n with
  | zero =>
    intro v1 v2 v3 v4 v5 μ hv1 hv2 hv3 hv4 hv5 hf
    cases hf
  | succ n ih =>
    intro v1 v2 v3 v4 v5 μ hv1 hv2 hv3 hv4 hv5 hf
    rw [f_X1_seekLeast_48_e] at hf
    refine V_in (fun ho0 _ => ?_)
    refine r_iload C rfl dX1_seekLeast_48 ?_
    refine r_bipush C dX1_seekLeast_50 rfl ?_
    refine r_icmp_ge C 145 hv5 (inR_lit rfl) rfl dX1_seekLeast_52 (fun c1 => ?_) (fun c1 => ?_)
    · replace hf := if_t hf c1
      refine r_iinc C rfl (lw := [some (rf 7), some (nu v1), some (nu v2), some (nu v3), some (nu (v4 + 1)), some (nu v5), none]) rfl (by decide) dX1_seekLeast_145 ?_
      refine r_goto C 17 rfl dX1_seekLeast_148 ?_
      obtain ⟨g2, hf⟩ := of_g hf
      exact V_lw (hk17 v1 v2 v3 (v4 + 1) μ hv1 hv2 hv3 g2 hf) (And.intro rfl (And.intro rfl (And.intro rfl (And.intro rfl (And.intro rfl trivial)))))
    · replace hf := if_f hf c1
      refine r_aload_n C 0 rfl rfl dX1_seekLeast_55 ?_
      refine r_getf C 7 (by decide) rfl (fx_m rfl) (ly_7 cy _ _) rfl in_X1 14 (by decide) tw_213 (v := nu (μ 7 14)) rfl dX1_seekLeast_56 ?_
      refine r_aload_n C 0 rfl rfl dX1_seekLeast_59 ?_
      refine r_getf C 7 (by decide) rfl (fx_m rfl) (ly_7 cy _ _) rfl in_X1 15 (by decide) tw_214 (v := nu (μ 7 15)) rfl dX1_seekLeast_60 ?_
      refine r_icmp_le C 145 (ho0 _ _) (ho0 _ _) rfl dX1_seekLeast_63 (fun c3 => ?_) (fun c3 => ?_)
      · replace hf := if_t hf c3
        refine r_iinc C rfl (lw := [some (rf 7), some (nu v1), some (nu v2), some (nu v3), some (nu (v4 + 1)), some (nu v5), none]) rfl (by decide) dX1_seekLeast_145 ?_
        refine r_goto C 17 rfl dX1_seekLeast_148 ?_
        obtain ⟨g4, hf⟩ := of_g hf
        exact V_lw (hk17 v1 v2 v3 (v4 + 1) μ hv1 hv2 hv3 g4 hf) (And.intro rfl (And.intro rfl (And.intro rfl (And.intro rfl (And.intro rfl trivial)))))
      · replace hf := if_f hf c3
        refine r_aload_n C 0 rfl rfl dX1_seekLeast_66 ?_
        refine r_iload C rfl dX1_seekLeast_67 ?_
        refine r_iload C rfl dX1_seekLeast_69 ?_
        obtain ⟨r5, μ6, hc7, hf⟩ := of_bd hf
        refine r_callVI C hCF (As := [nu v4, nu v5]) 7 (by decide) rfl (fx_m rfl) (ly_7 cy _ _) rfl (c_X1_layDay hv4 hv5 hc7) rfl (by omega) (by decide) ⟨Nat.le_refl 0, Nat.le_refl 0⟩ tw_769 tw_772 tw_8 tw_771 ts_25 2 (by decide) rfl (Nat.le_of_ble_eq_true rfl) dX1_seekLeast_71 (fun hr9 => ?_)
        refine V_in (fun ho8 _ => ?_)
        refine r_istore C (lw := [some (rf 7), some (nu v1), some (nu v2), some (nu v3), some (nu v4), some (nu v5), some (nu r5)]) rfl (by decide) dX1_seekLeast_74 ?_
        refine r_iload C rfl dX1_seekLeast_76 ?_
        refine r_iconst C dX1_seekLeast_78 ?_
        refine r_icmp_eq C 139 hr9 (inR_lit rfl) rfl dX1_seekLeast_79 (fun c10 => ?_) (fun c10 => ?_)
        · replace hf := if_t hf c10
          refine r_iinc C rfl (lw := [some (rf 7), some (nu v1), some (nu v2), some (nu v3), some (nu v4), some (nu (v5 + 1)), some (nu r5)]) rfl (by decide) dX1_seekLeast_139 ?_
          refine r_goto C 48 rfl dX1_seekLeast_142 ?_
          obtain ⟨g11, hf⟩ := of_g hf
          exact V_lw (ih v1 v2 v3 v4 (v5 + 1) μ6 hv1 hv2 hv3 hv4 g11 hf) (And.intro rfl (And.intro rfl (And.intro rfl (And.intro rfl (And.intro rfl (And.intro rfl trivial))))))
        · replace hf := if_f hf c10
          refine r_iload C rfl dX1_seekLeast_82 ?_
          refine r_aload_n C 0 rfl rfl dX1_seekLeast_84 ?_
          refine r_getf C 7 (by decide) rfl (fx_m rfl) (ly_7 cy _ _) rfl in_X1 14 (by decide) tw_213 (v := nu (μ6 7 14)) rfl dX1_seekLeast_85 ?_
          refine r_icmp_lt C 94 hr9 (ho8 _ _) rfl dX1_seekLeast_88 (fun c12 => ?_) (fun c12 => ?_)
          · replace hf := if_t hf c12
            refine r_aload_n C 0 rfl rfl dX1_seekLeast_94 ?_
            refine r_getf C 7 (by decide) rfl (fx_m rfl) (ly_7 cy _ _) rfl in_X1 9 (by decide) tw_208 (v := rf 26) rfl dX1_seekLeast_95 ?_
            refine r_iload_n C 1 rfl rfl dX1_seekLeast_98 ?_
            refine r_iload C rfl dX1_seekLeast_99 ?_
            obtain ⟨g13, hf⟩ := of_g hf
            refine r_iast C 26 (by decide) rfl (fx_m rfl) (by decide) 0 (cA := cy 0) (n := 5) (fun f => ly_26 cy _ f) rfl g13 (by decide) hv4 dX1_seekLeast_101 (fun μ14 hμ16 => ?_)
            replace hf := of_lm hf hμ16
            refine V_in (fun ho15 _ => ?_)
            refine r_aload_n C 0 rfl rfl dX1_seekLeast_102 ?_
            refine r_iload C rfl dX1_seekLeast_103 ?_
            refine r_iload C rfl dX1_seekLeast_105 ?_
            refine r_iload C rfl dX1_seekLeast_107 ?_
            obtain ⟨r17, μ18, hc19, hf⟩ := of_bd hf
            refine r_callVV C hCF (As := [nu v4, nu v5, nu r5]) 7 (by decide) rfl (fx_m rfl) (ly_7 cy _ _) rfl (c_X1_place hv4 hv5 hr9 hc19) rfl (by omega) (by decide) ⟨Nat.le_refl 0, Nat.le_refl 0⟩ tw_773 tw_776 tw_8 tw_775 ts_26 3 (by decide) rfl (Nat.le_of_ble_eq_true rfl) dX1_seekLeast_109 ?_
            refine V_in (fun ho20 _ => ?_)
            refine r_aload_n C 0 rfl rfl dX1_seekLeast_112 ?_
            refine r_iload_n C 1 rfl rfl dX1_seekLeast_113 ?_
            refine r_iconst C dX1_seekLeast_114 ?_
            refine r_iadd C dX1_seekLeast_115 ?_
            refine r_iload_n C 2 rfl rfl dX1_seekLeast_116 ?_
            refine r_iconst C dX1_seekLeast_117 ?_
            refine r_iload C rfl dX1_seekLeast_118 ?_
            refine r_ishl C dX1_seekLeast_120 ?_
            refine r_ior C dX1_seekLeast_121 ?_
            refine r_iload_n C 3 rfl rfl dX1_seekLeast_122 ?_
            refine r_iload C rfl dX1_seekLeast_123 ?_
            obtain ⟨r22, μ23, hc24, hf⟩ := of_bd hf
            refine r_callSI C hCF (As := [nu v3, nu r5]) (c_J9_max_7cf53 hv3 hr9 hc24) rfl (by omega) (by decide) ⟨Nat.le_refl 0, Nat.le_refl 0⟩ tw_741 tw_397 tw_12 tw_396 2 (by decide) rfl (Nat.le_of_ble_eq_true rfl) dX1_seekLeast_125 (fun hr26 => ?_)
            refine V_in (fun ho25 _ => ?_)
            obtain ⟨g27, hf⟩ := of_g hf
            obtain ⟨r28, μ29, hc30, hf⟩ := of_bd hf
            refine r_callVV C hCF (As := [nu (v1 + 1), nu (zor v2 (zshl 1 v4)), nu r22]) 7 (by decide) rfl (fx_m rfl) (ly_7 cy _ _) rfl (hfr g27 (zI_rng _) hr26 hc30) rfl (by omega) (by decide) ⟨Nat.le_refl 0, Nat.le_refl 0⟩ tw_757 tw_760 tw_8 tw_759 ts_22 3 (by decide) rfl (Nat.le_of_ble_eq_true rfl) dX1_seekLeast_128 ?_
            refine V_in (fun ho31 _ => ?_)
            refine r_aload_n C 0 rfl rfl dX1_seekLeast_131 ?_
            refine r_iload C rfl dX1_seekLeast_132 ?_
            refine r_iload C rfl dX1_seekLeast_134 ?_
            obtain ⟨r33, μ34, hc35, hf⟩ := of_bd hf
            refine r_callVV C hCF (As := [nu v4, nu v5]) 7 (by decide) rfl (fx_m rfl) (ly_7 cy _ _) rfl (c_X1_takeBack hv4 hv5 hc35) rfl (by omega) (by decide) ⟨Nat.le_refl 0, Nat.le_refl 0⟩ tw_777 tw_780 tw_8 tw_779 ts_27 2 (by decide) rfl (Nat.le_of_ble_eq_true rfl) dX1_seekLeast_136 ?_
            refine V_in (fun ho36 _ => ?_)
            refine r_iinc C rfl (lw := [some (rf 7), some (nu v1), some (nu v2), some (nu v3), some (nu v4), some (nu (v5 + 1)), some (nu r5)]) rfl (by decide) dX1_seekLeast_139 ?_
            refine r_goto C 48 rfl dX1_seekLeast_142 ?_
            obtain ⟨g38, hf⟩ := of_g hf
            exact V_lw (ih v1 v2 v3 v4 (v5 + 1) μ34 hv1 hv2 hv3 hv4 g38 hf) (And.intro rfl (And.intro rfl (And.intro rfl (And.intro rfl (And.intro rfl (And.intro rfl trivial))))))
          · replace hf := if_f hf c12
            refine r_goto C 139 rfl dX1_seekLeast_91 ?_
            refine r_iinc C rfl (lw := [some (rf 7), some (nu v1), some (nu v2), some (nu v3), some (nu v4), some (nu (v5 + 1)), some (nu r5)]) rfl (by decide) dX1_seekLeast_139 ?_
            refine r_goto C 48 rfl dX1_seekLeast_142 ?_
            obtain ⟨g39, hf⟩ := of_g hf
            exact V_lw (ih v1 v2 v3 v4 (v5 + 1) μ6 hv1 hv2 hv3 hv4 g39 hf) (And.intro rfl (And.intro rfl (And.intro rfl (And.intro rfl (And.intro rfl (And.intro rfl trivial))))))
set_option maxHeartbeats 4000000 in
set_option maxRecDepth 100000 in
theorem w_X1_seekLeast_17 {p : Program} {l : Launch} {e : Env} {s : State} {m : MethodId} {args : Array Value} {below : List Frame} {meth : Method} {c : Code} {D : va_G} {cy : Nat → ClassId} {A : Nat → Prop} {ids : List Nat} {ad : Nat → Nat} {r : Int} {μ' : Mem} (C : Cx p s m args meth c D (tyl cy) A 7 cX1_seekLeast yX1_seekLeast.cls none) (hCF : CF ad A s) {d : Nat} (fr : Mem → Int → Int → Int → Option (Int × Mem)) (hfr : ∀ {μ μ' : Mem} {a1 a2 a3 r : Int}, inR a1 → inR a2 → inR a3 → fr μ a1 a2 a3 = some (r, μ') → KK aV l D (tyl cy) (lay cy) ids ad (10 + d) yX1_seekLeast cX1_seekLeast 7 none [rf 7, nu a1, nu a2, nu a3] μ r μ') : ∀ n : Nat, ∀ (v1 v2 v3 v4 : Int) (μ : Mem), inR v1 → inR v2 → inR v3 → inR v4 → f_X1_seekLeast_17 fr  n v1 v2 v3 v4 μ = some (r, μ') → V p l e (rmk (10 + (d + 1))) s m args below meth c 0 0 (MQ below (aV D (tyl cy) (lay cy) ids ad A r μ') args s 0 0 A) D A (lay cy) ids ad 7 μ 17 [some (rf 7), some (nu v1), some (nu v2), some (nu v3), some (nu v4), none, none] [] := by
  intro n
  induction n with
  | zero =>
    intro v1 v2 v3 v4 μ hv1 hv2 hv3 hv4 hf
    cases hf
  | succ n ih =>
    intro v1 v2 v3 v4 μ hv1 hv2 hv3 hv4 hf
    rw [f_X1_seekLeast_17_e] at hf
    refine V_in (fun ho0 _ => ?_)
    refine r_iload C rfl dX1_seekLeast_17 ?_
    refine r_aload_n C 0 rfl rfl dX1_seekLeast_19 ?_
    refine r_getf C 7 (by decide) rfl (fx_m rfl) (ly_7 cy _ _) rfl in_X1 5 (by decide) tw_204 (v := nu (μ 7 5)) rfl dX1_seekLeast_20 ?_
    refine r_icmp_ge C 151 hv4 (ho0 _ _) rfl dX1_seekLeast_23 (fun c1 => ?_) (fun c1 => ?_)
    · replace hf := if_t hf c1
      obtain ⟨-, rfl⟩ := of_ret hf
      exact r_vret C rfl dX1_seekLeast_151
    · replace hf := if_f hf c1
      refine r_aload_n C 0 rfl rfl dX1_seekLeast_26 ?_
      refine r_iload C rfl dX1_seekLeast_27 ?_
      refine r_iload_n C 2 rfl rfl dX1_seekLeast_29 ?_
      obtain ⟨r2, μ3, hc4, hf⟩ := of_bd hf
      refine r_callVI C hCF (As := [nu v4, nu v2]) 7 (by decide) rfl (fx_m rfl) (ly_7 cy _ _) rfl (c_X1_mayComeNext hv4 hv2 hc4) rfl (by omega) (by decide) ⟨Nat.le_refl 0, Nat.le_refl 0⟩ tw_761 tw_764 tw_8 tw_763 ts_23 2 (by decide) rfl (Nat.le_of_ble_eq_true rfl) dX1_seekLeast_30 (fun hr6 => ?_)
      refine V_in (fun ho5 _ => ?_)
      refine r_if_ne C 39 hr6 rfl dX1_seekLeast_33 (fun c7 => ?_) (fun c7 => ?_)
      · replace hf := if_f hf c7
        refine r_aload_n C 0 rfl rfl dX1_seekLeast_39 ?_
        refine r_iload C rfl dX1_seekLeast_40 ?_
        refine r_iload_n C 1 rfl rfl dX1_seekLeast_42 ?_
        obtain ⟨r8, μ9, hc10, hf⟩ := of_bd hf
        refine r_callVI C hCF (As := [nu v4, nu v1]) 7 (by decide) rfl (fx_m rfl) (ly_7 cy _ _) rfl (c_X1_leastTaker hv4 hv1 hc10) rfl (by omega) (by decide) ⟨Nat.le_refl 0, Nat.le_refl 0⟩ tw_765 tw_768 tw_8 tw_767 ts_24 2 (by decide) rfl (Nat.le_of_ble_eq_true rfl) dX1_seekLeast_43 (fun hr12 => ?_)
        refine V_in (fun ho11 _ => ?_)
        refine r_istore C (lw := [some (rf 7), some (nu v1), some (nu v2), some (nu v3), some (nu v4), some (nu r8), none]) rfl (by decide) dX1_seekLeast_46 ?_
        exact V_lw (w_X1_seekLeast_48 C hCF fr hfr (f_X1_seekLeast_17 fr n) ih 64 v1 v2 v3 v4 r8 μ9 hv1 hv2 hv3 hv4 hr12 hf) (And.intro rfl (And.intro rfl (And.intro rfl (And.intro rfl (And.intro rfl (And.intro rfl trivial))))))
      · replace hf := if_t hf c7
        refine r_goto C 145 rfl dX1_seekLeast_36 ?_
        refine r_iinc C rfl (lw := [some (rf 7), some (nu v1), some (nu v2), some (nu v3), some (nu (v4 + 1)), none, none]) rfl (by decide) dX1_seekLeast_145 ?_
        refine r_goto C 17 rfl dX1_seekLeast_148 ?_
        obtain ⟨g13, hf⟩ := of_g hf
        exact V_lw (ih v1 v2 v3 (v4 + 1) μ3 hv1 hv2 hv3 g13 hf) (And.intro rfl (And.intro rfl (And.intro rfl (And.intro rfl (And.intro rfl trivial)))))
set_option maxHeartbeats 4000000 in
set_option maxRecDepth 100000 in
theorem c_X1_seekLeast {l : Launch} {D : va_G} {cy : Nat → ClassId} {ids : List Nat} {ad : Nat → Nat} : ∀ (d : Nat) {μ μ' : Mem} {a1 a2 a3 r : Int}, inR a1 → inR a2 → inR a3 → f_X1_seekLeast d μ a1 a2 a3 = some (r, μ') → KK aV l D (tyl cy) (lay cy) ids ad (10 + d) yX1_seekLeast cX1_seekLeast 7 none [rf 7, nu a1, nu a2, nu a3] μ r μ' := by
  intro d
  induction d with
  | zero =>
    intro μ μ' a1 a2 a3 r h1 h2 h3 hf
    cases hf
  | succ d hfr =>
    intro μ μ' a1 a2 a3 r h1 h2 h3 hf
    refine KK.of (by decide) (Nat.le_of_ble_eq_true rfl) ?_
    intro p e s m args below meth c A C hCF
    rw [f_X1_seekLeast_e] at hf
    refine V_in (fun ho0 _ => ?_)
    refine r_iload_n C 1 rfl rfl dX1_seekLeast_0 ?_
    refine r_aload_n C 0 rfl rfl dX1_seekLeast_1 ?_
    refine r_getf C 7 (by decide) rfl (fx_m rfl) (ly_7 cy _ _) rfl in_X1 5 (by decide) tw_204 (v := nu (μ 7 5)) rfl dX1_seekLeast_2 ?_
    refine r_icmp_lt C 14 h1 (ho0 _ _) rfl dX1_seekLeast_5 (fun c1 => ?_) (fun c1 => ?_)
    · replace hf := if_t hf c1
      refine r_iconst C dX1_seekLeast_14 ?_
      refine r_istore C (lw := [some (rf 7), some (nu a1), some (nu a2), some (nu a3), some (nu 0), none, none]) rfl (by decide) dX1_seekLeast_15 ?_
      exact V_lw (w_X1_seekLeast_17 C hCF (f_X1_seekLeast d) hfr 64 a1 a2 a3 0 μ h1 h2 h3 (inR_lit rfl) hf) (And.intro rfl (And.intro rfl (And.intro rfl (And.intro rfl (And.intro rfl trivial)))))
    · replace hf := if_f hf c1
      refine r_aload_n C 0 rfl rfl dX1_seekLeast_8 ?_
      refine r_iload_n C 3 rfl rfl dX1_seekLeast_9 ?_
      refine r_putf C 7 (by decide) rfl (fx_m rfl) (by decide) (ly_7 cy _ _) 14 (ly_7 cy _ _) rfl (Nat.le_of_ble_eq_true rfl) h3 rfl in_X1 tyX1 tyX1_ok nmX1 (by decide) tw_213 rfl rfl dX1_seekLeast_10 (fun μ2 hμ4 => ?_)
      replace hf := of_lm hf hμ4
      refine V_in (fun ho3 _ => ?_)
      obtain ⟨-, rfl⟩ := of_ret hf
      exact r_vret C rfl dX1_seekLeast_13
set_option maxHeartbeats 4000000 in
set_option maxRecDepth 100000 in
theorem w_X1_seekGangs_19 {p : Program} {l : Launch} {e : Env} {s : State} {m : MethodId} {args : Array Value} {below : List Frame} {meth : Method} {c : Code} {D : va_G} {cy : Nat → ClassId} {A : Nat → Prop} {ids : List Nat} {ad : Nat → Nat} {r : Int} {μ' : Mem} (C : Cx p s m args meth c D (tyl cy) A 5 cX1_seekGangs yX1_seekGangs.cls (some .boolean)) (hCF : CF ad A s) {d : Nat} (fr : Mem → Int → Option (Int × Mem)) (hfr : ∀ {μ μ' : Mem} {a1 r : Int}, inR a1 → fr μ a1 = some (r, μ') → KK aI l D (tyl cy) (lay cy) ids ad (10 + d) yX1_seekGangs cX1_seekGangs 5 (some .boolean) [rf 7, nu a1] μ r μ') : ∀ n : Nat, ∀ (v1 v2 v3 : Int) (μ : Mem), inR v1 → inR v2 → inR v3 → f_X1_seekGangs_19 fr  n v1 v2 v3 μ = some (r, μ') → V p l e (rmk (10 + (d + 1))) s m args below meth c 0 0 (MQ below (aI D (tyl cy) (lay cy) ids ad A r μ') args s 0 0 A) D A (lay cy) ids ad 5 μ 19 [some (rf 7), some (nu v1), some (nu v2), some (nu v3), none] [] := by
  intro n
  induction n with
  | zero =>
    intro v1 v2 v3 μ hv1 hv2 hv3 hf
    cases hf
  | succ n ih =>
    intro v1 v2 v3 μ hv1 hv2 hv3 hf
    rw [f_X1_seekGangs_19_e] at hf
    refine V_in (fun ho0 _ => ?_)
    refine r_iload_n C 3 rfl rfl dX1_seekGangs_19 ?_
    refine r_bipush C dX1_seekGangs_20 rfl ?_
    refine r_icmp_ge C 83 hv3 (inR_lit rfl) rfl dX1_seekGangs_22 (fun c1 => ?_) (fun c1 => ?_)
    · replace hf := if_t hf c1
      refine r_iconst C dX1_seekGangs_83 ?_
      obtain ⟨rfl, rfl⟩ := of_ret hf
      exact r_zret C rfl (by decide) dX1_seekGangs_84
    · replace hf := if_f hf c1
      refine r_aload_n C 0 rfl rfl dX1_seekGangs_25 ?_
      refine r_iload_n C 2 rfl rfl dX1_seekGangs_26 ?_
      refine r_iload_n C 3 rfl rfl dX1_seekGangs_27 ?_
      obtain ⟨r2, μ3, hc4, hf⟩ := of_bd hf
      refine r_callVI C hCF (As := [nu v2, nu v3]) 7 (by decide) rfl (fx_m rfl) (ly_7 cy _ _) rfl (c_X1_layDay hv2 hv3 hc4) rfl (by omega) (by decide) ⟨Nat.le_refl 0, Nat.le_refl 0⟩ tw_769 tw_772 tw_8 tw_771 ts_25 2 (by decide) rfl (Nat.le_of_ble_eq_true rfl) dX1_seekGangs_28 (fun hr6 => ?_)
      refine V_in (fun ho5 _ => ?_)
      refine r_istore C (lw := [some (rf 7), some (nu v1), some (nu v2), some (nu v3), some (nu r2)]) rfl (by decide) dX1_seekGangs_31 ?_
      refine r_iload C rfl dX1_seekGangs_33 ?_
      refine r_iconst C dX1_seekGangs_35 ?_
      refine r_icmp_eq C 77 hr6 (inR_lit rfl) rfl dX1_seekGangs_36 (fun c7 => ?_) (fun c7 => ?_)
      · replace hf := if_t hf c7
        refine r_iinc C rfl (lw := [some (rf 7), some (nu v1), some (nu v2), some (nu (v3 + 1)), some (nu r2)]) rfl (by decide) dX1_seekGangs_77 ?_
        refine r_goto C 19 rfl dX1_seekGangs_80 ?_
        obtain ⟨g8, hf⟩ := of_g hf
        exact V_lw (ih v1 v2 (v3 + 1) μ3 hv1 hv2 g8 hf) (And.intro rfl (And.intro rfl (And.intro rfl (And.intro rfl trivial))))
      · replace hf := if_f hf c7
        refine r_iload C rfl dX1_seekGangs_39 ?_
        refine r_aload_n C 0 rfl rfl dX1_seekGangs_41 ?_
        refine r_getf C 7 (by decide) rfl (fx_m rfl) (ly_7 cy _ _) rfl in_X1 14 (by decide) tw_213 (v := nu (μ3 7 14)) rfl dX1_seekGangs_42 ?_
        refine r_icmp_le C 51 hr6 (ho5 _ _) rfl dX1_seekGangs_45 (fun c9 => ?_) (fun c9 => ?_)
        · replace hf := if_t hf c9
          refine r_aload_n C 0 rfl rfl dX1_seekGangs_51 ?_
          refine r_iload_n C 2 rfl rfl dX1_seekGangs_52 ?_
          refine r_iload_n C 3 rfl rfl dX1_seekGangs_53 ?_
          refine r_iload C rfl dX1_seekGangs_54 ?_
          obtain ⟨r10, μ11, hc12, hf⟩ := of_bd hf
          refine r_callVV C hCF (As := [nu v2, nu v3, nu r2]) 7 (by decide) rfl (fx_m rfl) (ly_7 cy _ _) rfl (c_X1_place hv2 hv3 hr6 hc12) rfl (by omega) (by decide) ⟨Nat.le_refl 0, Nat.le_refl 0⟩ tw_773 tw_776 tw_8 tw_775 ts_26 3 (by decide) rfl (Nat.le_of_ble_eq_true rfl) dX1_seekGangs_56 ?_
          refine V_in (fun ho13 _ => ?_)
          refine r_aload_n C 0 rfl rfl dX1_seekGangs_59 ?_
          refine r_iload_n C 1 rfl rfl dX1_seekGangs_60 ?_
          refine r_iconst C dX1_seekGangs_61 ?_
          refine r_iadd C dX1_seekGangs_62 ?_
          obtain ⟨g15, hf⟩ := of_g hf
          obtain ⟨r16, μ17, hc18, hf⟩ := of_bd hf
          refine r_callVI C hCF (As := [nu (v1 + 1)]) 7 (by decide) rfl (fx_m rfl) (ly_7 cy _ _) rfl (hfr g15 hc18) rfl (by omega) (by decide) ⟨Nat.le_refl 0, Nat.le_refl 0⟩ tw_785 tw_788 tw_8 tw_787 ts_29 1 (by decide) rfl (Nat.le_of_ble_eq_true rfl) dX1_seekGangs_63 (fun hr20 => ?_)
          refine V_in (fun ho19 _ => ?_)
          refine r_if_eq C 71 hr20 rfl dX1_seekGangs_66 (fun c21 => ?_) (fun c21 => ?_)
          · replace hf := if_t hf c21
            refine r_aload_n C 0 rfl rfl dX1_seekGangs_71 ?_
            refine r_iload_n C 2 rfl rfl dX1_seekGangs_72 ?_
            refine r_iload_n C 3 rfl rfl dX1_seekGangs_73 ?_
            obtain ⟨r22, μ23, hc24, hf⟩ := of_bd hf
            refine r_callVV C hCF (As := [nu v2, nu v3]) 7 (by decide) rfl (fx_m rfl) (ly_7 cy _ _) rfl (c_X1_takeBack hv2 hv3 hc24) rfl (by omega) (by decide) ⟨Nat.le_refl 0, Nat.le_refl 0⟩ tw_777 tw_780 tw_8 tw_779 ts_27 2 (by decide) rfl (Nat.le_of_ble_eq_true rfl) dX1_seekGangs_74 ?_
            refine V_in (fun ho25 _ => ?_)
            refine r_iinc C rfl (lw := [some (rf 7), some (nu v1), some (nu v2), some (nu (v3 + 1)), some (nu r2)]) rfl (by decide) dX1_seekGangs_77 ?_
            refine r_goto C 19 rfl dX1_seekGangs_80 ?_
            obtain ⟨g27, hf⟩ := of_g hf
            exact V_lw (ih v1 v2 (v3 + 1) μ23 hv1 hv2 g27 hf) (And.intro rfl (And.intro rfl (And.intro rfl (And.intro rfl trivial))))
          · replace hf := if_f hf c21
            refine r_iconst C dX1_seekGangs_69 ?_
            obtain ⟨rfl, rfl⟩ := of_ret hf
            exact r_zret C rfl (by decide) dX1_seekGangs_70
        · replace hf := if_f hf c9
          refine r_goto C 77 rfl dX1_seekGangs_48 ?_
          refine r_iinc C rfl (lw := [some (rf 7), some (nu v1), some (nu v2), some (nu (v3 + 1)), some (nu r2)]) rfl (by decide) dX1_seekGangs_77 ?_
          refine r_goto C 19 rfl dX1_seekGangs_80 ?_
          obtain ⟨g28, hf⟩ := of_g hf
          exact V_lw (ih v1 v2 (v3 + 1) μ3 hv1 hv2 g28 hf) (And.intro rfl (And.intro rfl (And.intro rfl (And.intro rfl trivial))))
set_option maxHeartbeats 4000000 in
set_option maxRecDepth 100000 in
theorem c_X1_seekGangs {l : Launch} {D : va_G} {cy : Nat → ClassId} {ids : List Nat} {ad : Nat → Nat} : ∀ (d : Nat) {μ μ' : Mem} {a1 r : Int}, inR a1 → f_X1_seekGangs d μ a1 = some (r, μ') → KK aI l D (tyl cy) (lay cy) ids ad (10 + d) yX1_seekGangs cX1_seekGangs 5 (some .boolean) [rf 7, nu a1] μ r μ' := by
  intro d
  induction d with
  | zero =>
    intro μ μ' a1 r h1 hf
    cases hf
  | succ d hfr =>
    intro μ μ' a1 r h1 hf
    refine KK.of (by decide) (Nat.le_of_ble_eq_true rfl) ?_
    intro p e s m args below meth c A C hCF
    rw [f_X1_seekGangs_e] at hf
    refine V_in (fun ho0 _ => ?_)
    refine r_iload_n C 1 rfl rfl dX1_seekGangs_0 ?_
    refine r_aload_n C 0 rfl rfl dX1_seekGangs_1 ?_
    refine r_getf C 7 (by decide) rfl (fx_m rfl) (ly_7 cy _ _) rfl in_X1 5 (by decide) tw_204 (v := nu (μ 7 5)) rfl dX1_seekGangs_2 ?_
    refine r_icmp_lt C 10 h1 (ho0 _ _) rfl dX1_seekGangs_5 (fun c1 => ?_) (fun c1 => ?_)
    · replace hf := if_t hf c1
      refine r_aload_n C 0 rfl rfl dX1_seekGangs_10 ?_
      refine r_getf C 7 (by decide) rfl (fx_m rfl) (ly_7 cy _ _) rfl in_X1 9 (by decide) tw_208 (v := rf 26) rfl dX1_seekGangs_11 ?_
      refine r_iload_n C 1 rfl rfl dX1_seekGangs_14 ?_
      obtain ⟨g2, hf⟩ := of_g hf
      refine r_iald C 26 (by decide) rfl (fx_m rfl) 0 (cA := cy 0) (n := 5) (ly_26 cy _ _) rfl g2 (by decide) dX1_seekGangs_15 ?_
      refine r_istore_n C 2 (lw := [some (rf 7), some (nu a1), some (nu (μ 26 a1.toNat)), none, none]) rfl rfl (by decide) dX1_seekGangs_16 ?_
      refine r_iconst C dX1_seekGangs_17 ?_
      refine r_istore_n C 3 (lw := [some (rf 7), some (nu a1), some (nu (μ 26 a1.toNat)), some (nu 0), none]) rfl rfl (by decide) dX1_seekGangs_18 ?_
      exact V_lw (w_X1_seekGangs_19 C hCF (f_X1_seekGangs d) hfr 64 a1 (μ 26 a1.toNat) 0 μ h1 (ho0 _ _) (inR_lit rfl) hf) (And.intro rfl (And.intro rfl (And.intro rfl (And.intro rfl trivial))))
    · replace hf := if_f hf c1
      refine r_iconst C dX1_seekGangs_8 ?_
      obtain ⟨rfl, rfl⟩ := of_ret hf
      exact r_zret C rfl (by decide) dX1_seekGangs_9
set_option maxHeartbeats 4000000 in
set_option maxRecDepth 100000 in
theorem w_X1_seekOrder_16 {p : Program} {l : Launch} {e : Env} {s : State} {m : MethodId} {args : Array Value} {below : List Frame} {meth : Method} {c : Code} {D : va_G} {cy : Nat → ClassId} {A : Nat → Prop} {ids : List Nat} {ad : Nat → Nat} {r : Int} {μ' : Mem} (C : Cx p s m args meth c D (tyl cy) A 4 cX1_seekOrder yX1_seekOrder.cls (some .boolean)) (hCF : CF ad A s) {d : Nat} (fr : Mem → Int → Int → Option (Int × Mem)) (hfr : ∀ {μ μ' : Mem} {a1 a2 r : Int}, inR a1 → inR a2 → fr μ a1 a2 = some (r, μ') → KK aI l D (tyl cy) (lay cy) ids ad (20 + d) yX1_seekOrder cX1_seekOrder 4 (some .boolean) [rf 7, nu a1, nu a2] μ r μ') : ∀ n : Nat, ∀ (v1 v2 v3 : Int) (μ : Mem), inR v1 → inR v2 → inR v3 → f_X1_seekOrder_16 fr  n v1 v2 v3 μ = some (r, μ') → V p l e (rmk (20 + (d + 1))) s m args below meth c 0 0 (MQ below (aI D (tyl cy) (lay cy) ids ad A r μ') args s 0 0 A) D A (lay cy) ids ad 4 μ 16 [some (rf 7), some (nu v1), some (nu v2), some (nu v3)] [] := by
  intro n
  induction n with
  | zero =>
    intro v1 v2 v3 μ hv1 hv2 hv3 hf
    cases hf
  | succ n ih =>
    intro v1 v2 v3 μ hv1 hv2 hv3 hf
    rw [f_X1_seekOrder_16_e] at hf
    refine V_in (fun ho0 _ => ?_)
    refine r_iload_n C 3 rfl rfl dX1_seekOrder_16 ?_
    refine r_aload_n C 0 rfl rfl dX1_seekOrder_17 ?_
    refine r_getf C 7 (by decide) rfl (fx_m rfl) (ly_7 cy _ _) rfl in_X1 5 (by decide) tw_204 (v := nu (μ 7 5)) rfl dX1_seekOrder_18 ?_
    refine r_icmp_ge C 66 hv3 (ho0 _ _) rfl dX1_seekOrder_21 (fun c1 => ?_) (fun c1 => ?_)
    · replace hf := if_t hf c1
      refine r_iconst C dX1_seekOrder_66 ?_
      obtain ⟨rfl, rfl⟩ := of_ret hf
      exact r_zret C rfl (by decide) dX1_seekOrder_67
    · replace hf := if_f hf c1
      refine r_aload_n C 0 rfl rfl dX1_seekOrder_24 ?_
      refine r_iload_n C 3 rfl rfl dX1_seekOrder_25 ?_
      refine r_iload_n C 2 rfl rfl dX1_seekOrder_26 ?_
      obtain ⟨r2, μ3, hc4, hf⟩ := of_bd hf
      refine r_callVI C hCF (As := [nu v3, nu v2]) 7 (by decide) rfl (fx_m rfl) (ly_7 cy _ _) rfl (c_X1_mayComeNext hv3 hv2 hc4) rfl (by omega) (by decide) ⟨Nat.le_refl 0, Nat.le_refl 0⟩ tw_761 tw_764 tw_8 tw_763 ts_23 2 (by decide) rfl (Nat.le_of_ble_eq_true rfl) dX1_seekOrder_27 (fun hr6 => ?_)
      refine V_in (fun ho5 _ => ?_)
      refine r_if_ne C 36 hr6 rfl dX1_seekOrder_30 (fun c7 => ?_) (fun c7 => ?_)
      · replace hf := if_f hf c7
        refine r_aload_n C 0 rfl rfl dX1_seekOrder_36 ?_
        refine r_getf C 7 (by decide) rfl (fx_m rfl) (ly_7 cy _ _) rfl in_X1 9 (by decide) tw_208 (v := rf 26) rfl dX1_seekOrder_37 ?_
        refine r_iload_n C 1 rfl rfl dX1_seekOrder_40 ?_
        refine r_iload_n C 3 rfl rfl dX1_seekOrder_41 ?_
        obtain ⟨g8, hf⟩ := of_g hf
        refine r_iast C 26 (by decide) rfl (fx_m rfl) (by decide) 0 (cA := cy 0) (n := 5) (fun f => ly_26 cy _ f) rfl g8 (by decide) hv3 dX1_seekOrder_42 (fun μ9 hμ11 => ?_)
        replace hf := of_lm hf hμ11
        refine V_in (fun ho10 _ => ?_)
        refine r_aload_n C 0 rfl rfl dX1_seekOrder_43 ?_
        refine r_iload_n C 1 rfl rfl dX1_seekOrder_44 ?_
        refine r_iconst C dX1_seekOrder_45 ?_
        refine r_iadd C dX1_seekOrder_46 ?_
        refine r_iload_n C 2 rfl rfl dX1_seekOrder_47 ?_
        refine r_iconst C dX1_seekOrder_48 ?_
        refine r_iload_n C 3 rfl rfl dX1_seekOrder_49 ?_
        refine r_ishl C dX1_seekOrder_50 ?_
        refine r_ior C dX1_seekOrder_51 ?_
        obtain ⟨g12, hf⟩ := of_g hf
        obtain ⟨r13, μ14, hc15, hf⟩ := of_bd hf
        refine r_callVI C hCF (As := [nu (v1 + 1), nu (zor v2 (zshl 1 v3))]) 7 (by decide) rfl (fx_m rfl) (ly_7 cy _ _) rfl (hfr g12 (zI_rng _) hc15) rfl (by omega) (by decide) ⟨Nat.le_refl 0, Nat.le_refl 0⟩ tw_781 tw_784 tw_8 tw_783 ts_28 2 (by decide) rfl (Nat.le_of_ble_eq_true rfl) dX1_seekOrder_52 (fun hr17 => ?_)
        refine V_in (fun ho16 _ => ?_)
        refine r_if_eq C 60 hr17 rfl dX1_seekOrder_55 (fun c18 => ?_) (fun c18 => ?_)
        · replace hf := if_t hf c18
          refine r_iinc C rfl (lw := [some (rf 7), some (nu v1), some (nu v2), some (nu (v3 + 1))]) rfl (by decide) dX1_seekOrder_60 ?_
          refine r_goto C 16 rfl dX1_seekOrder_63 ?_
          obtain ⟨g19, hf⟩ := of_g hf
          exact V_lw (ih v1 v2 (v3 + 1) μ14 hv1 hv2 g19 hf) (And.intro rfl (And.intro rfl (And.intro rfl (And.intro rfl trivial))))
        · replace hf := if_f hf c18
          refine r_iconst C dX1_seekOrder_58 ?_
          obtain ⟨rfl, rfl⟩ := of_ret hf
          exact r_zret C rfl (by decide) dX1_seekOrder_59
      · replace hf := if_t hf c7
        refine r_goto C 60 rfl dX1_seekOrder_33 ?_
        refine r_iinc C rfl (lw := [some (rf 7), some (nu v1), some (nu v2), some (nu (v3 + 1))]) rfl (by decide) dX1_seekOrder_60 ?_
        refine r_goto C 16 rfl dX1_seekOrder_63 ?_
        obtain ⟨g20, hf⟩ := of_g hf
        exact V_lw (ih v1 v2 (v3 + 1) μ3 hv1 hv2 g20 hf) (And.intro rfl (And.intro rfl (And.intro rfl (And.intro rfl trivial))))
set_option maxHeartbeats 4000000 in
set_option maxRecDepth 100000 in
theorem c_X1_seekOrder {l : Launch} {D : va_G} {cy : Nat → ClassId} {ids : List Nat} {ad : Nat → Nat} : ∀ (d : Nat) {μ μ' : Mem} {a1 a2 r : Int}, inR a1 → inR a2 → f_X1_seekOrder d μ a1 a2 = some (r, μ') → KK aI l D (tyl cy) (lay cy) ids ad (20 + d) yX1_seekOrder cX1_seekOrder 4 (some .boolean) [rf 7, nu a1, nu a2] μ r μ' := by
  intro d
  induction d with
  | zero =>
    intro μ μ' a1 a2 r h1 h2 hf
    cases hf
  | succ d hfr =>
    intro μ μ' a1 a2 r h1 h2 hf
    refine KK.of (by decide) (Nat.le_of_ble_eq_true rfl) ?_
    intro p e s m args below meth c A C hCF
    rw [f_X1_seekOrder_e] at hf
    refine V_in (fun ho0 _ => ?_)
    refine r_iload_n C 1 rfl rfl dX1_seekOrder_0 ?_
    refine r_aload_n C 0 rfl rfl dX1_seekOrder_1 ?_
    refine r_getf C 7 (by decide) rfl (fx_m rfl) (ly_7 cy _ _) rfl in_X1 5 (by decide) tw_204 (v := nu (μ 7 5)) rfl dX1_seekOrder_2 ?_
    refine r_icmp_lt C 14 h1 (ho0 _ _) rfl dX1_seekOrder_5 (fun c1 => ?_) (fun c1 => ?_)
    · replace hf := if_t hf c1
      refine r_iconst C dX1_seekOrder_14 ?_
      refine r_istore_n C 3 (lw := [some (rf 7), some (nu a1), some (nu a2), some (nu 0)]) rfl rfl (by decide) dX1_seekOrder_15 ?_
      exact V_lw (w_X1_seekOrder_16 C hCF (f_X1_seekOrder d) hfr 64 a1 a2 0 μ h1 h2 (inR_lit rfl) hf) (And.intro rfl (And.intro rfl (And.intro rfl (And.intro rfl trivial))))
    · replace hf := if_f hf c1
      refine r_aload_n C 0 rfl rfl dX1_seekOrder_8 ?_
      refine r_iconst C dX1_seekOrder_9 ?_
      obtain ⟨r2, μ3, hc4, hf⟩ := of_bd hf
      refine r_callVI C hCF (As := [nu 0]) 7 (by decide) rfl (fx_m rfl) (ly_7 cy _ _) rfl (c_X1_seekGangs 8 (inR_lit rfl) hc4) rfl (by omega) (by decide) ⟨Nat.le_refl 0, Nat.le_refl 0⟩ tw_785 tw_788 tw_8 tw_787 ts_29 1 (by decide) rfl (Nat.le_of_ble_eq_true rfl) dX1_seekOrder_10 (fun hr6 => ?_)
      refine V_in (fun ho5 _ => ?_)
      obtain ⟨g7, hf⟩ := of_g hf
      obtain ⟨rfl, rfl⟩ := of_ret hf
      exact r_zret C rfl g7 dX1_seekOrder_13
set_option maxHeartbeats 4000000 in
set_option maxRecDepth 100000 in
theorem c_X1_makePlan {l : Launch} {D : va_G} {cy : Nat → ClassId} {ids : List Nat} {ad : Nat → Nat} {μ μ' : Mem} { r : Int}  (hf : f_X1_makePlan μ  = some (r, μ')) : KK aI l D (tyl cy) (lay cy) ids ad 30 yX1_makePlan cX1_makePlan 1 (some .int) [rf 7] μ r μ' := by
  refine KK.of (by decide +kernel) (Nat.le_of_ble_eq_true rfl) ?_
  intro p e s m args below meth c A C hCF
  unfold f_X1_makePlan at hf
  refine V_in (fun ho0 _ => ?_)
  refine r_aload_n C 0 rfl rfl dX1_makePlan_0 ?_
  obtain ⟨r1, μ2, hc3, hf⟩ := of_bd hf
  refine r_callVI C hCF (As := []) 7 (by decide) rfl (fx_m rfl) (ly_7 cy _ _) rfl (c_X1_gatherStones hc3) rfl (by decide) (by decide) ⟨Nat.le_refl 0, Nat.le_refl 0⟩ tw_721 tw_724 tw_8 tw_723 ts_16 0 (by decide) rfl (Nat.le_of_ble_eq_true rfl) dX1_makePlan_1 (fun hr5 => ?_)
  refine V_in (fun ho4 _ => ?_)
  refine r_if_ne C 9 hr5 rfl dX1_makePlan_4 (fun c6 => ?_) (fun c6 => ?_)
  · replace hf := if_f hf c6
    refine r_aload_n C 0 rfl rfl dX1_makePlan_9 ?_
    refine r_getf C 7 (by decide) rfl (fx_m rfl) (ly_7 cy _ _) rfl in_X1 5 (by decide) tw_204 (v := nu (μ2 7 5)) rfl dX1_makePlan_10 ?_
    refine r_if_ne C 31 (ho4 _ _) rfl dX1_makePlan_13 (fun c7 => ?_) (fun c7 => ?_)
    · replace hf := if_f hf c7
      refine r_aload_n C 0 rfl rfl dX1_makePlan_31 ?_
      obtain ⟨r8, μ9, hc10, hf⟩ := of_bd hf
      refine r_callVV C hCF (As := []) 7 (by decide) rfl (fx_m rfl) (ly_7 cy _ _) rfl (c_X1_prepareWorks hc10) rfl (by decide) (by decide) ⟨Nat.le_refl 0, Nat.le_refl 0⟩ tw_727 tw_730 tw_8 tw_729 ts_17 0 (by decide) rfl (Nat.le_of_ble_eq_true rfl) dX1_makePlan_32 ?_
      refine V_in (fun ho11 _ => ?_)
      refine r_aload_n C 0 rfl rfl dX1_makePlan_35 ?_
      refine r_sipush C dX1_makePlan_36 rfl ?_
      refine r_putf C 7 (by decide) rfl (fx_m rfl) (by decide) (ly_7 cy _ _) 14 (ly_7 cy _ _) rfl (Nat.le_of_ble_eq_true rfl) (inR_lit rfl) rfl in_X1 tyX1 tyX1_ok nmX1 (by decide) tw_213 rfl rfl dX1_makePlan_39 (fun μ13 hμ15 => ?_)
      replace hf := of_lm hf hμ15
      refine V_in (fun ho14 _ => ?_)
      refine r_aload_n C 0 rfl rfl dX1_makePlan_42 ?_
      obtain ⟨r16, μ17, hc18, hf⟩ := of_bd hf
      refine r_callVI C hCF (As := []) 7 (by decide) rfl (fx_m rfl) (ly_7 cy _ _) rfl (c_X1_findFloor hc18) rfl (by decide) (by decide) ⟨Nat.le_refl 0, Nat.le_refl 0⟩ tw_744 tw_747 tw_8 tw_746 ts_20 0 (by decide) rfl (Nat.le_of_ble_eq_true rfl) dX1_makePlan_43 (fun hr20 => ?_)
      refine V_in (fun ho19 _ => ?_)
      refine r_if_ne C 51 hr20 rfl dX1_makePlan_46 (fun c21 => ?_) (fun c21 => ?_)
      · replace hf := if_f hf c21
        refine r_aload_n C 0 rfl rfl dX1_makePlan_51 ?_
        refine r_iconst C dX1_makePlan_52 ?_
        refine r_iconst C dX1_makePlan_53 ?_
        refine r_iconst C dX1_makePlan_54 ?_
        obtain ⟨r22, μ23, hc24, hf⟩ := of_bd hf
        refine r_callVV C hCF (As := [nu 0, nu 0, nu (-1)]) 7 (by decide) rfl (fx_m rfl) (ly_7 cy _ _) rfl (c_X1_seekLeast 8 (inR_lit rfl) (inR_lit rfl) (inR_lit rfl) hc24) rfl (by decide) (by decide) ⟨Nat.le_refl 0, Nat.le_refl 0⟩ tw_757 tw_760 tw_8 tw_759 ts_22 3 (by decide) rfl (Nat.le_of_ble_eq_true rfl) dX1_makePlan_55 ?_
        refine V_in (fun ho25 _ => ?_)
        refine r_aload_n C 0 rfl rfl dX1_makePlan_58 ?_
        refine r_getf C 7 (by decide) rfl (fx_m rfl) (ly_7 cy _ _) rfl in_X1 14 (by decide) tw_213 (v := nu (μ23 7 14)) rfl dX1_makePlan_59 ?_
        refine r_sipush C dX1_makePlan_62 rfl ?_
        refine r_icmp_gt C 77 (ho25 _ _) (inR_lit rfl) rfl dX1_makePlan_65 (fun c27 => ?_) (fun c27 => ?_)
        · replace hf := if_t hf c27
          refine r_iconst C dX1_makePlan_77 ?_
          obtain ⟨rfl, rfl⟩ := of_ret hf
          exact r_iret C rfl (inR_lit rfl) dX1_makePlan_78
        · replace hf := if_f hf c27
          refine r_aload_n C 0 rfl rfl dX1_makePlan_68 ?_
          refine r_iconst C dX1_makePlan_69 ?_
          refine r_iconst C dX1_makePlan_70 ?_
          obtain ⟨r28, μ29, hc30, hf⟩ := of_bd hf
          refine r_callVI C hCF (As := [nu 0, nu 0]) 7 (by decide) rfl (fx_m rfl) (ly_7 cy _ _) rfl (c_X1_seekOrder 8 (inR_lit rfl) (inR_lit rfl) hc30) rfl (by decide) (by decide) ⟨Nat.le_refl 0, Nat.le_refl 0⟩ tw_781 tw_784 tw_8 tw_783 ts_28 2 (by decide) rfl (Nat.le_of_ble_eq_true rfl) dX1_makePlan_71 (fun hr32 => ?_)
          refine V_in (fun ho31 _ => ?_)
          refine r_if_ne C 79 hr32 rfl dX1_makePlan_74 (fun c33 => ?_) (fun c33 => ?_)
          · replace hf := if_f hf c33
            refine r_aload_n C 0 rfl rfl dX1_makePlan_79 ?_
            obtain ⟨r34, μ35, hc36, hf⟩ := of_bd hf
            refine r_callVV C hCF (As := []) 7 (by decide) rfl (fx_m rfl) (ly_7 cy _ _) rfl (c_X1_keepPlan hc36) rfl (by decide) (by decide) ⟨Nat.le_refl 0, Nat.le_refl 0⟩ tw_789 tw_792 tw_8 tw_791 ts_30 0 (by decide) rfl (Nat.le_of_ble_eq_true rfl) dX1_makePlan_80 ?_
            refine V_in (fun ho37 _ => ?_)
            refine r_aload_n C 0 rfl rfl dX1_makePlan_83 ?_
            refine r_getf C 7 (by decide) rfl (fx_m rfl) (ly_7 cy _ _) rfl in_X1 14 (by decide) tw_213 (v := nu (μ35 7 14)) rfl dX1_makePlan_84 ?_
            obtain ⟨rfl, rfl⟩ := of_ret hf
            exact r_iret C rfl (ho37 _ _) dX1_makePlan_87
          · replace hf := if_t hf c33
            refine r_iconst C dX1_makePlan_77 ?_
            obtain ⟨rfl, rfl⟩ := of_ret hf
            exact r_iret C rfl (inR_lit rfl) dX1_makePlan_78
      · replace hf := if_t hf c21
        refine r_iconst C dX1_makePlan_49 ?_
        obtain ⟨rfl, rfl⟩ := of_ret hf
        exact r_iret C rfl (inR_lit rfl) dX1_makePlan_50
    · replace hf := if_t hf c7
      refine r_aload_n C 0 rfl rfl dX1_makePlan_16 ?_
      refine r_iconst C dX1_makePlan_17 ?_
      refine r_putf C 7 (by decide) rfl (fx_m rfl) (by decide) (ly_7 cy _ _) 17 (ly_7 cy _ _) rfl (Nat.le_of_ble_eq_true rfl) (inR_lit rfl) rfl in_X1 tyX1 tyX1_ok nmX1 (by decide) tw_216 rfl rfl dX1_makePlan_18 (fun μ39 hμ41 => ?_)
      replace hf := of_lm hf hμ41
      refine V_in (fun ho40 _ => ?_)
      refine r_aload_n C 0 rfl rfl dX1_makePlan_21 ?_
      refine r_getf C 7 (by decide) rfl (fx_m rfl) (ly_7 cy _ _) rfl in_X1 0 (by decide) tw_199 (v := rf 6) rfl dX1_makePlan_22 ?_
      refine r_getfN C 6 (by decide) rfl (fx_m rfl) (ly_6 cy _ _) rfl in_X3 9 (by decide) tw_164 (v := nu (μ39 6 9)) rfl dX1_makePlan_25 ?_
      refine r_iconst C dX1_makePlan_28 ?_
      refine r_isub C dX1_makePlan_29 ?_
      obtain ⟨g42, hf⟩ := of_g hf
      obtain ⟨rfl, rfl⟩ := of_ret hf
      exact r_iret C rfl g42 dX1_makePlan_30
  · replace hf := if_t hf c6
    refine r_iconst C dX1_makePlan_7 ?_
    obtain ⟨rfl, rfl⟩ := of_ret hf
    exact r_iret C rfl (inR_lit rfl) dX1_makePlan_8
