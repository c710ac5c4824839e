set_option maxHeartbeats 4000000 in
set_option maxRecDepth 100000 in
theorem c_X8_addTally {l : Launch} {D : va_G} {cy : Nat → ClassId} {ids : List Nat} {ad : Nat → Nat} {μ μ' : Mem} {a1 a2 a3 a4 r : Int} (h1 : inR a1) (h2 : inR a2) (h3 : inR a3) (h4 : inR a4) (hf : f_X8_addTally μ a1 a2 a3 a4 = some (r, μ')) : KK aI l D (tyl cy) (lay cy) ids ad 4 yX8_addTally cX8_addTally 5 (some .int) [rf 8, nu a1, nu a2, nu a3, nu a4] μ r μ' := by
  refine KK.of (by decide +kernel) (Nat.le_of_ble_eq_true rfl) ?_
  intro p e s m args below meth c A C hCF
  unfold f_X8_addTally at hf
  refine V_in (fun ho0 _ => ?_)
  refine r_aload_n C 0 rfl rfl dX8_addTally_0 ?_
  refine r_getf C 8 (by decide) rfl (fx_m rfl) (ly_8 cy _ _) rfl in_X8 5 (by decide) tw_265 (v := nu (μ 8 5)) rfl dX8_addTally_1 ?_
  refine r_bipush C dX8_addTally_4 rfl ?_
  refine r_icmp_ge C 31 (ho0 _ _) (inR_lit rfl) rfl dX8_addTally_6 (fun c1 => ?_) (fun c1 => ?_)
  · replace hf := if_t hf c1
    refine r_iconst C dX8_addTally_31 ?_
    obtain ⟨rfl, rfl⟩ := of_ret hf
    exact r_iret C rfl (inR_lit rfl) dX8_addTally_32
  · replace hf := if_f hf c1
    refine r_iload_n C 1 rfl rfl dX8_addTally_9 ?_
    refine r_if_lt C 31 h1 rfl dX8_addTally_10 (fun c2 => ?_) (fun c2 => ?_)
    · replace hf := if_t hf c2
      refine r_iconst C dX8_addTally_31 ?_
      obtain ⟨rfl, rfl⟩ := of_ret hf
      exact r_iret C rfl (inR_lit rfl) dX8_addTally_32
    · replace hf := if_f hf c2
      refine r_iload_n C 1 rfl rfl dX8_addTally_13 ?_
      refine r_bipush C dX8_addTally_14 rfl ?_
      refine r_icmp_ge C 31 h1 (inR_lit rfl) rfl dX8_addTally_16 (fun c3 => ?_) (fun c3 => ?_)
      · replace hf := if_t hf c3
        refine r_iconst C dX8_addTally_31 ?_
        obtain ⟨rfl, rfl⟩ := of_ret hf
        exact r_iret C rfl (inR_lit rfl) dX8_addTally_32
      · replace hf := if_f hf c3
        refine r_iload C rfl dX8_addTally_19 ?_
        refine r_if_lt C 31 h4 rfl dX8_addTally_21 (fun c4 => ?_) (fun c4 => ?_)
        · replace hf := if_t hf c4
          refine r_iconst C dX8_addTally_31 ?_
          obtain ⟨rfl, rfl⟩ := of_ret hf
          exact r_iret C rfl (inR_lit rfl) dX8_addTally_32
        · replace hf := if_f hf c4
          refine r_iload C rfl dX8_addTally_24 ?_
          refine r_bipush C dX8_addTally_26 rfl ?_
          refine r_icmp_le C 33 h4 (inR_lit rfl) rfl dX8_addTally_28 (fun c5 => ?_) (fun c5 => ?_)
          · replace hf := if_t hf c5
            refine r_iload_n C 2 rfl rfl dX8_addTally_33 ?_
            obtain ⟨r6, μ7, hc8, hf⟩ := of_bd hf
            refine r_callSNI C hCF (As := [nu a2]) (c_X10_isDay h2 hc8) rfl (by decide) (by decide) ⟨Nat.le_refl 0, Nat.le_refl 0⟩ tw_809 tw_377 tw_1 tw_376 1 (by decide) rfl (Nat.le_of_ble_eq_true rfl) dX8_addTally_34 (fun hr10 => ?_)
            refine V_in (fun ho9 _ => ?_)
            refine r_if_eq C 52 hr10 rfl dX8_addTally_37 (fun c11 => ?_) (fun c11 => ?_)
            · replace hf := if_t hf c11
              refine r_iconst C dX8_addTally_52 ?_
              obtain ⟨rfl, rfl⟩ := of_ret hf
              exact r_iret C rfl (inR_lit rfl) dX8_addTally_53
            · replace hf := if_f hf c11
              refine r_iload_n C 3 rfl rfl dX8_addTally_40 ?_
              obtain ⟨r12, μ13, hc14, hf⟩ := of_bd hf
              refine r_callSNI C hCF (As := [nu a3]) (c_X10_isDay h3 hc14) rfl (by decide) (by decide) ⟨Nat.le_refl 0, Nat.le_refl 0⟩ tw_809 tw_377 tw_1 tw_376 1 (by decide) rfl (Nat.le_of_ble_eq_true rfl) dX8_addTally_41 (fun hr16 => ?_)
              refine V_in (fun ho15 _ => ?_)
              refine r_if_eq C 52 hr16 rfl dX8_addTally_44 (fun c17 => ?_) (fun c17 => ?_)
              · replace hf := if_t hf c17
                refine r_iconst C dX8_addTally_52 ?_
                obtain ⟨rfl, rfl⟩ := of_ret hf
                exact r_iret C rfl (inR_lit rfl) dX8_addTally_53
              · replace hf := if_f hf c17
                refine r_iload_n C 2 rfl rfl dX8_addTally_47 ?_
                refine r_iload_n C 3 rfl rfl dX8_addTally_48 ?_
                refine r_icmp_le C 54 h2 h3 rfl dX8_addTally_49 (fun c18 => ?_) (fun c18 => ?_)
                · replace hf := if_t hf c18
                  refine r_aload_n C 0 rfl rfl dX8_addTally_54 ?_
                  refine r_getf C 8 (by decide) rfl (fx_m rfl) (ly_8 cy _ _) rfl in_X8 1 (by decide) tw_261 (v := rf 32) rfl dX8_addTally_55 ?_
                  refine r_aload_n C 0 rfl rfl dX8_addTally_58 ?_
                  refine r_getf C 8 (by decide) rfl (fx_m rfl) (ly_8 cy _ _) rfl in_X8 5 (by decide) tw_265 (v := nu (μ13 8 5)) rfl dX8_addTally_59 ?_
                  refine r_iload_n C 1 rfl rfl dX8_addTally_62 ?_
                  obtain ⟨g19, hf⟩ := of_g hf
                  refine r_iast C 32 (by decide) rfl (fx_m rfl) (by decide) 0 (cA := cy 0) (n := 20) (fun f => ly_32 cy _ f) rfl g19 (by decide) h1 dX8_addTally_63 (fun μ20 hμ22 => ?_)
                  replace hf := of_lm hf hμ22
                  refine V_in (fun ho21 _ => ?_)
                  refine r_aload_n C 0 rfl rfl dX8_addTally_64 ?_
                  refine r_getf C 8 (by decide) rfl (fx_m rfl) (ly_8 cy _ _) rfl in_X8 2 (by decide) tw_262 (v := rf 33) rfl dX8_addTally_65 ?_
                  refine r_aload_n C 0 rfl rfl dX8_addTally_68 ?_
                  refine r_getf C 8 (by decide) rfl (fx_m rfl) (ly_8 cy _ _) rfl in_X8 5 (by decide) tw_265 (v := nu (μ20 8 5)) rfl dX8_addTally_69 ?_
                  refine r_iload_n C 2 rfl rfl dX8_addTally_72 ?_
                  obtain ⟨g23, hf⟩ := of_g hf
                  refine r_iast C 33 (by decide) rfl (fx_m rfl) (by decide) 0 (cA := cy 0) (n := 20) (fun f => ly_33 cy _ f) rfl g23 (by decide) h2 dX8_addTally_73 (fun μ24 hμ26 => ?_)
                  replace hf := of_lm hf hμ26
                  refine V_in (fun ho25 _ => ?_)
                  refine r_aload_n C 0 rfl rfl dX8_addTally_74 ?_
                  refine r_getf C 8 (by decide) rfl (fx_m rfl) (ly_8 cy _ _) rfl in_X8 3 (by decide) tw_263 (v := rf 34) rfl dX8_addTally_75 ?_
                  refine r_aload_n C 0 rfl rfl dX8_addTally_78 ?_
                  refine r_getf C 8 (by decide) rfl (fx_m rfl) (ly_8 cy _ _) rfl in_X8 5 (by decide) tw_265 (v := nu (μ24 8 5)) rfl dX8_addTally_79 ?_
                  refine r_iload_n C 3 rfl rfl dX8_addTally_82 ?_
                  obtain ⟨g27, hf⟩ := of_g hf
                  refine r_iast C 34 (by decide) rfl (fx_m rfl) (by decide) 0 (cA := cy 0) (n := 20) (fun f => ly_34 cy _ f) rfl g27 (by decide) h3 dX8_addTally_83 (fun μ28 hμ30 => ?_)
                  replace hf := of_lm hf hμ30
                  refine V_in (fun ho29 _ => ?_)
                  refine r_aload_n C 0 rfl rfl dX8_addTally_84 ?_
                  refine r_getf C 8 (by decide) rfl (fx_m rfl) (ly_8 cy _ _) rfl in_X8 4 (by decide) tw_264 (v := rf 35) rfl dX8_addTally_85 ?_
                  refine r_aload_n C 0 rfl rfl dX8_addTally_88 ?_
                  refine r_getf C 8 (by decide) rfl (fx_m rfl) (ly_8 cy _ _) rfl in_X8 5 (by decide) tw_265 (v := nu (μ28 8 5)) rfl dX8_addTally_89 ?_
                  refine r_iload C rfl dX8_addTally_92 ?_
                  obtain ⟨g31, hf⟩ := of_g hf
                  refine r_iast C 35 (by decide) rfl (fx_m rfl) (by decide) 0 (cA := cy 0) (n := 20) (fun f => ly_35 cy _ f) rfl g31 (by decide) h4 dX8_addTally_94 (fun μ32 hμ34 => ?_)
                  replace hf := of_lm hf hμ34
                  refine V_in (fun ho33 _ => ?_)
                  refine r_aload_n C 0 rfl rfl dX8_addTally_95 ?_
                  refine r_dup C dX8_addTally_96 ?_
                  refine r_getf C 8 (by decide) rfl (fx_m rfl) (ly_8 cy _ _) rfl in_X8 5 (by decide) tw_265 (v := nu (μ32 8 5)) rfl dX8_addTally_97 ?_
                  refine r_dup_x1 C dX8_addTally_100 ?_
                  refine r_iconst C dX8_addTally_101 ?_
                  refine r_iadd C dX8_addTally_102 ?_
                  obtain ⟨g35, hf⟩ := of_g hf
                  refine r_putf C 8 (by decide) rfl (fx_m rfl) (by decide) (ly_8 cy _ _) 5 (ly_8 cy _ _) rfl (Nat.le_of_ble_eq_true rfl) g35 rfl in_X8 tyX8 tyX8_ok nmX8 (by decide) tw_265 rfl rfl dX8_addTally_103 (fun μ36 hμ38 => ?_)
                  replace hf := of_lm hf hμ38
                  refine V_in (fun ho37 _ => ?_)
                  obtain ⟨rfl, rfl⟩ := of_ret hf
                  exact r_iret C rfl (ho33 _ _) dX8_addTally_106
                · replace hf := if_f hf c18
                  refine r_iconst C dX8_addTally_52 ?_
                  obtain ⟨rfl, rfl⟩ := of_ret hf
                  exact r_iret C rfl (inR_lit rfl) dX8_addTally_53
          · replace hf := if_f hf c5
            refine r_iconst C dX8_addTally_31 ?_
            obtain ⟨rfl, rfl⟩ := of_ret hf
            exact r_iret C rfl (inR_lit rfl) dX8_addTally_32
set_option maxHeartbeats 4000000 in
set_option maxRecDepth 100000 in
theorem c_X8_tellTruth {l : Launch} {D : va_G} {cy : Nat → ClassId} {ids : List Nat} {ad : Nat → Nat} {μ μ' : Mem} {a1 r : Int} (h1 : inR a1) (hf : f_X8_tellTruth μ a1 = some (r, μ')) : KK aI l D (tyl cy) (lay cy) ids ad 4 yX8_tellTruth cX8_tellTruth 2 (some .int) [rf 8, nu a1] μ r μ' := by
  refine KK.of (by decide +kernel) (Nat.le_of_ble_eq_true rfl) ?_
  intro p e s m args below meth c A C hCF
  unfold f_X8_tellTruth at hf
  refine V_in (fun ho0 _ => ?_)
  refine r_iload_n C 1 rfl rfl dX8_tellTruth_0 ?_
  refine r_if_lt C 12 h1 rfl dX8_tellTruth_1 (fun c1 => ?_) (fun c1 => ?_)
  · replace hf := if_t hf c1
    refine r_iconst C dX8_tellTruth_12 ?_
    obtain ⟨rfl, rfl⟩ := of_ret hf
    exact r_iret C rfl (inR_lit rfl) dX8_tellTruth_13
  · replace hf := if_f hf c1
    refine r_iload_n C 1 rfl rfl dX8_tellTruth_4 ?_
    refine r_aload_n C 0 rfl rfl dX8_tellTruth_5 ?_
    refine r_getf C 8 (by decide) rfl (fx_m rfl) (ly_8 cy _ _) rfl in_X8 5 (by decide) tw_265 (v := nu (μ 8 5)) rfl dX8_tellTruth_6 ?_
    refine r_icmp_lt C 14 h1 (ho0 _ _) rfl dX8_tellTruth_9 (fun c2 => ?_) (fun c2 => ?_)
    · replace hf := if_t hf c2
      refine r_aload_n C 0 rfl rfl dX8_tellTruth_14 ?_
      refine r_getf C 8 (by decide) rfl (fx_m rfl) (ly_8 cy _ _) rfl in_X8 0 (by decide) tw_260 (v := rf 6) rfl dX8_tellTruth_15 ?_
      refine r_aload_n C 0 rfl rfl dX8_tellTruth_18 ?_
      refine r_getf C 8 (by decide) rfl (fx_m rfl) (ly_8 cy _ _) rfl in_X8 1 (by decide) tw_261 (v := rf 32) rfl dX8_tellTruth_19 ?_
      refine r_iload_n C 1 rfl rfl dX8_tellTruth_22 ?_
      obtain ⟨g3, hf⟩ := of_g hf
      refine r_iald C 32 (by decide) rfl (fx_m rfl) 0 (cA := cy 0) (n := 20) (ly_32 cy _ _) rfl g3 (by decide) dX8_tellTruth_23 ?_
      refine r_aload_n C 0 rfl rfl dX8_tellTruth_24 ?_
      refine r_getf C 8 (by decide) rfl (fx_m rfl) (ly_8 cy _ _) rfl in_X8 2 (by decide) tw_262 (v := rf 33) rfl dX8_tellTruth_25 ?_
      refine r_iload_n C 1 rfl rfl dX8_tellTruth_28 ?_
      refine r_iald C 33 (by decide) rfl (fx_m rfl) 0 (cA := cy 0) (n := 20) (ly_33 cy _ _) rfl g3 (by decide) dX8_tellTruth_29 ?_
      refine r_aload_n C 0 rfl rfl dX8_tellTruth_30 ?_
      refine r_getf C 8 (by decide) rfl (fx_m rfl) (ly_8 cy _ _) rfl in_X8 3 (by decide) tw_263 (v := rf 34) rfl dX8_tellTruth_31 ?_
      refine r_iload_n C 1 rfl rfl dX8_tellTruth_34 ?_
      refine r_iald C 34 (by decide) rfl (fx_m rfl) 0 (cA := cy 0) (n := 20) (ly_34 cy _ _) rfl g3 (by decide) dX8_tellTruth_35 ?_
      obtain ⟨r4, μ5, hc6, hf⟩ := of_bd hf
      refine r_callVI C hCF (As := [nu (μ 32 a1.toNat), nu (μ 33 a1.toNat), nu (μ 34 a1.toNat)]) 6 (by decide) rfl (fx_m rfl) (ly_6 cy _ _) rfl (c_X3_stonesLaidBy (ho0 _ _) (ho0 _ _) (ho0 _ _) hc6) rfl (by decide) (by decide) ⟨Nat.le_refl 0, Nat.le_refl 0⟩ tw_818 tw_821 tw_7 tw_819 tw_820 3 (by decide) rfl (Nat.le_of_ble_eq_true rfl) dX8_tellTruth_36 (fun hr8 => ?_)
      refine V_in (fun ho7 _ => ?_)
      refine r_aload_n C 0 rfl rfl dX8_tellTruth_39 ?_
      refine r_getf C 8 (by decide) rfl (fx_m rfl) (ly_8 cy _ _) rfl in_X8 4 (by decide) tw_264 (v := rf 35) rfl dX8_tellTruth_40 ?_
      refine r_iload_n C 1 rfl rfl dX8_tellTruth_43 ?_
      refine r_iald C 35 (by decide) rfl (fx_m rfl) 0 (cA := cy 0) (n := 20) (ly_35 cy _ _) rfl g3 (by decide) dX8_tellTruth_44 ?_
      refine r_icmp_ne C 52 hr8 (ho7 _ _) rfl dX8_tellTruth_45 (fun c9 => ?_) (fun c9 => ?_)
      · replace hf := if_f hf c9
        refine r_iconst C dX8_tellTruth_52 ?_
        obtain ⟨rfl, rfl⟩ := of_ret hf
        exact r_iret C rfl (inR_lit rfl) dX8_tellTruth_53
      · replace hf := if_t hf c9
        refine r_iconst C dX8_tellTruth_48 ?_
        refine r_goto C 53 rfl dX8_tellTruth_49 ?_
        obtain ⟨rfl, rfl⟩ := of_ret hf
        exact r_iret C rfl (inR_lit rfl) dX8_tellTruth_53
    · replace hf := if_f hf c2
      refine r_iconst C dX8_tellTruth_12 ?_
      obtain ⟨rfl, rfl⟩ := of_ret hf
      exact r_iret C rfl (inR_lit rfl) dX8_tellTruth_13
set_option maxHeartbeats 4000000 in
set_option maxRecDepth 100000 in
theorem w_X8_borderAt_2 {p : Program} {l : Launch} {e : Env} {s : State} {m : MethodId} {args : Array Value} {below : List Frame} {meth : Method} {c : Code} {D : va_G} {cy : Nat → ClassId} {A : Nat → Prop} {ids : List Nat} {ad : Nat → Nat} {r : Int} {μ' : Mem} (C : Cx p s m args meth c D (tyl cy) A 3 cX8_borderAt yX8_borderAt.cls (some .int)) (hCF : CF ad A s) : ∀ n : Nat, ∀ (v1 v2 : Int) (μ : Mem), inR v1 → inR v2 → f_X8_borderAt_2   n v1 v2 μ = some (r, μ') → V p l e (rmk 2) s m args below meth c 0 0 (MQ below (aI D (tyl cy) (lay cy) ids ad A r μ') args s 0 0 A) D A (lay cy) ids ad 3 μ 2 [some (rf 8), some (nu v1), some (nu v2)] [] := by
  intro n
  induction n with
  | zero =>
    intro v1 v2 μ hv1 hv2 hf
    cases hf
  | succ n ih =>
    intro v1 v2 μ hv1 hv2 hf
    rw [f_X8_borderAt_2_e] at hf
    refine V_in (fun ho0 _ => ?_)
    refine r_iload_n C 2 rfl rfl dX8_borderAt_2 ?_
    refine r_aload_n C 0 rfl rfl dX8_borderAt_3 ?_
    refine r_getf C 8 (by decide) rfl (fx_m rfl) (ly_8 cy _ _) rfl in_X8 10 (by decide) tw_271 (v := nu (μ 8 10)) rfl dX8_borderAt_4 ?_
    refine r_icmp_ge C 28 hv2 (ho0 _ _) rfl dX8_borderAt_7 (fun c1 => ?_) (fun c1 => ?_)
    · replace hf := if_t hf c1
      refine r_iconst C dX8_borderAt_28 ?_
      obtain ⟨rfl, rfl⟩ := of_ret hf
      exact r_iret C rfl (inR_lit rfl) dX8_borderAt_29
    · replace hf := if_f hf c1
      refine r_aload_n C 0 rfl rfl dX8_borderAt_10 ?_
      refine r_getf C 8 (by decide) rfl (fx_m rfl) (ly_8 cy _ _) rfl in_X8 8 (by decide) tw_269 (v := rf 36) rfl dX8_borderAt_11 ?_
      refine r_iload_n C 2 rfl rfl dX8_borderAt_14 ?_
      obtain ⟨g2, hf⟩ := of_g hf
      refine r_iald C 36 (by decide) rfl (fx_m rfl) 0 (cA := cy 0) (n := 40) (ly_36 cy _ _) rfl g2 (by decide) dX8_borderAt_15 ?_
      refine r_iload_n C 1 rfl rfl dX8_borderAt_16 ?_
      refine r_icmp_ne C 22 (ho0 _ _) hv1 rfl dX8_borderAt_17 (fun c3 => ?_) (fun c3 => ?_)
      · replace hf := if_f hf c3
        refine r_iinc C rfl (lw := [some (rf 8), some (nu v1), some (nu (v2 + 1))]) rfl (by decide) dX8_borderAt_22 ?_
        refine r_goto C 2 rfl dX8_borderAt_25 ?_
        obtain ⟨g4, hf⟩ := of_g hf
        exact V_lw (ih v1 (v2 + 1) μ hv1 g4 hf) (And.intro rfl (And.intro rfl (And.intro rfl trivial)))
      · replace hf := if_t hf c3
        refine r_iload_n C 2 rfl rfl dX8_borderAt_20 ?_
        obtain ⟨rfl, rfl⟩ := of_ret hf
        exact r_iret C rfl hv2 dX8_borderAt_21
set_option maxHeartbeats 4000000 in
set_option maxRecDepth 100000 in
theorem c_X8_borderAt {l : Launch} {D : va_G} {cy : Nat → ClassId} {ids : List Nat} {ad : Nat → Nat} {μ μ' : Mem} {a1 r : Int} (h1 : inR a1) (hf : f_X8_borderAt μ a1 = some (r, μ')) : KK aI l D (tyl cy) (lay cy) ids ad 2 yX8_borderAt cX8_borderAt 3 (some .int) [rf 8, nu a1] μ r μ' := by
  refine KK.of (by decide +kernel) (Nat.le_of_ble_eq_true rfl) ?_
  intro p e s m args below meth c A C hCF
  unfold f_X8_borderAt at hf
  refine V_in (fun ho0 _ => ?_)
  refine r_iconst C dX8_borderAt_0 ?_
  refine r_istore_n C 2 (lw := [some (rf 8), some (nu a1), some (nu 0)]) rfl rfl (by decide) dX8_borderAt_1 ?_
  exact V_lw (w_X8_borderAt_2 C hCF 64 a1 0 μ h1 (inR_lit rfl) hf) (And.intro rfl (And.intro rfl (And.intro rfl trivial)))
set_option maxHeartbeats 4000000 in
set_option maxRecDepth 100000 in
theorem w_X8_addBorder_63 {p : Program} {l : Launch} {e : Env} {s : State} {m : MethodId} {args : Array Value} {below : List Frame} {meth : Method} {c : Code} {D : va_G} {cy : Nat → ClassId} {A : Nat → Prop} {ids : List Nat} {ad : Nat → Nat} {r : Int} {μ' : Mem} (C : Cx p s m args meth c D (tyl cy) A 3 cX8_addBorder yX8_addBorder.cls none) (hCF : CF ad A s) : ∀ (v1 v2 : Int) (μ : Mem), inR v1 → inR v2 → f_X8_addBorder_63   v1 v2 μ = some (r, μ') → V p l e (rmk 4) s m args below meth c 0 0 (MQ below (aV D (tyl cy) (lay cy) ids ad A r μ') args s 0 0 A) D A (lay cy) ids ad 3 μ 63 [some (rf 8), some (nu v1), some (nu v2)] [] := by
  intro v1 v2 μ hv1 hv2 hf
  unfold f_X8_addBorder_63 at hf
  refine V_in (fun ho0 _ => ?_)
  refine r_aload_n C 0 rfl rfl dX8_addBorder_63 ?_
  refine r_getf C 8 (by decide) rfl (fx_m rfl) (ly_8 cy _ _) rfl in_X8 8 (by decide) tw_269 (v := rf 36) rfl dX8_addBorder_64 ?_
  refine r_iload_n C 2 rfl rfl dX8_addBorder_67 ?_
  refine r_iload_n C 1 rfl rfl dX8_addBorder_68 ?_
  obtain ⟨g1, hf⟩ := of_g hf
  refine r_iast C 36 (by decide) rfl (fx_m rfl) (by decide) 0 (cA := cy 0) (n := 40) (fun f => ly_36 cy _ f) rfl g1 (by decide) hv1 dX8_addBorder_69 (fun μ2 hμ4 => ?_)
  replace hf := of_lm hf hμ4
  refine V_in (fun ho3 _ => ?_)
  refine r_aload_n C 0 rfl rfl dX8_addBorder_70 ?_
  refine r_dup C dX8_addBorder_71 ?_
  refine r_getf C 8 (by decide) rfl (fx_m rfl) (ly_8 cy _ _) rfl in_X8 10 (by decide) tw_271 (v := nu (μ2 8 10)) rfl dX8_addBorder_72 ?_
  refine r_iconst C dX8_addBorder_75 ?_
  refine r_iadd C dX8_addBorder_76 ?_
  obtain ⟨g5, hf⟩ := of_g hf
  refine r_putf C 8 (by decide) rfl (fx_m rfl) (by decide) (ly_8 cy _ _) 10 (ly_8 cy _ _) rfl (Nat.le_of_ble_eq_true rfl) g5 rfl in_X8 tyX8 tyX8_ok nmX8 (by decide) tw_271 rfl rfl dX8_addBorder_77 (fun μ6 hμ8 => ?_)
  replace hf := of_lm hf hμ8
  refine V_in (fun ho7 _ => ?_)
  obtain ⟨-, rfl⟩ := of_ret hf
  exact r_vret C rfl dX8_addBorder_80
set_option maxHeartbeats 4000000 in
set_option maxRecDepth 100000 in
theorem w_X8_addBorder_27 {p : Program} {l : Launch} {e : Env} {s : State} {m : MethodId} {args : Array Value} {below : List Frame} {meth : Method} {c : Code} {D : va_G} {cy : Nat → ClassId} {A : Nat → Prop} {ids : List Nat} {ad : Nat → Nat} {r : Int} {μ' : Mem} (C : Cx p s m args meth c D (tyl cy) A 3 cX8_addBorder yX8_addBorder.cls none) (hCF : CF ad A s) : ∀ n : Nat, ∀ (v1 v2 : Int) (μ : Mem), inR v1 → inR v2 → f_X8_addBorder_27   n v1 v2 μ = some (r, μ') → V p l e (rmk 4) s m args below meth c 0 0 (MQ below (aV D (tyl cy) (lay cy) ids ad A r μ') args s 0 0 A) D A (lay cy) ids ad 3 μ 27 [some (rf 8), some (nu v1), some (nu v2)] [] := by
  intro n
  induction n with
  | zero =>
    intro v1 v2 μ hv1 hv2 hf
    cases hf
  | succ n ih =>
    intro v1 v2 μ hv1 hv2 hf
    rw [f_X8_addBorder_27_e] at hf
    refine V_in (fun ho0 _ => ?_)
    refine r_iload_n C 2 rfl rfl dX8_addBorder_27 ?_
    refine r_if_le C 63 hv2 rfl dX8_addBorder_28 (fun c1 => ?_) (fun c1 => ?_)
    · replace hf := if_t hf c1
      exact V_lw (w_X8_addBorder_63 C hCF v1 v2 μ hv1 hv2 hf) (And.intro rfl (And.intro rfl (And.intro rfl trivial)))
    · replace hf := if_f hf c1
      refine r_aload_n C 0 rfl rfl dX8_addBorder_31 ?_
      refine r_getf C 8 (by decide) rfl (fx_m rfl) (ly_8 cy _ _) rfl in_X8 8 (by decide) tw_269 (v := rf 36) rfl dX8_addBorder_32 ?_
      refine r_iload_n C 2 rfl rfl dX8_addBorder_35 ?_
      refine r_iconst C dX8_addBorder_36 ?_
      refine r_isub C dX8_addBorder_37 ?_
      obtain ⟨g2, hf⟩ := of_g hf
      refine r_iald C 36 (by decide) rfl (fx_m rfl) 0 (cA := cy 0) (n := 40) (ly_36 cy _ _) rfl g2 (by decide) dX8_addBorder_38 ?_
      refine r_iload_n C 1 rfl rfl dX8_addBorder_39 ?_
      refine r_icmp_le C 63 (ho0 _ _) hv1 rfl dX8_addBorder_40 (fun c3 => ?_) (fun c3 => ?_)
      · replace hf := if_t hf c3
        exact V_lw (w_X8_addBorder_63 C hCF v1 v2 μ hv1 hv2 hf) (And.intro rfl (And.intro rfl (And.intro rfl trivial)))
      · replace hf := if_f hf c3
        refine r_aload_n C 0 rfl rfl dX8_addBorder_43 ?_
        refine r_getf C 8 (by decide) rfl (fx_m rfl) (ly_8 cy _ _) rfl in_X8 8 (by decide) tw_269 (v := rf 36) rfl dX8_addBorder_44 ?_
        refine r_iload_n C 2 rfl rfl dX8_addBorder_47 ?_
        refine r_aload_n C 0 rfl rfl dX8_addBorder_48 ?_
        refine r_getf C 8 (by decide) rfl (fx_m rfl) (ly_8 cy _ _) rfl in_X8 8 (by decide) tw_269 (v := rf 36) rfl dX8_addBorder_49 ?_
        refine r_iload_n C 2 rfl rfl dX8_addBorder_52 ?_
        refine r_iconst C dX8_addBorder_53 ?_
        refine r_isub C dX8_addBorder_54 ?_
        refine r_iald C 36 (by decide) rfl (fx_m rfl) 0 (cA := cy 0) (n := 40) (ly_36 cy _ _) rfl g2 (by decide) dX8_addBorder_55 ?_
        obtain ⟨g4, hf⟩ := of_g hf
        refine r_iast C 36 (by decide) rfl (fx_m rfl) (by decide) 0 (cA := cy 0) (n := 40) (fun f => ly_36 cy _ f) rfl g4 (by decide) (ho0 _ _) dX8_addBorder_56 (fun μ5 hμ7 => ?_)
        replace hf := of_lm hf hμ7
        refine V_in (fun ho6 _ => ?_)
        refine r_iinc C rfl (lw := [some (rf 8), some (nu v1), some (nu (v2 + (-1)))]) rfl (by decide) dX8_addBorder_57 ?_
        refine r_goto C 27 rfl dX8_addBorder_60 ?_
        obtain ⟨g8, hf⟩ := of_g hf
        exact V_lw (ih v1 (v2 + (-1)) μ5 hv1 g8 hf) (And.intro rfl (And.intro rfl (And.intro rfl trivial)))
set_option maxHeartbeats 4000000 in
set_option maxRecDepth 100000 in
theorem c_X8_addBorder {l : Launch} {D : va_G} {cy : Nat → ClassId} {ids : List Nat} {ad : Nat → Nat} {μ μ' : Mem} {a1 r : Int} (h1 : inR a1) (hf : f_X8_addBorder μ a1 = some (r, μ')) : KK aV l D (tyl cy) (lay cy) ids ad 4 yX8_addBorder cX8_addBorder 3 none [rf 8, nu a1] μ r μ' := by
  refine KK.of (by decide +kernel) (Nat.le_of_ble_eq_true rfl) ?_
  intro p e s m args below meth c A C hCF
  unfold f_X8_addBorder at hf
  refine V_in (fun ho0 _ => ?_)
  refine r_aload_n C 0 rfl rfl dX8_addBorder_0 ?_
  refine r_iload_n C 1 rfl rfl dX8_addBorder_1 ?_
  obtain ⟨r1, μ2, hc3, hf⟩ := of_bd hf
  refine r_callVI C hCF (As := [nu a1]) 8 (by decide) rfl (fx_m rfl) (ly_8 cy _ _) rfl (c_X8_borderAt h1 hc3) rfl (by decide) (by decide) ⟨Nat.le_refl 0, Nat.le_refl 0⟩ tw_846 tw_849 tw_9 tw_848 ts_35 1 (by decide) rfl (Nat.le_of_ble_eq_true rfl) dX8_addBorder_2 (fun hr5 => ?_)
  refine V_in (fun ho4 _ => ?_)
  refine r_iconst C dX8_addBorder_5 ?_
  refine r_icmp_ne C 21 hr5 (inR_lit rfl) rfl dX8_addBorder_6 (fun c6 => ?_) (fun c6 => ?_)
  · replace hf := if_f hf c6
    obtain ⟨-, rfl⟩ := of_ret hf
    exact r_vret C rfl dX8_addBorder_21
  · replace hf := if_t hf c6
    refine r_aload_n C 0 rfl rfl dX8_addBorder_9 ?_
    refine r_getf C 8 (by decide) rfl (fx_m rfl) (ly_8 cy _ _) rfl in_X8 10 (by decide) tw_271 (v := nu (μ2 8 10)) rfl dX8_addBorder_10 ?_
    refine r_aload_n C 0 rfl rfl dX8_addBorder_13 ?_
    refine r_getf C 8 (by decide) rfl (fx_m rfl) (ly_8 cy _ _) rfl in_X8 8 (by decide) tw_269 (v := rf 36) rfl dX8_addBorder_14 ?_
    refine r_alen C 36 (by decide) rfl (fx_m rfl) 0 (cA := cy 0) (n := 40) (ly_36 cy _ _) rfl dX8_addBorder_17 ?_
    refine r_icmp_lt C 22 (ho4 _ _) (inR_lit rfl) rfl dX8_addBorder_18 (fun c7 => ?_) (fun c7 => ?_)
    · replace hf := if_t hf c7
      refine r_aload_n C 0 rfl rfl dX8_addBorder_22 ?_
      refine r_getf C 8 (by decide) rfl (fx_m rfl) (ly_8 cy _ _) rfl in_X8 10 (by decide) tw_271 (v := nu (μ2 8 10)) rfl dX8_addBorder_23 ?_
      refine r_istore_n C 2 (lw := [some (rf 8), some (nu a1), some (nu (μ2 8 10))]) rfl rfl (by decide) dX8_addBorder_26 ?_
      exact V_lw (w_X8_addBorder_27 C hCF 64 a1 (μ2 8 10) μ2 h1 (ho4 _ _) hf) (And.intro rfl (And.intro rfl (And.intro rfl trivial)))
    · replace hf := if_f hf c7
      obtain ⟨-, rfl⟩ := of_ret hf
      exact r_vret C rfl dX8_addBorder_21
set_option maxHeartbeats 4000000 in
set_option maxRecDepth 100000 in
theorem w_X8_findBorders_25 {p : Program} {l : Launch} {e : Env} {s : State} {m : MethodId} {args : Array Value} {below : List Frame} {meth : Method} {c : Code} {D : va_G} {cy : Nat → ClassId} {A : Nat → Prop} {ids : List Nat} {ad : Nat → Nat} {r : Int} {μ' : Mem} (C : Cx p s m args meth c D (tyl cy) A 3 cX8_findBorders yX8_findBorders.cls none) (hCF : CF ad A s) : ∀ n : Nat, ∀ (v1 v2 : Int) (μ : Mem), inR v1 → inR v2 → f_X8_findBorders_25   n v1 v2 μ = some (r, μ') → V p l e (rmk 4) s m args below meth c 0 0 (MQ below (aV D (tyl cy) (lay cy) ids ad A r μ') args s 0 0 A) D A (lay cy) ids ad 3 μ 25 [some (rf 8), some (nu v1), some (nu v2)] [] := by
  intro n
  induction n with
  | zero =>
    intro v1 v2 μ hv1 hv2 hf
    cases hf
  | succ n ih =>
    intro v1 v2 μ hv1 hv2 hf
    rw [f_X8_findBorders_25_e] at hf
    refine V_in (fun ho0 _ => ?_)
    refine r_iload_n C 2 rfl rfl dX8_findBorders_25 ?_
    refine r_aload_n C 0 rfl rfl dX8_findBorders_26 ?_
    refine r_getf C 8 (by decide) rfl (fx_m rfl) (ly_8 cy _ _) rfl in_X8 5 (by decide) tw_265 (v := nu (μ 8 5)) rfl dX8_findBorders_27 ?_
    refine r_icmp_ge C 89 hv2 (ho0 _ _) rfl dX8_findBorders_30 (fun c1 => ?_) (fun c1 => ?_)
    · replace hf := if_t hf c1
      obtain ⟨-, rfl⟩ := of_ret hf
      exact r_vret C rfl dX8_findBorders_89
    · replace hf := if_f hf c1
      refine r_iload_n C 1 rfl rfl dX8_findBorders_33 ?_
      refine r_iconst C dX8_findBorders_34 ?_
      refine r_iload_n C 2 rfl rfl dX8_findBorders_35 ?_
      refine r_ishl C dX8_findBorders_36 ?_
      refine r_iand C dX8_findBorders_37 ?_
      refine r_if_eq C 83 (zI_rng _) rfl dX8_findBorders_38 (fun c2 => ?_) (fun c2 => ?_)
      · replace hf := if_t hf c2
        refine r_iinc C rfl (lw := [some (rf 8), some (nu v1), some (nu (v2 + 1))]) rfl (by decide) dX8_findBorders_83 ?_
        refine r_goto C 25 rfl dX8_findBorders_86 ?_
        obtain ⟨g3, hf⟩ := of_g hf
        exact V_lw (ih v1 (v2 + 1) μ hv1 g3 hf) (And.intro rfl (And.intro rfl (And.intro rfl trivial)))
      · replace hf := if_f hf c2
        refine r_aload_n C 0 rfl rfl dX8_findBorders_41 ?_
        refine r_getf C 8 (by decide) rfl (fx_m rfl) (ly_8 cy _ _) rfl in_X8 11 (by decide) tw_272 (v := rf 38) rfl dX8_findBorders_42 ?_
        refine r_iload_n C 2 rfl rfl dX8_findBorders_45 ?_
        refine r_iconst C dX8_findBorders_46 ?_
        refine r_aload_n C 0 rfl rfl dX8_findBorders_47 ?_
        refine r_aload_n C 0 rfl rfl dX8_findBorders_48 ?_
        refine r_getf C 8 (by decide) rfl (fx_m rfl) (ly_8 cy _ _) rfl in_X8 2 (by decide) tw_262 (v := rf 33) rfl dX8_findBorders_49 ?_
        refine r_iload_n C 2 rfl rfl dX8_findBorders_52 ?_
        obtain ⟨g4, hf⟩ := of_g hf
        refine r_iald C 33 (by decide) rfl (fx_m rfl) 0 (cA := cy 0) (n := 20) (ly_33 cy _ _) rfl g4 (by decide) dX8_findBorders_53 ?_
        obtain ⟨r5, μ6, hc7, hf⟩ := of_bd hf
        refine r_callVI C hCF (As := [nu (μ 33 v2.toNat)]) 8 (by decide) rfl (fx_m rfl) (ly_8 cy _ _) rfl (c_X8_borderAt (ho0 _ _) hc7) rfl (by decide) (by decide) ⟨Nat.le_refl 0, Nat.le_refl 0⟩ tw_846 tw_849 tw_9 tw_848 ts_35 1 (by decide) rfl (Nat.le_of_ble_eq_true rfl) dX8_findBorders_54 (fun hr9 => ?_)
        refine V_in (fun ho8 _ => ?_)
        obtain ⟨r10, μ11, hc12, hf⟩ := of_bd hf
        refine r_callSI C hCF (As := [nu 0, nu r5]) (c_J9_max_7cf53 (inR_lit rfl) hr9 hc12) rfl (by decide) (by decide) ⟨Nat.le_refl 0, Nat.le_refl 0⟩ tw_854 tw_397 tw_12 tw_396 2 (by decide) rfl (Nat.le_of_ble_eq_true rfl) dX8_findBorders_57 (fun hr14 => ?_)
        refine V_in (fun ho13 _ => ?_)
        refine r_iast C 38 (by decide) rfl (fx_m rfl) (by decide) 0 (cA := cy 0) (n := 20) (fun f => ly_38 cy _ f) rfl g4 (by decide) hr14 dX8_findBorders_60 (fun μ15 hμ17 => ?_)
        replace hf := of_lm hf hμ17
        refine V_in (fun ho16 _ => ?_)
        refine r_aload_n C 0 rfl rfl dX8_findBorders_61 ?_
        refine r_getf C 8 (by decide) rfl (fx_m rfl) (ly_8 cy _ _) rfl in_X8 12 (by decide) tw_273 (v := rf 39) rfl dX8_findBorders_62 ?_
        refine r_iload_n C 2 rfl rfl dX8_findBorders_65 ?_
        refine r_iconst C dX8_findBorders_66 ?_
        refine r_aload_n C 0 rfl rfl dX8_findBorders_67 ?_
        refine r_aload_n C 0 rfl rfl dX8_findBorders_68 ?_
        refine r_getf C 8 (by decide) rfl (fx_m rfl) (ly_8 cy _ _) rfl in_X8 3 (by decide) tw_263 (v := rf 34) rfl dX8_findBorders_69 ?_
        refine r_iload_n C 2 rfl rfl dX8_findBorders_72 ?_
        refine r_iald C 34 (by decide) rfl (fx_m rfl) 0 (cA := cy 0) (n := 20) (ly_34 cy _ _) rfl g4 (by decide) dX8_findBorders_73 ?_
        refine r_iconst C dX8_findBorders_74 ?_
        refine r_iadd C dX8_findBorders_75 ?_
        obtain ⟨g18, hf⟩ := of_g hf
        obtain ⟨r19, μ20, hc21, hf⟩ := of_bd hf
        refine r_callVI C hCF (As := [nu ((μ15 34 v2.toNat) + 1)]) 8 (by decide) rfl (fx_m rfl) (ly_8 cy _ _) rfl (c_X8_borderAt g18 hc21) rfl (by decide) (by decide) ⟨Nat.le_refl 0, Nat.le_refl 0⟩ tw_846 tw_849 tw_9 tw_848 ts_35 1 (by decide) rfl (Nat.le_of_ble_eq_true rfl) dX8_findBorders_76 (fun hr23 => ?_)
        refine V_in (fun ho22 _ => ?_)
        obtain ⟨r24, μ25, hc26, hf⟩ := of_bd hf
        refine r_callSI C hCF (As := [nu 0, nu r19]) (c_J9_max_7cf53 (inR_lit rfl) hr23 hc26) rfl (by decide) (by decide) ⟨Nat.le_refl 0, Nat.le_refl 0⟩ tw_854 tw_397 tw_12 tw_396 2 (by decide) rfl (Nat.le_of_ble_eq_true rfl) dX8_findBorders_79 (fun hr28 => ?_)
        refine V_in (fun ho27 _ => ?_)
        refine r_iast C 39 (by decide) rfl (fx_m rfl) (by decide) 0 (cA := cy 0) (n := 20) (fun f => ly_39 cy _ f) rfl g4 (by decide) hr28 dX8_findBorders_82 (fun μ29 hμ31 => ?_)
        replace hf := of_lm hf hμ31
        refine V_in (fun ho30 _ => ?_)
        refine r_iinc C rfl (lw := [some (rf 8), some (nu v1), some (nu (v2 + 1))]) rfl (by decide) dX8_findBorders_83 ?_
        refine r_goto C 25 rfl dX8_findBorders_86 ?_
        obtain ⟨g32, hf⟩ := of_g hf
        exact V_lw (ih v1 (v2 + 1) μ29 hv1 g32 hf) (And.intro rfl (And.intro rfl (And.intro rfl trivial)))
set_option maxHeartbeats 4000000 in
set_option maxRecDepth 100000 in
theorem w_X8_findBorders_2 {p : Program} {l : Launch} {e : Env} {s : State} {m : MethodId} {args : Array Value} {below : List Frame} {meth : Method} {c : Code} {D : va_G} {cy : Nat → ClassId} {A : Nat → Prop} {ids : List Nat} {ad : Nat → Nat} {r : Int} {μ' : Mem} (C : Cx p s m args meth c D (tyl cy) A 3 cX8_findBorders yX8_findBorders.cls none) (hCF : CF ad A s) : ∀ n : Nat, ∀ (v1 v2 : Int) (μ : Mem), inR v1 → inR v2 → f_X8_findBorders_2   n v1 v2 μ = some (r, μ') → V p l e (rmk 4) s m args below meth c 0 0 (MQ below (aV D (tyl cy) (lay cy) ids ad A r μ') args s 0 0 A) D A (lay cy) ids ad 3 μ 2 [some (rf 8), some (nu v1), some (nu v2)] [] := by
  intro n
  induction n with
  | zero =>
    intro v1 v2 μ hv1 hv2 hf
    cases hf
  | succ n ih =>
    intro v1 v2 μ hv1 hv2 hf
    rw [f_X8_findBorders_2_e] at hf
    refine V_in (fun ho0 _ => ?_)
    refine r_iload_n C 2 rfl rfl dX8_findBorders_2 ?_
    refine r_aload_n C 0 rfl rfl dX8_findBorders_3 ?_
    refine r_getf C 8 (by decide) rfl (fx_m rfl) (ly_8 cy _ _) rfl in_X8 10 (by decide) tw_271 (v := nu (μ 8 10)) rfl dX8_findBorders_4 ?_
    refine r_icmp_ge C 23 hv2 (ho0 _ _) rfl dX8_findBorders_7 (fun c1 => ?_) (fun c1 => ?_)
    · replace hf := if_t hf c1
      refine r_iconst C dX8_findBorders_23 ?_
      refine r_istore_n C 2 (lw := [some (rf 8), some (nu v1), some (nu 0)]) rfl rfl (by decide) dX8_findBorders_24 ?_
      exact V_lw (w_X8_findBorders_25 C hCF 64 v1 0 μ hv1 (inR_lit rfl) hf) (And.intro rfl (And.intro rfl (And.intro rfl trivial)))
    · replace hf := if_f hf c1
      refine r_aload_n C 0 rfl rfl dX8_findBorders_10 ?_
      refine r_getf C 8 (by decide) rfl (fx_m rfl) (ly_8 cy _ _) rfl in_X8 9 (by decide) tw_270 (v := rf 37) rfl dX8_findBorders_11 ?_
      refine r_iload_n C 2 rfl rfl dX8_findBorders_14 ?_
      refine r_iconst C dX8_findBorders_15 ?_
      obtain ⟨g2, hf⟩ := of_g hf
      refine r_iast C 37 (by decide) rfl (fx_m rfl) (by decide) 0 (cA := cy 0) (n := 40) (fun f => ly_37 cy _ f) rfl g2 (by decide) (inR_lit rfl) dX8_findBorders_16 (fun μ3 hμ5 => ?_)
      replace hf := of_lm hf hμ5
      refine V_in (fun ho4 _ => ?_)
      refine r_iinc C rfl (lw := [some (rf 8), some (nu v1), some (nu (v2 + 1))]) rfl (by decide) dX8_findBorders_17 ?_
      refine r_goto C 2 rfl dX8_findBorders_20 ?_
      obtain ⟨g6, hf⟩ := of_g hf
      exact V_lw (ih v1 (v2 + 1) μ3 hv1 g6 hf) (And.intro rfl (And.intro rfl (And.intro rfl trivial)))
set_option maxHeartbeats 4000000 in
set_option maxRecDepth 100000 in
theorem c_X8_findBorders {l : Launch} {D : va_G} {cy : Nat → ClassId} {ids : List Nat} {ad : Nat → Nat} {μ μ' : Mem} {a1 r : Int} (h1 : inR a1) (hf : f_X8_findBorders μ a1 = some (r, μ')) : KK aV l D (tyl cy) (lay cy) ids ad 4 yX8_findBorders cX8_findBorders 3 none [rf 8, nu a1] μ r μ' := by
  refine KK.of (by decide +kernel) (Nat.le_of_ble_eq_true rfl) ?_
  intro p e s m args below meth c A C hCF
  unfold f_X8_findBorders at hf
  refine V_in (fun ho0 _ => ?_)
  refine r_iconst C dX8_findBorders_0 ?_
  refine r_istore_n C 2 (lw := [some (rf 8), some (nu a1), some (nu 0)]) rfl rfl (by decide) dX8_findBorders_1 ?_
  exact V_lw (w_X8_findBorders_2 C hCF 64 a1 0 μ h1 (inR_lit rfl) hf) (And.intro rfl (And.intro rfl (And.intro rfl trivial)))
set_option maxHeartbeats 4000000 in
set_option maxRecDepth 100000 in
theorem c_X8_raiseTo {l : Launch} {D : va_G} {cy : Nat → ClassId} {ids : List Nat} {ad : Nat → Nat} {μ μ' : Mem} {a1 a2 r : Int} (h1 : inR a1) (h2 : inR a2) (hf : f_X8_raiseTo μ a1 a2 = some (r, μ')) : KK aI l D (tyl cy) (lay cy) ids ad 2 yX8_raiseTo cX8_raiseTo 3 (some .boolean) [rf 8, nu a1, nu a2] μ r μ' := by
  refine KK.of (by decide +kernel) (Nat.le_of_ble_eq_true rfl) ?_
  intro p e s m args below meth c A C hCF
  unfold f_X8_raiseTo at hf
  refine V_in (fun ho0 _ => ?_)
  refine r_aload_n C 0 rfl rfl dX8_raiseTo_0 ?_
  refine r_getf C 8 (by decide) rfl (fx_m rfl) (ly_8 cy _ _) rfl in_X8 9 (by decide) tw_270 (v := rf 37) rfl dX8_raiseTo_1 ?_
  refine r_iload_n C 1 rfl rfl dX8_raiseTo_4 ?_
  obtain ⟨g1, hf⟩ := of_g hf
  refine r_iald C 37 (by decide) rfl (fx_m rfl) 0 (cA := cy 0) (n := 40) (ly_37 cy _ _) rfl g1 (by decide) dX8_raiseTo_5 ?_
  refine r_iload_n C 2 rfl rfl dX8_raiseTo_6 ?_
  refine r_icmp_lt C 12 (ho0 _ _) h2 rfl dX8_raiseTo_7 (fun c2 => ?_) (fun c2 => ?_)
  · replace hf := if_t hf c2
    refine r_aload_n C 0 rfl rfl dX8_raiseTo_12 ?_
    refine r_getf C 8 (by decide) rfl (fx_m rfl) (ly_8 cy _ _) rfl in_X8 9 (by decide) tw_270 (v := rf 37) rfl dX8_raiseTo_13 ?_
    refine r_iload_n C 1 rfl rfl dX8_raiseTo_16 ?_
    refine r_iload_n C 2 rfl rfl dX8_raiseTo_17 ?_
    refine r_iast C 37 (by decide) rfl (fx_m rfl) (by decide) 0 (cA := cy 0) (n := 40) (fun f => ly_37 cy _ f) rfl g1 (by decide) h2 dX8_raiseTo_18 (fun μ3 hμ5 => ?_)
    replace hf := of_lm hf hμ5
    refine V_in (fun ho4 _ => ?_)
    refine r_iconst C dX8_raiseTo_19 ?_
    obtain ⟨rfl, rfl⟩ := of_ret hf
    exact r_zret C rfl (by decide) dX8_raiseTo_20
  · replace hf := if_f hf c2
    refine r_iconst C dX8_raiseTo_10 ?_
    obtain ⟨rfl, rfl⟩ := of_ret hf
    exact r_zret C rfl (by decide) dX8_raiseTo_11
set_option maxHeartbeats 4000000 in
set_option maxRecDepth 100000 in
theorem w_X8_raiseNumbers_36 {p : Program} {l : Launch} {e : Env} {s : State} {m : MethodId} {args : Array Value} {below : List Frame} {meth : Method} {c : Code} {D : va_G} {cy : Nat → ClassId} {A : Nat → Prop} {ids : List Nat} {ad : Nat → Nat} {r : Int} {μ' : Mem} (C : Cx p s m args meth c D (tyl cy) A 4 cX8_raiseNumbers yX8_raiseNumbers.cls (some .boolean)) (hCF : CF ad A s) : ∀ n : Nat, ∀ (v1 v2 v3 : Int) (μ : Mem), inR v1 → inR v2 → inR v3 → f_X8_raiseNumbers_36   n v1 v2 v3 μ = some (r, μ') → V p l e (rmk 4) s m args below meth c 0 0 (MQ below (aI D (tyl cy) (lay cy) ids ad A r μ') args s 0 0 A) D A (lay cy) ids ad 4 μ 36 [some (rf 8), some (nu v1), some (nu v2), some (nu v3)] [] := by
  intro n
  induction n with
  | zero =>
    intro v1 v2 v3 μ hv1 hv2 hv3 hf
    cases hf
  | succ n ih =>
    intro v1 v2 v3 μ hv1 hv2 hv3 hf
    rw [f_X8_raiseNumbers_36_e] at hf
    refine V_in (fun ho0 _ => ?_)
    refine r_iload_n C 3 rfl rfl dX8_raiseNumbers_36 ?_
    refine r_aload_n C 0 rfl rfl dX8_raiseNumbers_37 ?_
    refine r_getf C 8 (by decide) rfl (fx_m rfl) (ly_8 cy _ _) rfl in_X8 5 (by decide) tw_265 (v := nu (μ 8 5)) rfl dX8_raiseNumbers_38 ?_
    refine r_icmp_ge C 120 hv3 (ho0 _ _) rfl dX8_raiseNumbers_41 (fun c1 => ?_) (fun c1 => ?_)
    · replace hf := if_t hf c1
      refine r_iload_n C 2 rfl rfl dX8_raiseNumbers_120 ?_
      obtain ⟨g2, hf⟩ := of_g hf
      obtain ⟨rfl, rfl⟩ := of_ret hf
      exact r_zret C rfl g2 dX8_raiseNumbers_121
    · replace hf := if_f hf c1
      refine r_iload_n C 1 rfl rfl dX8_raiseNumbers_44 ?_
      refine r_iconst C dX8_raiseNumbers_45 ?_
      refine r_iload_n C 3 rfl rfl dX8_raiseNumbers_46 ?_
      refine r_ishl C dX8_raiseNumbers_47 ?_
      refine r_iand C dX8_raiseNumbers_48 ?_
      refine r_if_eq C 114 (zI_rng _) rfl dX8_raiseNumbers_49 (fun c3 => ?_) (fun c3 => ?_)
      · replace hf := if_t hf c3
        refine r_iinc C rfl (lw := [some (rf 8), some (nu v1), some (nu v2), some (nu (v3 + 1))]) rfl (by decide) dX8_raiseNumbers_114 ?_
        refine r_goto C 36 rfl dX8_raiseNumbers_117 ?_
        obtain ⟨g4, hf⟩ := of_g hf
        exact V_lw (ih v1 v2 (v3 + 1) μ hv1 hv2 g4 hf) (And.intro rfl (And.intro rfl (And.intro rfl (And.intro rfl trivial))))
      · replace hf := if_f hf c3
        refine r_iload_n C 2 rfl rfl dX8_raiseNumbers_52 ?_
        refine r_aload_n C 0 rfl rfl dX8_raiseNumbers_53 ?_
        refine r_aload_n C 0 rfl rfl dX8_raiseNumbers_54 ?_
        refine r_getf C 8 (by decide) rfl (fx_m rfl) (ly_8 cy _ _) rfl in_X8 12 (by decide) tw_273 (v := rf 39) rfl dX8_raiseNumbers_55 ?_
        refine r_iload_n C 3 rfl rfl dX8_raiseNumbers_58 ?_
        obtain ⟨g5, hf⟩ := of_g hf
        refine r_iald C 39 (by decide) rfl (fx_m rfl) 0 (cA := cy 0) (n := 20) (ly_39 cy _ _) rfl g5 (by decide) dX8_raiseNumbers_59 ?_
        refine r_aload_n C 0 rfl rfl dX8_raiseNumbers_60 ?_
        refine r_getf C 8 (by decide) rfl (fx_m rfl) (ly_8 cy _ _) rfl in_X8 9 (by decide) tw_270 (v := rf 37) rfl dX8_raiseNumbers_61 ?_
        refine r_aload_n C 0 rfl rfl dX8_raiseNumbers_64 ?_
        refine r_getf C 8 (by decide) rfl (fx_m rfl) (ly_8 cy _ _) rfl in_X8 11 (by decide) tw_272 (v := rf 38) rfl dX8_raiseNumbers_65 ?_
        refine r_iload_n C 3 rfl rfl dX8_raiseNumbers_68 ?_
        refine r_iald C 38 (by decide) rfl (fx_m rfl) 0 (cA := cy 0) (n := 20) (ly_38 cy _ _) rfl g5 (by decide) dX8_raiseNumbers_69 ?_
        obtain ⟨g6, hf⟩ := of_g hf
        refine r_iald C 37 (by decide) rfl (fx_m rfl) 0 (cA := cy 0) (n := 40) (ly_37 cy _ _) rfl g6 (by decide) dX8_raiseNumbers_70 ?_
        refine r_aload_n C 0 rfl rfl dX8_raiseNumbers_71 ?_
        refine r_getf C 8 (by decide) rfl (fx_m rfl) (ly_8 cy _ _) rfl in_X8 4 (by decide) tw_264 (v := rf 35) rfl dX8_raiseNumbers_72 ?_
        refine r_iload_n C 3 rfl rfl dX8_raiseNumbers_75 ?_
        refine r_iald C 35 (by decide) rfl (fx_m rfl) 0 (cA := cy 0) (n := 20) (ly_35 cy _ _) rfl g5 (by decide) dX8_raiseNumbers_76 ?_
        refine r_iadd C dX8_raiseNumbers_77 ?_
        obtain ⟨g7, hf⟩ := of_g hf
        obtain ⟨r8, μ9, hc10, hf⟩ := of_bd hf
        refine r_callVI C hCF (As := [nu (μ 39 v3.toNat), nu ((μ 37 (μ 38 v3.toNat).toNat) + (μ 35 v3.toNat))]) 8 (by decide) rfl (fx_m rfl) (ly_8 cy _ _) rfl (c_X8_raiseTo (ho0 _ _) g7 hc10) rfl (by decide) (by decide) ⟨Nat.le_refl 0, Nat.le_refl 0⟩ tw_859 tw_862 tw_9 tw_861 ts_38 2 (by decide) rfl (Nat.le_of_ble_eq_true rfl) dX8_raiseNumbers_78 (fun hr12 => ?_)
        refine V_in (fun ho11 _ => ?_)
        refine r_ior C dX8_raiseNumbers_81 ?_
        refine r_istore_n C 2 (lw := [some (rf 8), some (nu v1), some (nu (zor v2 r8)), some (nu v3)]) rfl rfl (by decide) dX8_raiseNumbers_82 ?_
        refine r_iload_n C 2 rfl rfl dX8_raiseNumbers_83 ?_
        refine r_aload_n C 0 rfl rfl dX8_raiseNumbers_84 ?_
        refine r_aload_n C 0 rfl rfl dX8_raiseNumbers_85 ?_
        refine r_getf C 8 (by decide) rfl (fx_m rfl) (ly_8 cy _ _) rfl in_X8 11 (by decide) tw_272 (v := rf 38) rfl dX8_raiseNumbers_86 ?_
        refine r_iload_n C 3 rfl rfl dX8_raiseNumbers_89 ?_
        refine r_iald C 38 (by decide) rfl (fx_m rfl) 0 (cA := cy 0) (n := 20) (ly_38 cy _ _) rfl g5 (by decide) dX8_raiseNumbers_90 ?_
        refine r_aload_n C 0 rfl rfl dX8_raiseNumbers_91 ?_
        refine r_getf C 8 (by decide) rfl (fx_m rfl) (ly_8 cy _ _) rfl in_X8 9 (by decide) tw_270 (v := rf 37) rfl dX8_raiseNumbers_92 ?_
        refine r_aload_n C 0 rfl rfl dX8_raiseNumbers_95 ?_
        refine r_getf C 8 (by decide) rfl (fx_m rfl) (ly_8 cy _ _) rfl in_X8 12 (by decide) tw_273 (v := rf 39) rfl dX8_raiseNumbers_96 ?_
        refine r_iload_n C 3 rfl rfl dX8_raiseNumbers_99 ?_
        refine r_iald C 39 (by decide) rfl (fx_m rfl) 0 (cA := cy 0) (n := 20) (ly_39 cy _ _) rfl g5 (by decide) dX8_raiseNumbers_100 ?_
        obtain ⟨g13, hf⟩ := of_g hf
        refine r_iald C 37 (by decide) rfl (fx_m rfl) 0 (cA := cy 0) (n := 40) (ly_37 cy _ _) rfl g13 (by decide) dX8_raiseNumbers_101 ?_
        refine r_aload_n C 0 rfl rfl dX8_raiseNumbers_102 ?_
        refine r_getf C 8 (by decide) rfl (fx_m rfl) (ly_8 cy _ _) rfl in_X8 4 (by decide) tw_264 (v := rf 35) rfl dX8_raiseNumbers_103 ?_
        refine r_iload_n C 3 rfl rfl dX8_raiseNumbers_106 ?_
        refine r_iald C 35 (by decide) rfl (fx_m rfl) 0 (cA := cy 0) (n := 20) (ly_35 cy _ _) rfl g5 (by decide) dX8_raiseNumbers_107 ?_
        refine r_isub C dX8_raiseNumbers_108 ?_
        obtain ⟨g14, hf⟩ := of_g hf
        obtain ⟨r15, μ16, hc17, hf⟩ := of_bd hf
        refine r_callVI C hCF (As := [nu (μ9 38 v3.toNat), nu ((μ9 37 (μ9 39 v3.toNat).toNat) - (μ9 35 v3.toNat))]) 8 (by decide) rfl (fx_m rfl) (ly_8 cy _ _) rfl (c_X8_raiseTo (ho11 _ _) g14 hc17) rfl (by decide) (by decide) ⟨Nat.le_refl 0, Nat.le_refl 0⟩ tw_859 tw_862 tw_9 tw_861 ts_38 2 (by decide) rfl (Nat.le_of_ble_eq_true rfl) dX8_raiseNumbers_109 (fun hr19 => ?_)
        refine V_in (fun ho18 _ => ?_)
        refine r_ior C dX8_raiseNumbers_112 ?_
        refine r_istore_n C 2 (lw := [some (rf 8), some (nu v1), some (nu (zor (zor v2 r8) r15)), some (nu v3)]) rfl rfl (by decide) dX8_raiseNumbers_113 ?_
        refine r_iinc C rfl (lw := [some (rf 8), some (nu v1), some (nu (zor (zor v2 r8) r15)), some (nu (v3 + 1))]) rfl (by decide) dX8_raiseNumbers_114 ?_
        refine r_goto C 36 rfl dX8_raiseNumbers_117 ?_
        obtain ⟨g20, hf⟩ := of_g hf
        exact V_lw (ih v1 (zor (zor v2 r8) r15) (v3 + 1) μ16 hv1 (zI_rng _) g20 hf) (And.intro rfl (And.intro rfl (And.intro rfl (And.intro rfl trivial))))
set_option maxHeartbeats 4000000 in
set_option maxRecDepth 100000 in
theorem w_X8_raiseNumbers_4 {p : Program} {l : Launch} {e : Env} {s : State} {m : MethodId} {args : Array Value} {below : List Frame} {meth : Method} {c : Code} {D : va_G} {cy : Nat → ClassId} {A : Nat → Prop} {ids : List Nat} {ad : Nat → Nat} {r : Int} {μ' : Mem} (C : Cx p s m args meth c D (tyl cy) A 4 cX8_raiseNumbers yX8_raiseNumbers.cls (some .boolean)) (hCF : CF ad A s) : ∀ n : Nat, ∀ (v1 v2 v3 : Int) (μ : Mem), inR v1 → inR v2 → inR v3 → f_X8_raiseNumbers_4   n v1 v2 v3 μ = some (r, μ') → V p l e (rmk 4) s m args below meth c 0 0 (MQ below (aI D (tyl cy) (lay cy) ids ad A r μ') args s 0 0 A) D A (lay cy) ids ad 4 μ 4 [some (rf 8), some (nu v1), some (nu v2), some (nu v3)] [] := by
  intro n
  induction n with
  | zero =>
    intro v1 v2 v3 μ hv1 hv2 hv3 hf
    cases hf
  | succ n ih =>
    intro v1 v2 v3 μ hv1 hv2 hv3 hf
    rw [f_X8_raiseNumbers_4_e] at hf
    refine V_in (fun ho0 _ => ?_)
    refine r_iload_n C 3 rfl rfl dX8_raiseNumbers_4 ?_
    refine r_aload_n C 0 rfl rfl dX8_raiseNumbers_5 ?_
    refine r_getf C 8 (by decide) rfl (fx_m rfl) (ly_8 cy _ _) rfl in_X8 10 (by decide) tw_271 (v := nu (μ 8 10)) rfl dX8_raiseNumbers_6 ?_
    refine r_icmp_ge C 34 hv3 (ho0 _ _) rfl dX8_raiseNumbers_9 (fun c1 => ?_) (fun c1 => ?_)
    · replace hf := if_t hf c1
      refine r_iconst C dX8_raiseNumbers_34 ?_
      refine r_istore_n C 3 (lw := [some (rf 8), some (nu v1), some (nu v2), some (nu 0)]) rfl rfl (by decide) dX8_raiseNumbers_35 ?_
      exact V_lw (w_X8_raiseNumbers_36 C hCF 64 v1 v2 0 μ hv1 hv2 (inR_lit rfl) hf) (And.intro rfl (And.intro rfl (And.intro rfl (And.intro rfl trivial))))
    · replace hf := if_f hf c1
      refine r_iload_n C 2 rfl rfl dX8_raiseNumbers_12 ?_
      refine r_aload_n C 0 rfl rfl dX8_raiseNumbers_13 ?_
      refine r_iload_n C 3 rfl rfl dX8_raiseNumbers_14 ?_
      refine r_aload_n C 0 rfl rfl dX8_raiseNumbers_15 ?_
      refine r_getf C 8 (by decide) rfl (fx_m rfl) (ly_8 cy _ _) rfl in_X8 9 (by decide) tw_270 (v := rf 37) rfl dX8_raiseNumbers_16 ?_
      refine r_iload_n C 3 rfl rfl dX8_raiseNumbers_19 ?_
      refine r_iconst C dX8_raiseNumbers_20 ?_
      refine r_isub C dX8_raiseNumbers_21 ?_
      obtain ⟨g2, hf⟩ := of_g hf
      refine r_iald C 37 (by decide) rfl (fx_m rfl) 0 (cA := cy 0) (n := 40) (ly_37 cy _ _) rfl g2 (by decide) dX8_raiseNumbers_22 ?_
      obtain ⟨r3, μ4, hc5, hf⟩ := of_bd hf
      refine r_callVI C hCF (As := [nu v3, nu (μ 37 (v3 - 1).toNat)]) 8 (by decide) rfl (fx_m rfl) (ly_8 cy _ _) rfl (c_X8_raiseTo hv3 (ho0 _ _) hc5) rfl (by decide) (by decide) ⟨Nat.le_refl 0, Nat.le_refl 0⟩ tw_859 tw_862 tw_9 tw_861 ts_38 2 (by decide) rfl (Nat.le_of_ble_eq_true rfl) dX8_raiseNumbers_23 (fun hr7 => ?_)
      refine V_in (fun ho6 _ => ?_)
      refine r_ior C dX8_raiseNumbers_26 ?_
      refine r_istore_n C 2 (lw := [some (rf 8), some (nu v1), some (nu (zor v2 r3)), some (nu v3)]) rfl rfl (by decide) dX8_raiseNumbers_27 ?_
      refine r_iinc C rfl (lw := [some (rf 8), some (nu v1), some (nu (zor v2 r3)), some (nu (v3 + 1))]) rfl (by decide) dX8_raiseNumbers_28 ?_
      refine r_goto C 4 rfl dX8_raiseNumbers_31 ?_
      obtain ⟨g8, hf⟩ := of_g hf
      exact V_lw (ih v1 (zor v2 r3) (v3 + 1) μ4 hv1 (zI_rng _) g8 hf) (And.intro rfl (And.intro rfl (And.intro rfl (And.intro rfl trivial))))
set_option maxHeartbeats 4000000 in
set_option maxRecDepth 100000 in
theorem c_X8_raiseNumbers {l : Launch} {D : va_G} {cy : Nat → ClassId} {ids : List Nat} {ad : Nat → Nat} {μ μ' : Mem} {a1 r : Int} (h1 : inR a1) (hf : f_X8_raiseNumbers μ a1 = some (r, μ')) : KK aI l D (tyl cy) (lay cy) ids ad 4 yX8_raiseNumbers cX8_raiseNumbers 4 (some .boolean) [rf 8, nu a1] μ r μ' := by
  refine KK.of (by decide +kernel) (Nat.le_of_ble_eq_true rfl) ?_
  intro p e s m args below meth c A C hCF
  unfold f_X8_raiseNumbers at hf
  refine V_in (fun ho0 _ => ?_)
  refine r_iconst C dX8_raiseNumbers_0 ?_
  refine r_istore_n C 2 (lw := [some (rf 8), some (nu a1), some (nu 0), none]) rfl rfl (by decide) dX8_raiseNumbers_1 ?_
  refine r_iconst C dX8_raiseNumbers_2 ?_
  refine r_istore_n C 3 (lw := [some (rf 8), some (nu a1), some (nu 0), some (nu 1)]) rfl rfl (by decide) dX8_raiseNumbers_3 ?_
  exact V_lw (w_X8_raiseNumbers_4 C hCF 64 a1 0 1 μ h1 (inR_lit rfl) (inR_lit rfl) hf) (And.intro rfl (And.intro rfl (And.intro rfl (And.intro rfl trivial))))
set_option maxHeartbeats 4000000 in
set_option maxRecDepth 100000 in
theorem w_X8_agreeOnGang_84 {p : Program} {l : Launch} {e : Env} {s : State} {m : MethodId} {args : Array Value} {below : List Frame} {meth : Method} {c : Code} {D : va_G} {cy : Nat → ClassId} {A : Nat → Prop} {ids : List Nat} {ad : Nat → Nat} {r : Int} {μ' : Mem} (C : Cx p s m args meth c D (tyl cy) A 5 cX8_agreeOnGang yX8_agreeOnGang.cls (some .boolean)) (hCF : CF ad A s) : ∀ n : Nat, ∀ (v3 v4 : Int) (μ : Mem), inR v3 → inR v4 → f_X8_agreeOnGang_84   n v3 v4 μ = some (r, μ') → V p l e (rmk 6) s m args below meth c 0 0 (MQ below (aI D (tyl cy) (lay cy) ids ad A r μ') args s 0 0 A) D A (lay cy) ids ad 5 μ 84 [some (rf 8), none, none, some (nu v3), some (nu v4)] [] := by
  intro n
  induction n with
  | zero =>
    intro v3 v4 μ hv3 hv4 hf
    cases hf
  | succ n ih =>
    intro v3 v4 μ hv3 hv4 hf
    rw [f_X8_agreeOnGang_84_e] at hf
    refine V_in (fun ho0 _ => ?_)
    refine r_iload C rfl dX8_agreeOnGang_84 ?_
    refine r_aload_n C 0 rfl rfl dX8_agreeOnGang_86 ?_
    refine r_getf C 8 (by decide) rfl (fx_m rfl) (ly_8 cy _ _) rfl in_X8 10 (by decide) tw_271 (v := nu (μ 8 10)) rfl dX8_agreeOnGang_87 ?_
    refine r_icmp_gt C 109 hv4 (ho0 _ _) rfl dX8_agreeOnGang_90 (fun c1 => ?_) (fun c1 => ?_)
    · replace hf := if_t hf c1
      refine r_iconst C dX8_agreeOnGang_109 ?_
      obtain ⟨rfl, rfl⟩ := of_ret hf
      exact r_zret C rfl (by decide) dX8_agreeOnGang_110
    · replace hf := if_f hf c1
      refine r_aload_n C 0 rfl rfl dX8_agreeOnGang_93 ?_
      refine r_iload_n C 3 rfl rfl dX8_agreeOnGang_94 ?_
      obtain ⟨r2, μ3, hc4, hf⟩ := of_bd hf
      refine r_callVI C hCF (As := [nu v3]) 8 (by decide) rfl (fx_m rfl) (ly_8 cy _ _) rfl (c_X8_raiseNumbers hv3 hc4) rfl (by decide) (by decide) ⟨Nat.le_refl 0, Nat.le_refl 0⟩ tw_855 tw_858 tw_9 tw_857 ts_37 1 (by decide) rfl (Nat.le_of_ble_eq_true rfl) dX8_agreeOnGang_95 (fun hr6 => ?_)
      refine V_in (fun ho5 _ => ?_)
      refine r_if_ne C 103 hr6 rfl dX8_agreeOnGang_98 (fun c7 => ?_) (fun c7 => ?_)
      · replace hf := if_f hf c7
        refine r_iinc C rfl (lw := [some (rf 8), none, none, some (nu v3), some (nu (v4 + 1))]) rfl (by decide) dX8_agreeOnGang_103 ?_
        refine r_goto C 84 rfl dX8_agreeOnGang_106 ?_
        obtain ⟨g8, hf⟩ := of_g hf
        exact V_lw (ih v3 (v4 + 1) μ3 hv3 g8 hf) (And.intro rfl (And.intro rfl (And.intro rfl trivial)))
      · replace hf := if_t hf c7
        refine r_iconst C dX8_agreeOnGang_101 ?_
        obtain ⟨rfl, rfl⟩ := of_ret hf
        exact r_zret C rfl (by decide) dX8_agreeOnGang_102
set_option maxHeartbeats 4000000 in
set_option maxRecDepth 100000 in
theorem w_X8_agreeOnGang_10 {p : Program} {l : Launch} {e : Env} {s : State} {m : MethodId} {args : Array Value} {below : List Frame} {meth : Method} {c : Code} {D : va_G} {cy : Nat → ClassId} {A : Nat → Prop} {ids : List Nat} {ad : Nat → Nat} {r : Int} {μ' : Mem} (C : Cx p s m args meth c D (tyl cy) A 5 cX8_agreeOnGang yX8_agreeOnGang.cls (some .boolean)) (hCF : CF ad A s) : ∀ n : Nat, ∀ (v1 v2 v3 v4 : Int) (μ : Mem), inR v1 → inR v2 → inR v3 → inR v4 → f_X8_agreeOnGang_10   n v1 v2 v3 v4 μ = some (r, μ') → V p l e (rmk 6) s m args below meth c 0 0 (MQ below (aI D (tyl cy) (lay cy) ids ad A r μ') args s 0 0 A) D A (lay cy) ids ad 5 μ 10 [some (rf 8), some (nu v1), some (nu v2), some (nu v3), some (nu v4)] [] := by
  intro n
  induction n with
  | zero =>
    intro v1 v2 v3 v4 μ hv1 hv2 hv3 hv4 hf
    cases hf
  | succ n ih =>
    intro v1 v2 v3 v4 μ hv1 hv2 hv3 hv4 hf
    rw [f_X8_agreeOnGang_10_e] at hf
    refine V_in (fun ho0 _ => ?_)
    refine r_iload C rfl dX8_agreeOnGang_10 ?_
    refine r_aload_n C 0 rfl rfl dX8_agreeOnGang_12 ?_
    refine r_getf C 8 (by decide) rfl (fx_m rfl) (ly_8 cy _ _) rfl in_X8 5 (by decide) tw_265 (v := nu (μ 8 5)) rfl dX8_agreeOnGang_13 ?_
    refine r_icmp_ge C 76 hv4 (ho0 _ _) rfl dX8_agreeOnGang_16 (fun c1 => ?_) (fun c1 => ?_)
    · replace hf := if_t hf c1
      refine r_aload_n C 0 rfl rfl dX8_agreeOnGang_76 ?_
      refine r_iload_n C 3 rfl rfl dX8_agreeOnGang_77 ?_
      obtain ⟨r2, μ3, hc4, hf⟩ := of_bd hf
      refine r_callVV C hCF (As := [nu v3]) 8 (by decide) rfl (fx_m rfl) (ly_8 cy _ _) rfl (c_X8_findBorders hv3 hc4) rfl (by decide) (by decide) ⟨Nat.le_refl 0, Nat.le_refl 0⟩ tw_850 tw_853 tw_9 tw_852 ts_36 1 (by decide) rfl (Nat.le_of_ble_eq_true rfl) dX8_agreeOnGang_78 ?_
      refine V_in (fun ho5 _ => ?_)
      refine r_iconst C dX8_agreeOnGang_81 ?_
      refine r_istore C (lw := [some (rf 8), some (nu v1), some (nu v2), some (nu v3), some (nu 0)]) rfl (by decide) dX8_agreeOnGang_82 ?_
      exact V_lw (w_X8_agreeOnGang_84 C hCF 64 v3 0 μ3 hv3 (inR_lit rfl) hf) (And.intro rfl (And.intro rfl (And.intro rfl trivial)))
    · replace hf := if_f hf c1
      refine r_iload_n C 1 rfl rfl dX8_agreeOnGang_19 ?_
      refine r_iconst C dX8_agreeOnGang_20 ?_
      refine r_iload C rfl dX8_agreeOnGang_21 ?_
      refine r_ishl C dX8_agreeOnGang_23 ?_
      refine r_iand C dX8_agreeOnGang_24 ?_
      refine r_if_eq C 70 (zI_rng _) rfl dX8_agreeOnGang_25 (fun c7 => ?_) (fun c7 => ?_)
      · replace hf := if_t hf c7
        refine r_iinc C rfl (lw := [some (rf 8), some (nu v1), some (nu v2), some (nu v3), some (nu (v4 + 1))]) rfl (by decide) dX8_agreeOnGang_70 ?_
        refine r_goto C 10 rfl dX8_agreeOnGang_73 ?_
        obtain ⟨g8, hf⟩ := of_g hf
        exact V_lw (ih v1 v2 v3 (v4 + 1) μ hv1 hv2 hv3 g8 hf) (And.intro rfl (And.intro rfl (And.intro rfl (And.intro rfl (And.intro rfl trivial)))))
      · replace hf := if_f hf c7
        refine r_aload_n C 0 rfl rfl dX8_agreeOnGang_28 ?_
        refine r_getf C 8 (by decide) rfl (fx_m rfl) (ly_8 cy _ _) rfl in_X8 1 (by decide) tw_261 (v := rf 32) rfl dX8_agreeOnGang_29 ?_
        refine r_iload C rfl dX8_agreeOnGang_32 ?_
        obtain ⟨g9, hf⟩ := of_g hf
        refine r_iald C 32 (by decide) rfl (fx_m rfl) 0 (cA := cy 0) (n := 20) (ly_32 cy _ _) rfl g9 (by decide) dX8_agreeOnGang_34 ?_
        refine r_iload_n C 2 rfl rfl dX8_agreeOnGang_35 ?_
        refine r_icmp_ne C 70 (ho0 _ _) hv2 rfl dX8_agreeOnGang_36 (fun c10 => ?_) (fun c10 => ?_)
        · replace hf := if_f hf c10
          refine r_iinc C rfl (lw := [some (rf 8), some (nu v1), some (nu v2), some (nu v3), some (nu (v4 + 1))]) rfl (by decide) dX8_agreeOnGang_70 ?_
          refine r_goto C 10 rfl dX8_agreeOnGang_73 ?_
          obtain ⟨g11, hf⟩ := of_g hf
          exact V_lw (ih v1 v2 v3 (v4 + 1) μ hv1 hv2 hv3 g11 hf) (And.intro rfl (And.intro rfl (And.intro rfl (And.intro rfl (And.intro rfl trivial)))))
        · replace hf := if_t hf c10
          refine r_iload_n C 3 rfl rfl dX8_agreeOnGang_39 ?_
          refine r_iconst C dX8_agreeOnGang_40 ?_
          refine r_iload C rfl dX8_agreeOnGang_41 ?_
          refine r_ishl C dX8_agreeOnGang_43 ?_
          refine r_ior C dX8_agreeOnGang_44 ?_
          refine r_istore_n C 3 (lw := [some (rf 8), some (nu v1), some (nu v2), some (nu (zor v3 (zshl 1 v4))), some (nu v4)]) rfl rfl (by decide) dX8_agreeOnGang_45 ?_
          refine r_aload_n C 0 rfl rfl dX8_agreeOnGang_46 ?_
          refine r_aload_n C 0 rfl rfl dX8_agreeOnGang_47 ?_
          refine r_getf C 8 (by decide) rfl (fx_m rfl) (ly_8 cy _ _) rfl in_X8 2 (by decide) tw_262 (v := rf 33) rfl dX8_agreeOnGang_48 ?_
          refine r_iload C rfl dX8_agreeOnGang_51 ?_
          refine r_iald C 33 (by decide) rfl (fx_m rfl) 0 (cA := cy 0) (n := 20) (ly_33 cy _ _) rfl g9 (by decide) dX8_agreeOnGang_53 ?_
          obtain ⟨r12, μ13, hc14, hf⟩ := of_bd hf
          refine r_callVV C hCF (As := [nu (μ 33 v4.toNat)]) 8 (by decide) rfl (fx_m rfl) (ly_8 cy _ _) rfl (c_X8_addBorder (ho0 _ _) hc14) rfl (by decide) (by decide) ⟨Nat.le_refl 0, Nat.le_refl 0⟩ tw_842 tw_845 tw_9 tw_844 ts_34 1 (by decide) rfl (Nat.le_of_ble_eq_true rfl) dX8_agreeOnGang_54 ?_
          refine V_in (fun ho15 _ => ?_)
          refine r_aload_n C 0 rfl rfl dX8_agreeOnGang_57 ?_
          refine r_aload_n C 0 rfl rfl dX8_agreeOnGang_58 ?_
          refine r_getf C 8 (by decide) rfl (fx_m rfl) (ly_8 cy _ _) rfl in_X8 3 (by decide) tw_263 (v := rf 34) rfl dX8_agreeOnGang_59 ?_
          refine r_iload C rfl dX8_agreeOnGang_62 ?_
          refine r_iald C 34 (by decide) rfl (fx_m rfl) 0 (cA := cy 0) (n := 20) (ly_34 cy _ _) rfl g9 (by decide) dX8_agreeOnGang_64 ?_
          refine r_iconst C dX8_agreeOnGang_65 ?_
          refine r_iadd C dX8_agreeOnGang_66 ?_
          obtain ⟨g17, hf⟩ := of_g hf
          obtain ⟨r18, μ19, hc20, hf⟩ := of_bd hf
          refine r_callVV C hCF (As := [nu ((μ13 34 v4.toNat) + 1)]) 8 (by decide) rfl (fx_m rfl) (ly_8 cy _ _) rfl (c_X8_addBorder g17 hc20) rfl (by decide) (by decide) ⟨Nat.le_refl 0, Nat.le_refl 0⟩ tw_842 tw_845 tw_9 tw_844 ts_34 1 (by decide) rfl (Nat.le_of_ble_eq_true rfl) dX8_agreeOnGang_67 ?_
          refine V_in (fun ho21 _ => ?_)
          refine r_iinc C rfl (lw := [some (rf 8), some (nu v1), some (nu v2), some (nu (zor v3 (zshl 1 v4))), some (nu (v4 + 1))]) rfl (by decide) dX8_agreeOnGang_70 ?_
          refine r_goto C 10 rfl dX8_agreeOnGang_73 ?_
          obtain ⟨g23, hf⟩ := of_g hf
          exact V_lw (ih v1 v2 (zor v3 (zshl 1 v4)) (v4 + 1) μ19 hv1 hv2 (zI_rng _) g23 hf) (And.intro rfl (And.intro rfl (And.intro rfl (And.intro rfl (And.intro rfl trivial)))))
set_option maxHeartbeats 4000000 in
set_option maxRecDepth 100000 in
theorem c_X8_agreeOnGang {l : Launch} {D : va_G} {cy : Nat → ClassId} {ids : List Nat} {ad : Nat → Nat} {μ μ' : Mem} {a1 a2 r : Int} (h1 : inR a1) (h2 : inR a2) (hf : f_X8_agreeOnGang μ a1 a2 = some (r, μ')) : KK aI l D (tyl cy) (lay cy) ids ad 6 yX8_agreeOnGang cX8_agreeOnGang 5 (some .boolean) [rf 8, nu a1, nu a2] μ r μ' := by
  refine KK.of (by decide +kernel) (Nat.le_of_ble_eq_true rfl) ?_
  intro p e s m args below meth c A C hCF
  unfold f_X8_agreeOnGang at hf
  refine V_in (fun ho0 _ => ?_)
  refine r_iconst C dX8_agreeOnGang_0 ?_
  refine r_istore_n C 3 (lw := [some (rf 8), some (nu a1), some (nu a2), some (nu 0), none]) rfl rfl (by decide) dX8_agreeOnGang_1 ?_
  refine r_aload_n C 0 rfl rfl dX8_agreeOnGang_2 ?_
  refine r_iconst C dX8_agreeOnGang_3 ?_
  refine r_putf C 8 (by decide) rfl (fx_m rfl) (by decide) (ly_8 cy _ _) 10 (ly_8 cy _ _) rfl (Nat.le_of_ble_eq_true rfl) (inR_lit rfl) rfl in_X8 tyX8 tyX8_ok nmX8 (by decide) tw_271 rfl rfl dX8_agreeOnGang_4 (fun μ1 hμ3 => ?_)
  replace hf := of_lm hf hμ3
  refine V_in (fun ho2 _ => ?_)
  refine r_iconst C dX8_agreeOnGang_7 ?_
  refine r_istore C (lw := [some (rf 8), some (nu a1), some (nu a2), some (nu 0), some (nu 0)]) rfl (by decide) dX8_agreeOnGang_8 ?_
  exact V_lw (w_X8_agreeOnGang_10 C hCF 64 a1 a2 0 0 μ1 h1 h2 (inR_lit rfl) (inR_lit rfl) hf) (And.intro rfl (And.intro rfl (And.intro rfl (And.intro rfl (And.intro rfl trivial)))))
set_option maxHeartbeats 4000000 in
set_option maxRecDepth 100000 in
theorem w_X8_agree_2 {p : Program} {l : Launch} {e : Env} {s : State} {m : MethodId} {args : Array Value} {below : List Frame} {meth : Method} {c : Code} {D : va_G} {cy : Nat → ClassId} {A : Nat → Prop} {ids : List Nat} {ad : Nat → Nat} {r : Int} {μ' : Mem} (C : Cx p s m args meth c D (tyl cy) A 3 cX8_agree yX8_agree.cls (some .boolean)) (hCF : CF ad A s) : ∀ n : Nat, ∀ (v1 v2 : Int) (μ : Mem), inR v1 → inR v2 → f_X8_agree_2   n v1 v2 μ = some (r, μ') → V p l e (rmk 8) s m args below meth c 0 0 (MQ below (aI D (tyl cy) (lay cy) ids ad A r μ') args s 0 0 A) D A (lay cy) ids ad 3 μ 2 [some (rf 8), some (nu v1), some (nu v2)] [] := by
  intro n
  induction n with
  | zero =>
    intro v1 v2 μ hv1 hv2 hf
    cases hf
  | succ n ih =>
    intro v1 v2 μ hv1 hv2 hf
    rw [f_X8_agree_2_e] at hf
    refine V_in (fun ho0 _ => ?_)
    refine r_iload_n C 2 rfl rfl dX8_agree_2 ?_
    refine r_bipush C dX8_agree_3 rfl ?_
    refine r_icmp_ge C 25 hv2 (inR_lit rfl) rfl dX8_agree_5 (fun c1 => ?_) (fun c1 => ?_)
    · replace hf := if_t hf c1
      refine r_iconst C dX8_agree_25 ?_
      obtain ⟨rfl, rfl⟩ := of_ret hf
      exact r_zret C rfl (by decide) dX8_agree_26
    · replace hf := if_f hf c1
      refine r_aload_n C 0 rfl rfl dX8_agree_8 ?_
      refine r_iload_n C 1 rfl rfl dX8_agree_9 ?_
      refine r_iload_n C 2 rfl rfl dX8_agree_10 ?_
      obtain ⟨r2, μ3, hc4, hf⟩ := of_bd hf
      refine r_callVI C hCF (As := [nu v1, nu v2]) 8 (by decide) rfl (fx_m rfl) (ly_8 cy _ _) rfl (c_X8_agreeOnGang hv1 hv2 hc4) rfl (by decide) (by decide) ⟨Nat.le_refl 0, Nat.le_refl 0⟩ tw_838 tw_841 tw_9 tw_840 ts_33 2 (by decide) rfl (Nat.le_of_ble_eq_true rfl) dX8_agree_11 (fun hr6 => ?_)
      refine V_in (fun ho5 _ => ?_)
      refine r_if_ne C 19 hr6 rfl dX8_agree_14 (fun c7 => ?_) (fun c7 => ?_)
      · replace hf := if_f hf c7
        refine r_iinc C rfl (lw := [some (rf 8), some (nu v1), some (nu (v2 + 1))]) rfl (by decide) dX8_agree_19 ?_
        refine r_goto C 2 rfl dX8_agree_22 ?_
        obtain ⟨g8, hf⟩ := of_g hf
        exact V_lw (ih v1 (v2 + 1) μ3 hv1 g8 hf) (And.intro rfl (And.intro rfl (And.intro rfl trivial)))
      · replace hf := if_t hf c7
        refine r_iconst C dX8_agree_17 ?_
        obtain ⟨rfl, rfl⟩ := of_ret hf
        exact r_zret C rfl (by decide) dX8_agree_18
set_option maxHeartbeats 4000000 in
set_option maxRecDepth 100000 in
theorem c_X8_agree {l : Launch} {D : va_G} {cy : Nat → ClassId} {ids : List Nat} {ad : Nat → Nat} {μ μ' : Mem} {a1 r : Int} (h1 : inR a1) (hf : f_X8_agree μ a1 = some (r, μ')) : KK aI l D (tyl cy) (lay cy) ids ad 8 yX8_agree cX8_agree 3 (some .boolean) [rf 8, nu a1] μ r μ' := by
  refine KK.of (by decide +kernel) (Nat.le_of_ble_eq_true rfl) ?_
  intro p e s m args below meth c A C hCF
  unfold f_X8_agree at hf
  refine V_in (fun ho0 _ => ?_)
  refine r_iconst C dX8_agree_0 ?_
  refine r_istore_n C 2 (lw := [some (rf 8), some (nu a1), some (nu 0)]) rfl rfl (by decide) dX8_agree_1 ?_
  exact V_lw (w_X8_agree_2 C hCF 64 a1 0 μ h1 (inR_lit rfl) hf) (And.intro rfl (And.intro rfl (And.intro rfl trivial)))
set_option maxHeartbeats 4000000 in
set_option maxRecDepth 100000 in
theorem w_X8_judge_50 {p : Program} {l : Launch} {e : Env} {s : State} {m : MethodId} {args : Array Value} {below : List Frame} {meth : Method} {c : Code} {D : va_G} {cy : Nat → ClassId} {A : Nat → Prop} {ids : List Nat} {ad : Nat → Nat} {r : Int} {μ' : Mem} (C : Cx p s m args meth c D (tyl cy) A 4 cX8_judge yX8_judge.cls none) (hCF : CF ad A s) : ∀ n : Nat, ∀ (v1 v2 : Int) (μ : Mem), inR v1 → inR v2 → f_X8_judge_50   n v1 v2 μ = some (r, μ') → V p l e (rmk 10) s m args below meth c 0 0 (MQ below (aV D (tyl cy) (lay cy) ids ad A r μ') args s 0 0 A) D A (lay cy) ids ad 4 μ 50 [some (rf 8), some (nu v1), some (nu v2), none] [] := by
  intro n
  induction n with
  | zero =>
    intro v1 v2 μ hv1 hv2 hf
    cases hf
  | succ n ih =>
    intro v1 v2 μ hv1 hv2 hf
    rw [f_X8_judge_50_e] at hf
    refine V_in (fun ho0 _ => ?_)
    refine r_iload_n C 2 rfl rfl dX8_judge_50 ?_
    refine r_if_lt C 78 hv2 rfl dX8_judge_51 (fun c1 => ?_) (fun c1 => ?_)
    · replace hf := if_t hf c1
      refine r_aload_n C 0 rfl rfl dX8_judge_78 ?_
      refine r_iload_n C 1 rfl rfl dX8_judge_79 ?_
      refine r_putf C 8 (by decide) rfl (fx_m rfl) (by decide) (ly_8 cy _ _) 6 (ly_8 cy _ _) rfl (Nat.le_of_ble_eq_true rfl) hv1 rfl in_X8 tyX8 tyX8_ok nmX8 (by decide) tw_267 rfl rfl dX8_judge_80 (fun μ2 hμ4 => ?_)
      replace hf := of_lm hf hμ4
      refine V_in (fun ho3 _ => ?_)
      obtain ⟨-, rfl⟩ := of_ret hf
      exact r_vret C rfl dX8_judge_83
    · replace hf := if_f hf c1
      refine r_iload_n C 1 rfl rfl dX8_judge_54 ?_
      refine r_iconst C dX8_judge_55 ?_
      refine r_iload_n C 2 rfl rfl dX8_judge_56 ?_
      refine r_ishl C dX8_judge_57 ?_
      refine r_iconst C dX8_judge_58 ?_
      refine r_ixor C dX8_judge_59 ?_
      refine r_iand C dX8_judge_60 ?_
      refine r_istore_n C 3 (lw := [some (rf 8), some (nu v1), some (nu v2), some (nu (zand v1 (zxor (zshl 1 v2) (-1))))]) rfl rfl (by decide) dX8_judge_61 ?_
      refine r_aload_n C 0 rfl rfl dX8_judge_62 ?_
      refine r_iload_n C 3 rfl rfl dX8_judge_63 ?_
      obtain ⟨r5, μ6, hc7, hf⟩ := of_bd hf
      refine r_callVI C hCF (As := [nu (zand v1 (zxor (zshl 1 v2) (-1)))]) 8 (by decide) rfl (fx_m rfl) (ly_8 cy _ _) rfl (c_X8_agree (zI_rng _) hc7) rfl (by decide) (by decide) ⟨Nat.le_refl 0, Nat.le_refl 0⟩ tw_834 tw_837 tw_9 tw_836 ts_32 1 (by decide) rfl (Nat.le_of_ble_eq_true rfl) dX8_judge_64 (fun hr9 => ?_)
      refine V_in (fun ho8 _ => ?_)
      refine r_if_ne C 72 hr9 rfl dX8_judge_67 (fun c10 => ?_) (fun c10 => ?_)
      · replace hf := if_f hf c10
        refine r_iinc C rfl (lw := [some (rf 8), some (nu v1), some (nu (v2 + (-1))), some (nu (zand v1 (zxor (zshl 1 v2) (-1))))]) rfl (by decide) dX8_judge_72 ?_
        refine r_goto C 50 rfl dX8_judge_75 ?_
        obtain ⟨g11, hf⟩ := of_g hf
        exact V_lw (ih v1 (v2 + (-1)) μ6 hv1 g11 hf) (And.intro rfl (And.intro rfl (And.intro rfl trivial)))
      · replace hf := if_t hf c10
        refine r_iload_n C 3 rfl rfl dX8_judge_70 ?_
        refine r_istore_n C 1 (lw := [some (rf 8), some (nu (zand v1 (zxor (zshl 1 v2) (-1)))), some (nu v2), some (nu (zand v1 (zxor (zshl 1 v2) (-1))))]) rfl rfl (by decide) dX8_judge_71 ?_
        refine r_iinc C rfl (lw := [some (rf 8), some (nu (zand v1 (zxor (zshl 1 v2) (-1)))), some (nu (v2 + (-1))), some (nu (zand v1 (zxor (zshl 1 v2) (-1))))]) rfl (by decide) dX8_judge_72 ?_
        refine r_goto C 50 rfl dX8_judge_75 ?_
        obtain ⟨g12, hf⟩ := of_g hf
        exact V_lw (ih (zand v1 (zxor (zshl 1 v2) (-1))) (v2 + (-1)) μ6 (zI_rng _) g12 hf) (And.intro rfl (And.intro rfl (And.intro rfl trivial)))
set_option maxHeartbeats 4000000 in
set_option maxRecDepth 100000 in
theorem c_X8_judge {l : Launch} {D : va_G} {cy : Nat → ClassId} {ids : List Nat} {ad : Nat → Nat} {μ μ' : Mem} { r : Int}  (hf : f_X8_judge μ  = some (r, μ')) : KK aV l D (tyl cy) (lay cy) ids ad 10 yX8_judge cX8_judge 4 none [rf 8] μ r μ' := by
  refine KK.of (by decide +kernel) (Nat.le_of_ble_eq_true rfl) ?_
  intro p e s m args below meth c A C hCF
  unfold f_X8_judge at hf
  refine V_in (fun ho0 _ => ?_)
  refine r_aload_n C 0 rfl rfl dX8_judge_0 ?_
  refine r_getf C 8 (by decide) rfl (fx_m rfl) (ly_8 cy _ _) rfl in_X8 7 (by decide) tw_268 (v := nu (μ 8 7)) rfl dX8_judge_1 ?_
  refine r_aload_n C 0 rfl rfl dX8_judge_4 ?_
  refine r_getf C 8 (by decide) rfl (fx_m rfl) (ly_8 cy _ _) rfl in_X8 5 (by decide) tw_265 (v := nu (μ 8 5)) rfl dX8_judge_5 ?_
  refine r_icmp_ne C 12 (ho0 _ _) (ho0 _ _) rfl dX8_judge_8 (fun c1 => ?_) (fun c1 => ?_)
  · replace hf := if_f hf c1
    refine r_aload_n C 0 rfl rfl dX8_judge_12 ?_
    refine r_aload_n C 0 rfl rfl dX8_judge_13 ?_
    refine r_getf C 8 (by decide) rfl (fx_m rfl) (ly_8 cy _ _) rfl in_X8 5 (by decide) tw_265 (v := nu (μ 8 5)) rfl dX8_judge_14 ?_
    refine r_putf C 8 (by decide) rfl (fx_m rfl) (by decide) (ly_8 cy _ _) 7 (ly_8 cy _ _) rfl (Nat.le_of_ble_eq_true rfl) (ho0 _ _) rfl in_X8 tyX8 tyX8_ok nmX8 (by decide) tw_268 rfl rfl dX8_judge_17 (fun μ2 hμ4 => ?_)
    replace hf := of_lm hf hμ4
    refine V_in (fun ho3 _ => ?_)
    refine r_aload_n C 0 rfl rfl dX8_judge_20 ?_
    refine r_iconst C dX8_judge_21 ?_
    refine r_putf C 8 (by decide) rfl (fx_m rfl) (by decide) (ly_8 cy _ _) 6 (ly_8 cy _ _) rfl (Nat.le_of_ble_eq_true rfl) (inR_lit rfl) rfl in_X8 tyX8 tyX8_ok nmX8 (by decide) tw_267 rfl rfl dX8_judge_22 (fun μ5 hμ7 => ?_)
    replace hf := of_lm hf hμ7
    refine V_in (fun ho6 _ => ?_)
    refine r_iconst C dX8_judge_25 ?_
    refine r_aload_n C 0 rfl rfl dX8_judge_26 ?_
    refine r_getf C 8 (by decide) rfl (fx_m rfl) (ly_8 cy _ _) rfl in_X8 5 (by decide) tw_265 (v := nu (μ5 8 5)) rfl dX8_judge_27 ?_
    refine r_ishl C dX8_judge_30 ?_
    refine r_iconst C dX8_judge_31 ?_
    refine r_isub C dX8_judge_32 ?_
    refine r_istore_n C 1 (lw := [some (rf 8), some (nu ((zshl 1 (μ5 8 5)) - 1)), none, none]) rfl rfl (by decide) dX8_judge_33 ?_
    refine r_aload_n C 0 rfl rfl dX8_judge_34 ?_
    refine r_iload_n C 1 rfl rfl dX8_judge_35 ?_
    obtain ⟨g8, hf⟩ := of_g hf
    obtain ⟨r9, μ10, hc11, hf⟩ := of_bd hf
    refine r_callVI C hCF (As := [nu ((zshl 1 (μ5 8 5)) - 1)]) 8 (by decide) rfl (fx_m rfl) (ly_8 cy _ _) rfl (c_X8_agree g8 hc11) rfl (by decide) (by decide) ⟨Nat.le_refl 0, Nat.le_refl 0⟩ tw_834 tw_837 tw_9 tw_836 ts_32 1 (by decide) rfl (Nat.le_of_ble_eq_true rfl) dX8_judge_36 (fun hr13 => ?_)
    refine V_in (fun ho12 _ => ?_)
    refine r_if_eq C 43 hr13 rfl dX8_judge_39 (fun c14 => ?_) (fun c14 => ?_)
    · replace hf := if_t hf c14
      refine r_aload_n C 0 rfl rfl dX8_judge_43 ?_
      refine r_getf C 8 (by decide) rfl (fx_m rfl) (ly_8 cy _ _) rfl in_X8 5 (by decide) tw_265 (v := nu (μ10 8 5)) rfl dX8_judge_44 ?_
      refine r_iconst C dX8_judge_47 ?_
      refine r_isub C dX8_judge_48 ?_
      refine r_istore_n C 2 (lw := [some (rf 8), some (nu ((zshl 1 (μ5 8 5)) - 1)), some (nu ((μ10 8 5) - 1)), none]) rfl rfl (by decide) dX8_judge_49 ?_
      obtain ⟨g15, hf⟩ := of_g hf
      exact V_lw (w_X8_judge_50 C hCF 64 ((zshl 1 (μ5 8 5)) - 1) ((μ10 8 5) - 1) μ10 g8 g15 hf) (And.intro rfl (And.intro rfl (And.intro rfl trivial)))
    · replace hf := if_f hf c14
      obtain ⟨-, rfl⟩ := of_ret hf
      exact r_vret C rfl dX8_judge_42
  · replace hf := if_t hf c1
    obtain ⟨-, rfl⟩ := of_ret hf
    exact r_vret C rfl dX8_judge_11
set_option maxHeartbeats 4000000 in
set_option maxRecDepth 100000 in
theorem c_X8_quarrelSize {l : Launch} {D : va_G} {cy : Nat → ClassId} {ids : List Nat} {ad : Nat → Nat} {μ μ' : Mem} { r : Int}  (hf : f_X8_quarrelSize μ  = some (r, μ')) : KK aI l D (tyl cy) (lay cy) ids ad 12 yX8_quarrelSize cX8_quarrelSize 1 (some .int) [rf 8] μ r μ' := by
  refine KK.of (by decide +kernel) (Nat.le_of_ble_eq_true rfl) ?_
  intro p e s m args below meth c A C hCF
  unfold f_X8_quarrelSize at hf
  refine V_in (fun ho0 _ => ?_)
  refine r_aload_n C 0 rfl rfl dX8_quarrelSize_0 ?_
  obtain ⟨r1, μ2, hc3, hf⟩ := of_bd hf
  refine r_callVV C hCF (As := []) 8 (by decide) rfl (fx_m rfl) (ly_8 cy _ _) rfl (c_X8_judge hc3) rfl (by decide) (by decide) ⟨Nat.le_refl 0, Nat.le_refl 0⟩ tw_830 tw_833 tw_9 tw_832 ts_31 0 (by decide) rfl (Nat.le_of_ble_eq_true rfl) dX8_quarrelSize_1 ?_
  refine V_in (fun ho4 _ => ?_)
  refine r_aload_n C 0 rfl rfl dX8_quarrelSize_4 ?_
  refine r_getf C 8 (by decide) rfl (fx_m rfl) (ly_8 cy _ _) rfl in_X8 6 (by decide) tw_267 (v := nu (μ2 8 6)) rfl dX8_quarrelSize_5 ?_
  obtain ⟨r6, μ7, hc8, hf⟩ := of_bd hf
  refine r_callSI C hCF (As := [nu (μ2 8 6)]) (c_J6_bitCount_0f7a4 (ho4 _ _) hc8) rfl (by decide) (by decide) ⟨Nat.le_refl 0, Nat.le_refl 0⟩ tw_863 tw_865 tw_18 tw_864 1 (by decide) rfl (Nat.le_of_ble_eq_true rfl) dX8_quarrelSize_8 (fun hr10 => ?_)
  refine V_in (fun ho9 _ => ?_)
  obtain ⟨rfl, rfl⟩ := of_ret hf
  exact r_iret C rfl hr10 dX8_quarrelSize_11
set_option maxHeartbeats 4000000 in
set_option maxRecDepth 100000 in
theorem w_X8_quarrelMember_8 {p : Program} {l : Launch} {e : Env} {s : State} {m : MethodId} {args : Array Value} {below : List Frame} {meth : Method} {c : Code} {D : va_G} {cy : Nat → ClassId} {A : Nat → Prop} {ids : List Nat} {ad : Nat → Nat} {r : Int} {μ' : Mem} (C : Cx p s m args meth c D (tyl cy) A 4 cX8_quarrelMember yX8_quarrelMember.cls (some .int)) (hCF : CF ad A s) : ∀ n : Nat, ∀ (v1 v2 v3 : Int) (μ : Mem), inR v1 → inR v2 → inR v3 → f_X8_quarrelMember_8   n v1 v2 v3 μ = some (r, μ') → V p l e (rmk 12) s m args below meth c 0 0 (MQ below (aI D (tyl cy) (lay cy) ids ad A r μ') args s 0 0 A) D A (lay cy) ids ad 4 μ 8 [some (rf 8), some (nu v1), some (nu v2), some (nu v3)] [] := by
  intro n
  induction n with
  | zero =>
    intro v1 v2 v3 μ hv1 hv2 hv3 hf
    cases hf
  | succ n ih =>
    intro v1 v2 v3 μ hv1 hv2 hv3 hf
    rw [f_X8_quarrelMember_8_e] at hf
    refine V_in (fun ho0 _ => ?_)
    refine r_iload_n C 3 rfl rfl dX8_quarrelMember_8 ?_
    refine r_aload_n C 0 rfl rfl dX8_quarrelMember_9 ?_
    refine r_getf C 8 (by decide) rfl (fx_m rfl) (ly_8 cy _ _) rfl in_X8 5 (by decide) tw_265 (v := nu (μ 8 5)) rfl dX8_quarrelMember_10 ?_
    refine r_icmp_ge C 46 hv3 (ho0 _ _) rfl dX8_quarrelMember_13 (fun c1 => ?_) (fun c1 => ?_)
    · replace hf := if_t hf c1
      refine r_iconst C dX8_quarrelMember_46 ?_
      obtain ⟨rfl, rfl⟩ := of_ret hf
      exact r_iret C rfl (inR_lit rfl) dX8_quarrelMember_47
    · replace hf := if_f hf c1
      refine r_aload_n C 0 rfl rfl dX8_quarrelMember_16 ?_
      refine r_getf C 8 (by decide) rfl (fx_m rfl) (ly_8 cy _ _) rfl in_X8 6 (by decide) tw_267 (v := nu (μ 8 6)) rfl dX8_quarrelMember_17 ?_
      refine r_iconst C dX8_quarrelMember_20 ?_
      refine r_iload_n C 3 rfl rfl dX8_quarrelMember_21 ?_
      refine r_ishl C dX8_quarrelMember_22 ?_
      refine r_iand C dX8_quarrelMember_23 ?_
      refine r_if_ne C 30 (zI_rng _) rfl dX8_quarrelMember_24 (fun c2 => ?_) (fun c2 => ?_)
      · replace hf := if_f hf c2
        refine r_iload_n C 2 rfl rfl dX8_quarrelMember_30 ?_
        refine r_iload_n C 1 rfl rfl dX8_quarrelMember_31 ?_
        refine r_icmp_ne C 37 hv2 hv1 rfl dX8_quarrelMember_32 (fun c3 => ?_) (fun c3 => ?_)
        · replace hf := if_f hf c3
          refine r_iinc C rfl (lw := [some (rf 8), some (nu v1), some (nu (v2 + 1)), some (nu v3)]) rfl (by decide) dX8_quarrelMember_37 ?_
          refine r_iinc C rfl (lw := [some (rf 8), some (nu v1), some (nu (v2 + 1)), some (nu (v3 + 1))]) rfl (by decide) dX8_quarrelMember_40 ?_
          refine r_goto C 8 rfl dX8_quarrelMember_43 ?_
          obtain ⟨g4, hf⟩ := of_g hf
          obtain ⟨g5, hf⟩ := of_g hf
          exact V_lw (ih v1 (v2 + 1) (v3 + 1) μ hv1 g4 g5 hf) (And.intro rfl (And.intro rfl (And.intro rfl (And.intro rfl trivial))))
        · replace hf := if_t hf c3
          refine r_iload_n C 3 rfl rfl dX8_quarrelMember_35 ?_
          obtain ⟨rfl, rfl⟩ := of_ret hf
          exact r_iret C rfl hv3 dX8_quarrelMember_36
      · replace hf := if_t hf c2
        refine r_goto C 40 rfl dX8_quarrelMember_27 ?_
        refine r_iinc C rfl (lw := [some (rf 8), some (nu v1), some (nu v2), some (nu (v3 + 1))]) rfl (by decide) dX8_quarrelMember_40 ?_
        refine r_goto C 8 rfl dX8_quarrelMember_43 ?_
        obtain ⟨g6, hf⟩ := of_g hf
        exact V_lw (ih v1 v2 (v3 + 1) μ hv1 hv2 g6 hf) (And.intro rfl (And.intro rfl (And.intro rfl (And.intro rfl trivial))))
set_option maxHeartbeats 4000000 in
set_option maxRecDepth 100000 in
theorem c_X8_quarrelMember {l : Launch} {D : va_G} {cy : Nat → ClassId} {ids : List Nat} {ad : Nat → Nat} {μ μ' : Mem} {a1 r : Int} (h1 : inR a1) (hf : f_X8_quarrelMember μ a1 = some (r, μ')) : KK aI l D (tyl cy) (lay cy) ids ad 12 yX8_quarrelMember cX8_quarrelMember 4 (some .int) [rf 8, nu a1] μ r μ' := by
  refine KK.of (by decide +kernel) (Nat.le_of_ble_eq_true rfl) ?_
  intro p e s m args below meth c A C hCF
  unfold f_X8_quarrelMember at hf
  refine V_in (fun ho0 _ => ?_)
  refine r_aload_n C 0 rfl rfl dX8_quarrelMember_0 ?_
  obtain ⟨r1, μ2, hc3, hf⟩ := of_bd hf
  refine r_callVV C hCF (As := []) 8 (by decide) rfl (fx_m rfl) (ly_8 cy _ _) rfl (c_X8_judge hc3) rfl (by decide) (by decide) ⟨Nat.le_refl 0, Nat.le_refl 0⟩ tw_830 tw_833 tw_9 tw_832 ts_31 0 (by decide) rfl (Nat.le_of_ble_eq_true rfl) dX8_quarrelMember_1 ?_
  refine V_in (fun ho4 _ => ?_)
  refine r_iconst C dX8_quarrelMember_4 ?_
  refine r_istore_n C 2 (lw := [some (rf 8), some (nu a1), some (nu 0), none]) rfl rfl (by decide) dX8_quarrelMember_5 ?_
  refine r_iconst C dX8_quarrelMember_6 ?_
  refine r_istore_n C 3 (lw := [some (rf 8), some (nu a1), some (nu 0), some (nu 0)]) rfl rfl (by decide) dX8_quarrelMember_7 ?_
  exact V_lw (w_X8_quarrelMember_8 C hCF 64 a1 0 0 μ2 h1 (inR_lit rfl) (inR_lit rfl) hf) (And.intro rfl (And.intro rfl (And.intro rfl (And.intro rfl trivial))))
