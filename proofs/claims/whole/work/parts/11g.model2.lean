set_option maxHeartbeats 4000000 in
set_option maxRecDepth 100000 in
theorem c_X11_raise {l : Launch} {D : va_G} {cy : Nat → ClassId} {ids : List Nat} {ad : Nat → Nat} {μ μ' : Mem} {a1 r : Int} (h1 : inR a1) (hf : f_X11_raise μ a1 = some (r, μ')) : KK aI l D (tyl cy) (lay cy) ids ad 4 yX11_raise cX11_raise 2 (some .int) [rf 300, nu a1] μ r μ' := by
  refine KK.of (by decide +kernel) (Nat.le_of_ble_eq_true rfl) ?_
  intro p e s m args below meth c A C hCF
  unfold f_X11_raise at hf
  refine V_in (fun ho0 _ => ?_)
  refine r_iload_n C 1 rfl rfl dX11_raise_0 ?_
  refine r_iconst C dX11_raise_1 ?_
  refine r_aload_n C 0 rfl rfl dX11_raise_2 ?_
  refine r_getf C 300 (by decide) rfl (fx_m rfl) (ly_300 cy _ _) rfl in_X11 2 (by decide) tw_897 (v := nu (μ 300 2)) rfl dX11_raise_3 ?_
  refine r_iconst C dX11_raise_6 ?_
  refine r_isub C dX11_raise_7 ?_
  obtain ⟨g1, hf⟩ := of_g hf
  obtain ⟨r2, μ3, hc4, hf⟩ := of_bd hf
  refine r_callSI C hCF (As := [nu a1, nu 0, nu ((μ 300 2) - 1)]) (c_X11_in h1 (inR_lit rfl) g1 hc4) rfl (by decide) (by decide) ⟨Nat.le_refl 0, Nat.le_refl 0⟩ tw_1063 tw_1065 tw_10 tw_1064 3 (by decide) rfl (Nat.le_of_ble_eq_true rfl) dX11_raise_8 (fun hr6 => ?_)
  refine V_in (fun ho5 _ => ?_)
  refine r_if_eq C 21 hr6 rfl dX11_raise_11 (fun c7 => ?_) (fun c7 => ?_)
  · replace hf := if_t hf c7
    refine r_iconst C dX11_raise_21 ?_
    obtain ⟨rfl, rfl⟩ := of_ret hf
    exact r_iret C rfl (inR_lit rfl) dX11_raise_22
  · replace hf := if_f hf c7
    refine r_aload_n C 0 rfl rfl dX11_raise_14 ?_
    obtain ⟨r8, μ9, hc10, hf⟩ := of_bd hf
    refine r_callVI C hCF (As := []) 300 (by decide) rfl (fx_m rfl) (ly_300 cy _ _) rfl (c_X11_isEnd hc10) rfl (by decide) (by decide) ⟨Nat.le_refl 0, Nat.le_refl 0⟩ tw_1135 tw_1138 tw_10 tw_1137 ts_45 0 (by decide) rfl (Nat.le_of_ble_eq_true rfl) dX11_raise_15 (fun hr12 => ?_)
    refine V_in (fun ho11 _ => ?_)
    refine r_if_eq C 23 hr12 rfl dX11_raise_18 (fun c13 => ?_) (fun c13 => ?_)
    · replace hf := if_t hf c13
      refine r_aload_n C 0 rfl rfl dX11_raise_23 ?_
      refine r_getf C 300 (by decide) rfl (fx_m rfl) (ly_300 cy _ _) rfl in_X11 6 (by decide) tw_901 (v := rf 302) rfl dX11_raise_24 ?_
      refine r_iload_n C 1 rfl rfl dX11_raise_27 ?_
      obtain ⟨g14, hf⟩ := of_g hf
      refine r_iald C 302 (by decide) rfl (fx_m rfl) 0 (cA := cy 0) (n := 6) (ly_302 cy _ _) rfl g14 (by decide) dX11_raise_28 ?_
      refine r_iconst C dX11_raise_29 ?_
      refine r_icmp_eq C 35 (ho11 _ _) (inR_lit rfl) rfl dX11_raise_30 (fun c15 => ?_) (fun c15 => ?_)
      · replace hf := if_t hf c15
        refine r_aload_n C 0 rfl rfl dX11_raise_35 ?_
        refine r_bipush C dX11_raise_36 rfl ?_
        obtain ⟨r16, μ17, hc18, hf⟩ := of_bd hf
        refine r_callVI C hCF (As := [nu 30]) 300 (by decide) rfl (fx_m rfl) (ly_300 cy _ _) rfl (c_X11_worker (inR_lit rfl) hc18) rfl (by decide) (by decide) ⟨Nat.le_refl 0, Nat.le_refl 0⟩ tw_1139 tw_1142 tw_10 tw_1141 ts_46 1 (by decide) rfl (Nat.le_of_ble_eq_true rfl) dX11_raise_38 (fun hr20 => ?_)
        refine V_in (fun ho19 _ => ?_)
        refine r_iconst C dX11_raise_41 ?_
        refine r_icmp_eq C 47 hr20 (inR_lit rfl) rfl dX11_raise_42 (fun c21 => ?_) (fun c21 => ?_)
        · replace hf := if_t hf c21
          refine r_aload_n C 0 rfl rfl dX11_raise_47 ?_
          refine r_getf C 300 (by decide) rfl (fx_m rfl) (ly_300 cy _ _) rfl in_X11 17 (by decide) tw_912 (v := nu (μ17 300 17)) rfl dX11_raise_48 ?_
          refine r_bipush C dX11_raise_51 rfl ?_
          refine r_icmp_ne C 58 (ho19 _ _) (inR_lit rfl) rfl dX11_raise_53 (fun c22 => ?_) (fun c22 => ?_)
          · replace hf := if_f hf c22
            refine r_aload_n C 0 rfl rfl dX11_raise_58 ?_
            refine r_getf C 300 (by decide) rfl (fx_m rfl) (ly_300 cy _ _) rfl in_X11 6 (by decide) tw_901 (v := rf 302) rfl dX11_raise_59 ?_
            refine r_iload_n C 1 rfl rfl dX11_raise_62 ?_
            refine r_bipush C dX11_raise_63 rfl ?_
            refine r_iast C 302 (by decide) rfl (fx_m rfl) (by decide) 0 (cA := cy 0) (n := 6) (fun f => ly_302 cy _ f) rfl g14 (by decide) (inR_lit rfl) dX11_raise_65 (fun μ23 hμ25 => ?_)
            replace hf := of_lm hf hμ25
            refine V_in (fun ho24 _ => ?_)
            refine r_aload_n C 0 rfl rfl dX11_raise_66 ?_
            refine r_getf C 300 (by decide) rfl (fx_m rfl) (ly_300 cy _ _) rfl in_X11 7 (by decide) tw_902 (v := rf 303) rfl dX11_raise_67 ?_
            refine r_iload_n C 1 rfl rfl dX11_raise_70 ?_
            refine r_aload_n C 0 rfl rfl dX11_raise_71 ?_
            refine r_getf C 300 (by decide) rfl (fx_m rfl) (ly_300 cy _ _) rfl in_X11 23 (by decide) tw_918 (v := rf 312) rfl dX11_raise_72 ?_
            refine r_bipush C dX11_raise_75 rfl ?_
            refine r_iald C 312 (by decide) rfl (fx_m rfl) 0 (cA := cy 0) (n := 9) (ly_312 cy _ _) rfl ⟨by decide, by decide⟩ (by decide) dX11_raise_77 ?_
            refine r_aload_n C 0 rfl rfl dX11_raise_78 ?_
            refine r_getf C 300 (by decide) rfl (fx_m rfl) (ly_300 cy _ _) rfl in_X11 17 (by decide) tw_912 (v := nu (μ23 300 17)) rfl dX11_raise_79 ?_
            refine r_iconst C dX11_raise_82 ?_
            refine r_iadd C dX11_raise_83 ?_
            refine r_imul C dX11_raise_84 ?_
            obtain ⟨g26, hf⟩ := of_g hf
            refine r_iast C 303 (by decide) rfl (fx_m rfl) (by decide) 0 (cA := cy 0) (n := 6) (fun f => ly_303 cy _ f) rfl g14 (by decide) g26 dX11_raise_85 (fun μ27 hμ29 => ?_)
            replace hf := of_lm hf hμ29
            refine V_in (fun ho28 _ => ?_)
            refine r_iconst C dX11_raise_86 ?_
            obtain ⟨rfl, rfl⟩ := of_ret hf
            exact r_iret C rfl (inR_lit rfl) dX11_raise_87
          · replace hf := if_t hf c22
            refine r_iconst C dX11_raise_56 ?_
            obtain ⟨rfl, rfl⟩ := of_ret hf
            exact r_iret C rfl (inR_lit rfl) dX11_raise_57
        · replace hf := if_f hf c21
          refine r_iconst C dX11_raise_45 ?_
          obtain ⟨rfl, rfl⟩ := of_ret hf
          exact r_iret C rfl (inR_lit rfl) dX11_raise_46
      · replace hf := if_f hf c15
        refine r_iconst C dX11_raise_33 ?_
        obtain ⟨rfl, rfl⟩ := of_ret hf
        exact r_iret C rfl (inR_lit rfl) dX11_raise_34
    · replace hf := if_f hf c13
      refine r_iconst C dX11_raise_21 ?_
      obtain ⟨rfl, rfl⟩ := of_ret hf
      exact r_iret C rfl (inR_lit rfl) dX11_raise_22
set_option maxHeartbeats 4000000 in
set_option maxRecDepth 100000 in
theorem c_X11_rests {l : Launch} {D : va_G} {cy : Nat → ClassId} {ids : List Nat} {ad : Nat → Nat} {μ μ' : Mem} {a1 r : Int} (h1 : inR a1) (hf : f_X11_rests μ a1 = some (r, μ')) : KK aV l D (tyl cy) (lay cy) ids ad 2 yX11_rests cX11_rests 2 none [rf 300, nu a1] μ r μ' := by
  refine KK.of (by decide +kernel) (Nat.le_of_ble_eq_true rfl) ?_
  intro p e s m args below meth c A C hCF
  unfold f_X11_rests at hf
  refine V_in (fun ho0 _ => ?_)
  refine r_aload_n C 0 rfl rfl dX11_rests_0 ?_
  refine r_getf C 300 (by decide) rfl (fx_m rfl) (ly_300 cy _ _) rfl in_X11 6 (by decide) tw_901 (v := rf 302) rfl dX11_rests_1 ?_
  refine r_iload_n C 1 rfl rfl dX11_rests_4 ?_
  refine r_iconst C dX11_rests_5 ?_
  obtain ⟨g1, hf⟩ := of_g hf
  refine r_iast C 302 (by decide) rfl (fx_m rfl) (by decide) 0 (cA := cy 0) (n := 6) (fun f => ly_302 cy _ f) rfl g1 (by decide) (inR_lit rfl) dX11_rests_6 (fun μ2 hμ4 => ?_)
  replace hf := of_lm hf hμ4
  refine V_in (fun ho3 _ => ?_)
  refine r_aload_n C 0 rfl rfl dX11_rests_7 ?_
  refine r_getf C 300 (by decide) rfl (fx_m rfl) (ly_300 cy _ _) rfl in_X11 7 (by decide) tw_902 (v := rf 303) rfl dX11_rests_8 ?_
  refine r_iload_n C 1 rfl rfl dX11_rests_11 ?_
  refine r_iconst C dX11_rests_12 ?_
  refine r_iast C 303 (by decide) rfl (fx_m rfl) (by decide) 0 (cA := cy 0) (n := 6) (fun f => ly_303 cy _ f) rfl g1 (by decide) (inR_lit rfl) dX11_rests_13 (fun μ5 hμ7 => ?_)
  replace hf := of_lm hf hμ7
  refine V_in (fun ho6 _ => ?_)
  obtain ⟨-, rfl⟩ := of_ret hf
  exact r_vret C rfl dX11_rests_14
set_option maxHeartbeats 4000000 in
set_option maxRecDepth 100000 in
theorem c_X11_callOff {l : Launch} {D : va_G} {cy : Nat → ClassId} {ids : List Nat} {ad : Nat → Nat} {μ μ' : Mem} {a1 r : Int} (h1 : inR a1) (hf : f_X11_callOff μ a1 = some (r, μ')) : KK aI l D (tyl cy) (lay cy) ids ad 4 yX11_callOff cX11_callOff 2 (some .boolean) [rf 300, nu a1] μ r μ' := by
  refine KK.of (by decide +kernel) (Nat.le_of_ble_eq_true rfl) ?_
  intro p e s m args below meth c A C hCF
  unfold f_X11_callOff at hf
  refine V_in (fun ho0 _ => ?_)
  refine r_iload_n C 1 rfl rfl dX11_callOff_0 ?_
  refine r_iconst C dX11_callOff_1 ?_
  refine r_aload_n C 0 rfl rfl dX11_callOff_2 ?_
  refine r_getf C 300 (by decide) rfl (fx_m rfl) (ly_300 cy _ _) rfl in_X11 2 (by decide) tw_897 (v := nu (μ 300 2)) rfl dX11_callOff_3 ?_
  refine r_iconst C dX11_callOff_6 ?_
  refine r_isub C dX11_callOff_7 ?_
  obtain ⟨g1, hf⟩ := of_g hf
  obtain ⟨r2, μ3, hc4, hf⟩ := of_bd hf
  refine r_callSI C hCF (As := [nu a1, nu 0, nu ((μ 300 2) - 1)]) (c_X11_in h1 (inR_lit rfl) g1 hc4) rfl (by decide) (by decide) ⟨Nat.le_refl 0, Nat.le_refl 0⟩ tw_1063 tw_1065 tw_10 tw_1064 3 (by decide) rfl (Nat.le_of_ble_eq_true rfl) dX11_callOff_8 (fun hr6 => ?_)
  refine V_in (fun ho5 _ => ?_)
  refine r_if_eq C 24 hr6 rfl dX11_callOff_11 (fun c7 => ?_) (fun c7 => ?_)
  · replace hf := if_t hf c7
    refine r_iconst C dX11_callOff_24 ?_
    obtain ⟨rfl, rfl⟩ := of_ret hf
    exact r_zret C rfl (by decide) dX11_callOff_25
  · replace hf := if_f hf c7
    refine r_aload_n C 0 rfl rfl dX11_callOff_14 ?_
    refine r_getf C 300 (by decide) rfl (fx_m rfl) (ly_300 cy _ _) rfl in_X11 6 (by decide) tw_901 (v := rf 302) rfl dX11_callOff_15 ?_
    refine r_iload_n C 1 rfl rfl dX11_callOff_18 ?_
    obtain ⟨g8, hf⟩ := of_g hf
    refine r_iald C 302 (by decide) rfl (fx_m rfl) 0 (cA := cy 0) (n := 6) (ly_302 cy _ _) rfl g8 (by decide) dX11_callOff_19 ?_
    refine r_iconst C dX11_callOff_20 ?_
    refine r_icmp_ne C 26 (ho5 _ _) (inR_lit rfl) rfl dX11_callOff_21 (fun c9 => ?_) (fun c9 => ?_)
    · replace hf := if_f hf c9
      refine r_aload_n C 0 rfl rfl dX11_callOff_26 ?_
      refine r_getf C 300 (by decide) rfl (fx_m rfl) (ly_300 cy _ _) rfl in_X11 6 (by decide) tw_901 (v := rf 302) rfl dX11_callOff_27 ?_
      refine r_iload_n C 1 rfl rfl dX11_callOff_30 ?_
      refine r_iald C 302 (by decide) rfl (fx_m rfl) 0 (cA := cy 0) (n := 6) (ly_302 cy _ _) rfl g8 (by decide) dX11_callOff_31 ?_
      refine r_bipush C dX11_callOff_32 rfl ?_
      refine r_icmp_eq C 65 (ho5 _ _) (inR_lit rfl) rfl dX11_callOff_34 (fun c10 => ?_) (fun c10 => ?_)
      · replace hf := if_t hf c10
        refine r_aload_n C 0 rfl rfl dX11_callOff_65 ?_
        refine r_iload_n C 1 rfl rfl dX11_callOff_66 ?_
        obtain ⟨r11, μ12, hc13, hf⟩ := of_bd hf
        refine r_callVV C hCF (As := [nu a1]) 300 (by decide) rfl (fx_m rfl) (ly_300 cy _ _) rfl (c_X11_rests h1 hc13) rfl (by decide) (by decide) ⟨Nat.le_refl 0, Nat.le_refl 0⟩ tw_1163 tw_1166 tw_10 tw_1165 ts_50 1 (by decide) rfl (Nat.le_of_ble_eq_true rfl) dX11_callOff_67 ?_
        refine V_in (fun ho14 _ => ?_)
        refine r_iconst C dX11_callOff_70 ?_
        obtain ⟨rfl, rfl⟩ := of_ret hf
        exact r_zret C rfl (by decide) dX11_callOff_71
      · replace hf := if_f hf c10
        refine r_aload_n C 0 rfl rfl dX11_callOff_37 ?_
        refine r_getf C 300 (by decide) rfl (fx_m rfl) (ly_300 cy _ _) rfl in_X11 29 (by decide) tw_924 (v := rf 317) rfl dX11_callOff_38 ?_
        refine r_aload_n C 0 rfl rfl dX11_callOff_41 ?_
        refine r_getf C 300 (by decide) rfl (fx_m rfl) (ly_300 cy _ _) rfl in_X11 6 (by decide) tw_901 (v := rf 302) rfl dX11_callOff_42 ?_
        refine r_iload_n C 1 rfl rfl dX11_callOff_45 ?_
        refine r_iald C 302 (by decide) rfl (fx_m rfl) 0 (cA := cy 0) (n := 6) (ly_302 cy _ _) rfl g8 (by decide) dX11_callOff_46 ?_
        obtain ⟨g16, hf⟩ := of_g hf
        refine r_iald C 317 (by decide) rfl (fx_m rfl) 0 (cA := cy 0) (n := 30) (ly_317 cy _ _) rfl g16 (by decide) dX11_callOff_47 ?_
        refine r_iconst C dX11_callOff_48 ?_
        refine r_icmp_ne C 65 (ho5 _ _) (inR_lit rfl) rfl dX11_callOff_49 (fun c17 => ?_) (fun c17 => ?_)
        · replace hf := if_f hf c17
          refine r_aload_n C 0 rfl rfl dX11_callOff_65 ?_
          refine r_iload_n C 1 rfl rfl dX11_callOff_66 ?_
          obtain ⟨r18, μ19, hc20, hf⟩ := of_bd hf
          refine r_callVV C hCF (As := [nu a1]) 300 (by decide) rfl (fx_m rfl) (ly_300 cy _ _) rfl (c_X11_rests h1 hc20) rfl (by decide) (by decide) ⟨Nat.le_refl 0, Nat.le_refl 0⟩ tw_1163 tw_1166 tw_10 tw_1165 ts_50 1 (by decide) rfl (Nat.le_of_ble_eq_true rfl) dX11_callOff_67 ?_
          refine V_in (fun ho21 _ => ?_)
          refine r_iconst C dX11_callOff_70 ?_
          obtain ⟨rfl, rfl⟩ := of_ret hf
          exact r_zret C rfl (by decide) dX11_callOff_71
        · replace hf := if_t hf c17
          refine r_aload_n C 0 rfl rfl dX11_callOff_52 ?_
          refine r_getf C 300 (by decide) rfl (fx_m rfl) (ly_300 cy _ _) rfl in_X11 29 (by decide) tw_924 (v := rf 317) rfl dX11_callOff_53 ?_
          refine r_aload_n C 0 rfl rfl dX11_callOff_56 ?_
          refine r_getf C 300 (by decide) rfl (fx_m rfl) (ly_300 cy _ _) rfl in_X11 6 (by decide) tw_901 (v := rf 302) rfl dX11_callOff_57 ?_
          refine r_iload_n C 1 rfl rfl dX11_callOff_60 ?_
          refine r_iald C 302 (by decide) rfl (fx_m rfl) 0 (cA := cy 0) (n := 6) (ly_302 cy _ _) rfl g8 (by decide) dX11_callOff_61 ?_
          refine r_bipush C dX11_callOff_62 rfl ?_
          refine r_iast C 317 (by decide) rfl (fx_m rfl) (by decide) 0 (cA := cy 0) (n := 30) (fun f => ly_317 cy _ f) rfl g16 (by decide) (inR_lit rfl) dX11_callOff_64 (fun μ23 hμ25 => ?_)
          replace hf := of_lm hf hμ25
          refine V_in (fun ho24 _ => ?_)
          refine r_aload_n C 0 rfl rfl dX11_callOff_65 ?_
          refine r_iload_n C 1 rfl rfl dX11_callOff_66 ?_
          obtain ⟨r26, μ27, hc28, hf⟩ := of_bd hf
          refine r_callVV C hCF (As := [nu a1]) 300 (by decide) rfl (fx_m rfl) (ly_300 cy _ _) rfl (c_X11_rests h1 hc28) rfl (by decide) (by decide) ⟨Nat.le_refl 0, Nat.le_refl 0⟩ tw_1163 tw_1166 tw_10 tw_1165 ts_50 1 (by decide) rfl (Nat.le_of_ble_eq_true rfl) dX11_callOff_67 ?_
          refine V_in (fun ho29 _ => ?_)
          refine r_iconst C dX11_callOff_70 ?_
          obtain ⟨rfl, rfl⟩ := of_ret hf
          exact r_zret C rfl (by decide) dX11_callOff_71
    · replace hf := if_t hf c9
      refine r_iconst C dX11_callOff_24 ?_
      obtain ⟨rfl, rfl⟩ := of_ret hf
      exact r_zret C rfl (by decide) dX11_callOff_25
set_option maxHeartbeats 4000000 in
set_option maxRecDepth 100000 in
theorem w_X11_allMen_4 {p : Program} {l : Launch} {e : Env} {s : State} {m : MethodId} {args : Array Value} {below : List Frame} {meth : Method} {c : Code} {D : va_G} {cy : Nat → ClassId} {A : Nat → Prop} {ids : List Nat} {ad : Nat → Nat} {r : Int} {μ' : Mem} (C : Cx p s m args meth c D (tyl cy) A 3 cX11_allMen yX11_allMen.cls (some .int)) (hCF : CF ad A s) : ∀ n : Nat, ∀ (v1 v2 : Int) (μ : Mem), inR v1 → inR v2 → f_X11_allMen_4   n v1 v2 μ = some (r, μ') → V p l e (rmk 2) s m args below meth c 0 0 (MQ below (aI D (tyl cy) (lay cy) ids ad A r μ') args s 0 0 A) D A (lay cy) ids ad 3 μ 4 [some (rf 300), some (nu v1), some (nu v2)] [] := by
  intro n
  induction n with
  | zero =>
    intro v1 v2 μ hv1 hv2 hf
    cases hf
  | succ n ih =>
    intro v1 v2 μ hv1 hv2 hf
    rw [f_X11_allMen_4_e] at hf
    refine V_in (fun ho0 _ => ?_)
    refine r_iload_n C 2 rfl rfl dX11_allMen_4 ?_
    refine r_aload_n C 0 rfl rfl dX11_allMen_5 ?_
    refine r_getf C 300 (by decide) rfl (fx_m rfl) (ly_300 cy _ _) rfl in_X11 2 (by decide) tw_897 (v := nu (μ 300 2)) rfl dX11_allMen_6 ?_
    refine r_icmp_ge C 27 hv2 (ho0 _ _) rfl dX11_allMen_9 (fun c1 => ?_) (fun c1 => ?_)
    · replace hf := if_t hf c1
      refine r_iload_n C 1 rfl rfl dX11_allMen_27 ?_
      obtain ⟨rfl, rfl⟩ := of_ret hf
      exact r_iret C rfl hv1 dX11_allMen_28
    · replace hf := if_f hf c1
      refine r_iload_n C 1 rfl rfl dX11_allMen_12 ?_
      refine r_aload_n C 0 rfl rfl dX11_allMen_13 ?_
      refine r_getf C 300 (by decide) rfl (fx_m rfl) (ly_300 cy _ _) rfl in_X11 5 (by decide) tw_900 (v := rf 301) rfl dX11_allMen_14 ?_
      refine r_iload_n C 2 rfl rfl dX11_allMen_17 ?_
      obtain ⟨g2, hf⟩ := of_g hf
      refine r_iald C 301 (by decide) rfl (fx_m rfl) 0 (cA := cy 0) (n := 6) (ly_301 cy _ _) rfl g2 (by decide) dX11_allMen_18 ?_
      refine r_iadd C dX11_allMen_19 ?_
      refine r_istore_n C 1 (lw := [some (rf 300), some (nu (v1 + (μ 301 v2.toNat))), some (nu v2)]) rfl rfl (by decide) dX11_allMen_20 ?_
      refine r_iinc C rfl (lw := [some (rf 300), some (nu (v1 + (μ 301 v2.toNat))), some (nu (v2 + 1))]) rfl (by decide) dX11_allMen_21 ?_
      refine r_goto C 4 rfl dX11_allMen_24 ?_
      obtain ⟨g3, hf⟩ := of_g hf
      obtain ⟨g4, hf⟩ := of_g hf
      exact V_lw (ih (v1 + (μ 301 v2.toNat)) (v2 + 1) μ g3 g4 hf) (And.intro rfl (And.intro rfl (And.intro rfl trivial)))
set_option maxHeartbeats 4000000 in
set_option maxRecDepth 100000 in
theorem c_X11_allMen {l : Launch} {D : va_G} {cy : Nat → ClassId} {ids : List Nat} {ad : Nat → Nat} {μ μ' : Mem} { r : Int}  (hf : f_X11_allMen μ  = some (r, μ')) : KK aI l D (tyl cy) (lay cy) ids ad 2 yX11_allMen cX11_allMen 3 (some .int) [rf 300] μ r μ' := by
  refine KK.of (by decide +kernel) (Nat.le_of_ble_eq_true rfl) ?_
  intro p e s m args below meth c A C hCF
  unfold f_X11_allMen at hf
  refine V_in (fun ho0 _ => ?_)
  refine r_iconst C dX11_allMen_0 ?_
  refine r_istore_n C 1 (lw := [some (rf 300), some (nu 0), none]) rfl rfl (by decide) dX11_allMen_1 ?_
  refine r_iconst C dX11_allMen_2 ?_
  refine r_istore_n C 2 (lw := [some (rf 300), some (nu 0), some (nu 0)]) rfl rfl (by decide) dX11_allMen_3 ?_
  exact V_lw (w_X11_allMen_4 C hCF 64 0 0 μ (inR_lit rfl) (inR_lit rfl) hf) (And.intro rfl (And.intro rfl (And.intro rfl trivial)))
set_option maxHeartbeats 4000000 in
set_option maxRecDepth 100000 in
theorem w_X11_works_103 {p : Program} {l : Launch} {e : Env} {s : State} {m : MethodId} {args : Array Value} {below : List Frame} {meth : Method} {c : Code} {D : va_G} {cy : Nat → ClassId} {A : Nat → Prop} {ids : List Nat} {ad : Nat → Nat} {r : Int} {μ' : Mem} (C : Cx p s m args meth c D (tyl cy) A 4 cX11_works yX11_works.cls none) (hCF : CF ad A s) : ∀ (v1 v2 : Int) (μ : Mem), inR v1 → inR v2 → f_X11_works_103   v1 v2 μ = some (r, μ') → V p l e (rmk 6) s m args below meth c 0 0 (MQ below (aV D (tyl cy) (lay cy) ids ad A r μ') args s 0 0 A) D A (lay cy) ids ad 4 μ 103 [some (rf 300), some (nu v1), some (nu v2), none] [] := by
  intro v1 v2 μ hv1 hv2 hf
  unfold f_X11_works_103 at hf
  refine V_in (fun ho0 _ => ?_)
  refine r_aload_n C 0 rfl rfl dX11_works_103 ?_
  refine r_getf C 300 (by decide) rfl (fx_m rfl) (ly_300 cy _ _) rfl in_X11 7 (by decide) tw_902 (v := rf 303) rfl dX11_works_104 ?_
  refine r_iload_n C 1 rfl rfl dX11_works_107 ?_
  obtain ⟨g1, hf⟩ := of_g hf
  refine r_iald C 303 (by decide) rfl (fx_m rfl) 0 (cA := cy 0) (n := 6) (ly_303 cy _ _) rfl g1 (by decide) dX11_works_108 ?_
  refine r_if_le C 113 (ho0 _ _) rfl dX11_works_109 (fun c2 => ?_) (fun c2 => ?_)
  · replace hf := if_t hf c2
    refine r_aload_n C 0 rfl rfl dX11_works_113 ?_
    refine r_iload_n C 1 rfl rfl dX11_works_114 ?_
    obtain ⟨r3, μ4, hc5, hf⟩ := of_bd hf
    refine r_callVV C hCF (As := [nu v1]) 300 (by decide) rfl (fx_m rfl) (ly_300 cy _ _) rfl (c_X11_rests hv1 hc5) rfl (by decide) (by decide) ⟨Nat.le_refl 0, Nat.le_refl 0⟩ tw_1163 tw_1166 tw_10 tw_1165 ts_50 1 (by decide) rfl (Nat.le_of_ble_eq_true rfl) dX11_works_115 ?_
    refine V_in (fun ho6 _ => ?_)
    refine r_iload_n C 2 rfl rfl dX11_works_118 ?_
    refine r_bipush C dX11_works_119 rfl ?_
    refine r_icmp_ne C 135 hv2 (inR_lit rfl) rfl dX11_works_121 (fun c8 => ?_) (fun c8 => ?_)
    · replace hf := if_f hf c8
      refine r_aload_n C 0 rfl rfl dX11_works_135 ?_
      refine r_getf C 300 (by decide) rfl (fx_m rfl) (ly_300 cy _ _) rfl in_X11 29 (by decide) tw_924 (v := rf 317) rfl dX11_works_136 ?_
      refine r_iload_n C 2 rfl rfl dX11_works_139 ?_
      refine r_dup2 C dX11_works_140 ?_
      obtain ⟨g9, hf⟩ := of_g hf
      refine r_iald C 317 (by decide) rfl (fx_m rfl) 0 (cA := cy 0) (n := 30) (ly_317 cy _ _) rfl g9 (by decide) dX11_works_141 ?_
      refine r_iconst C dX11_works_142 ?_
      refine r_iadd C dX11_works_143 ?_
      obtain ⟨g10, hf⟩ := of_g hf
      refine r_iast C 317 (by decide) rfl (fx_m rfl) (by decide) 0 (cA := cy 0) (n := 30) (fun f => ly_317 cy _ f) rfl g9 (by decide) g10 dX11_works_144 (fun μ11 hμ13 => ?_)
      replace hf := of_lm hf hμ13
      refine V_in (fun ho12 _ => ?_)
      refine r_aload_n C 0 rfl rfl dX11_works_145 ?_
      refine r_getf C 300 (by decide) rfl (fx_m rfl) (ly_300 cy _ _) rfl in_X11 29 (by decide) tw_924 (v := rf 317) rfl dX11_works_146 ?_
      refine r_iload_n C 2 rfl rfl dX11_works_149 ?_
      refine r_iald C 317 (by decide) rfl (fx_m rfl) 0 (cA := cy 0) (n := 30) (ly_317 cy _ _) rfl g9 (by decide) dX11_works_150 ?_
      refine r_iconst C dX11_works_151 ?_
      refine r_icmp_ne C 182 (ho12 _ _) (inR_lit rfl) rfl dX11_works_152 (fun c14 => ?_) (fun c14 => ?_)
      · replace hf := if_f hf c14
        obtain ⟨-, rfl⟩ := of_ret hf
        exact r_vret C rfl dX11_works_182
      · replace hf := if_t hf c14
        refine r_aload_n C 0 rfl rfl dX11_works_155 ?_
        refine r_getf C 300 (by decide) rfl (fx_m rfl) (ly_300 cy _ _) rfl in_X11 30 (by decide) tw_925 (v := rf 318) rfl dX11_works_156 ?_
        refine r_iload_n C 2 rfl rfl dX11_works_159 ?_
        refine r_iload_n C 1 rfl rfl dX11_works_160 ?_
        refine r_iast C 318 (by decide) rfl (fx_m rfl) (by decide) 0 (cA := cy 0) (n := 30) (fun f => ly_318 cy _ f) rfl g9 (by decide) hv1 dX11_works_161 (fun μ15 hμ17 => ?_)
        replace hf := of_lm hf hμ17
        refine V_in (fun ho16 _ => ?_)
        refine r_aload_n C 0 rfl rfl dX11_works_162 ?_
        refine r_getf C 300 (by decide) rfl (fx_m rfl) (ly_300 cy _ _) rfl in_X11 31 (by decide) tw_926 (v := rf 319) rfl dX11_works_163 ?_
        refine r_iload_n C 2 rfl rfl dX11_works_166 ?_
        refine r_aload_n C 0 rfl rfl dX11_works_167 ?_
        refine r_getf C 300 (by decide) rfl (fx_m rfl) (ly_300 cy _ _) rfl in_X11 1 (by decide) tw_896 (v := nu (μ15 300 1)) rfl dX11_works_168 ?_
        refine r_iast C 319 (by decide) rfl (fx_m rfl) (by decide) 0 (cA := cy 0) (n := 30) (fun f => ly_319 cy _ f) rfl g9 (by decide) (ho16 _ _) dX11_works_171 (fun μ18 hμ20 => ?_)
        replace hf := of_lm hf hμ20
        refine V_in (fun ho19 _ => ?_)
        refine r_aload_n C 0 rfl rfl dX11_works_172 ?_
        refine r_getf C 300 (by decide) rfl (fx_m rfl) (ly_300 cy _ _) rfl in_X11 8 (by decide) tw_903 (v := rf 304) rfl dX11_works_173 ?_
        refine r_iload_n C 1 rfl rfl dX11_works_176 ?_
        refine r_dup2 C dX11_works_177 ?_
        refine r_iald C 304 (by decide) rfl (fx_m rfl) 0 (cA := cy 0) (n := 6) (ly_304 cy _ _) rfl g1 (by decide) dX11_works_178 ?_
        refine r_iconst C dX11_works_179 ?_
        refine r_iadd C dX11_works_180 ?_
        obtain ⟨g21, hf⟩ := of_g hf
        refine r_iast C 304 (by decide) rfl (fx_m rfl) (by decide) 0 (cA := cy 0) (n := 6) (fun f => ly_304 cy _ f) rfl g1 (by decide) g21 dX11_works_181 (fun μ22 hμ24 => ?_)
        replace hf := of_lm hf hμ24
        refine V_in (fun ho23 _ => ?_)
        obtain ⟨-, rfl⟩ := of_ret hf
        exact r_vret C rfl dX11_works_182
    · replace hf := if_t hf c8
      refine r_aload_n C 0 rfl rfl dX11_works_124 ?_
      refine r_dup C dX11_works_125 ?_
      refine r_getf C 300 (by decide) rfl (fx_m rfl) (ly_300 cy _ _) rfl in_X11 17 (by decide) tw_912 (v := nu (μ4 300 17)) rfl dX11_works_126 ?_
      refine r_iconst C dX11_works_129 ?_
      refine r_iadd C dX11_works_130 ?_
      obtain ⟨g25, hf⟩ := of_g hf
      refine r_putf C 300 (by decide) rfl (fx_m rfl) (by decide) (ly_300 cy _ _) 17 (ly_300 cy _ _) rfl (Nat.le_of_ble_eq_true rfl) g25 rfl in_X11 tyX11 tyX11_ok nmX11 (by decide) tw_912 rfl rfl dX11_works_131 (fun μ26 hμ28 => ?_)
      replace hf := of_lm hf hμ28
      refine V_in (fun ho27 _ => ?_)
      obtain ⟨-, rfl⟩ := of_ret hf
      exact r_vret C rfl dX11_works_134
  · replace hf := if_f hf c2
    obtain ⟨-, rfl⟩ := of_ret hf
    exact r_vret C rfl dX11_works_112
set_option maxHeartbeats 4000000 in
set_option maxRecDepth 100000 in
theorem w_X11_works_22 {p : Program} {l : Launch} {e : Env} {s : State} {m : MethodId} {args : Array Value} {below : List Frame} {meth : Method} {c : Code} {D : va_G} {cy : Nat → ClassId} {A : Nat → Prop} {ids : List Nat} {ad : Nat → Nat} {r : Int} {μ' : Mem} (C : Cx p s m args meth c D (tyl cy) A 4 cX11_works yX11_works.cls none) (hCF : CF ad A s) : ∀ (v1 v2 : Int) (μ : Mem), inR v1 → inR v2 → f_X11_works_22   v1 v2 μ = some (r, μ') → V p l e (rmk 6) s m args below meth c 0 0 (MQ below (aV D (tyl cy) (lay cy) ids ad A r μ') args s 0 0 A) D A (lay cy) ids ad 4 μ 22 [some (rf 300), some (nu v1), some (nu v2), none] [] := by
  intro v1 v2 μ hv1 hv2 hf
  unfold f_X11_works_22 at hf
  refine V_in (fun ho0 _ => ?_)
  refine r_aload_n C 0 rfl rfl dX11_works_22 ?_
  refine r_getf C 300 (by decide) rfl (fx_m rfl) (ly_300 cy _ _) rfl in_X11 7 (by decide) tw_902 (v := rf 303) rfl dX11_works_23 ?_
  refine r_iload_n C 1 rfl rfl dX11_works_26 ?_
  refine r_dup2 C dX11_works_27 ?_
  obtain ⟨g1, hf⟩ := of_g hf
  refine r_iald C 303 (by decide) rfl (fx_m rfl) 0 (cA := cy 0) (n := 6) (ly_303 cy _ _) rfl g1 (by decide) dX11_works_28 ?_
  refine r_aload_n C 0 rfl rfl dX11_works_29 ?_
  refine r_getf C 300 (by decide) rfl (fx_m rfl) (ly_300 cy _ _) rfl in_X11 5 (by decide) tw_900 (v := rf 301) rfl dX11_works_30 ?_
  refine r_iload_n C 1 rfl rfl dX11_works_33 ?_
  refine r_iald C 301 (by decide) rfl (fx_m rfl) 0 (cA := cy 0) (n := 6) (ly_301 cy _ _) rfl g1 (by decide) dX11_works_34 ?_
  refine r_isub C dX11_works_35 ?_
  obtain ⟨g2, hf⟩ := of_g hf
  refine r_iast C 303 (by decide) rfl (fx_m rfl) (by decide) 0 (cA := cy 0) (n := 6) (fun f => ly_303 cy _ f) rfl g1 (by decide) g2 dX11_works_36 (fun μ3 hμ5 => ?_)
  replace hf := of_lm hf hμ5
  refine V_in (fun ho4 _ => ?_)
  refine r_goto C 103 rfl dX11_works_37 ?_
  exact V_lw (w_X11_works_103 C hCF v1 v2 μ3 hv1 hv2 hf) (And.intro rfl (And.intro rfl (And.intro rfl trivial)))
set_option maxHeartbeats 4000000 in
set_option maxRecDepth 100000 in
theorem w_X11_works_82 {p : Program} {l : Launch} {e : Env} {s : State} {m : MethodId} {args : Array Value} {below : List Frame} {meth : Method} {c : Code} {D : va_G} {cy : Nat → ClassId} {A : Nat → Prop} {ids : List Nat} {ad : Nat → Nat} {r : Int} {μ' : Mem} (C : Cx p s m args meth c D (tyl cy) A 4 cX11_works yX11_works.cls none) (hCF : CF ad A s) : ∀ (v1 : Int) (μ : Mem), inR v1 → f_X11_works_82   v1 μ = some (r, μ') → V p l e (rmk 6) s m args below meth c 0 0 (MQ below (aV D (tyl cy) (lay cy) ids ad A r μ') args s 0 0 A) D A (lay cy) ids ad 4 μ 82 [some (rf 300), some (nu v1), none, none] [] := by
  intro v1 μ hv1 hf
  unfold f_X11_works_82 at hf
  refine V_in (fun ho0 _ => ?_)
  refine r_aload_n C 0 rfl rfl dX11_works_82 ?_
  refine r_getf C 300 (by decide) rfl (fx_m rfl) (ly_300 cy _ _) rfl in_X11 9 (by decide) tw_904 (v := rf 305) rfl dX11_works_83 ?_
  refine r_iload_n C 1 rfl rfl dX11_works_86 ?_
  refine r_dup2 C dX11_works_87 ?_
  obtain ⟨g1, hf⟩ := of_g hf
  refine r_iald C 305 (by decide) rfl (fx_m rfl) 0 (cA := cy 0) (n := 6) (ly_305 cy _ _) rfl g1 (by decide) dX11_works_88 ?_
  refine r_iconst C dX11_works_89 ?_
  refine r_iadd C dX11_works_90 ?_
  obtain ⟨g2, hf⟩ := of_g hf
  refine r_iast C 305 (by decide) rfl (fx_m rfl) (by decide) 0 (cA := cy 0) (n := 6) (fun f => ly_305 cy _ f) rfl g1 (by decide) g2 dX11_works_91 (fun μ3 hμ5 => ?_)
  replace hf := of_lm hf hμ5
  refine V_in (fun ho4 _ => ?_)
  obtain ⟨-, rfl⟩ := of_ret hf
  exact r_vret C rfl dX11_works_92
set_option maxHeartbeats 4000000 in
set_option maxRecDepth 100000 in
theorem c_X11_works {l : Launch} {D : va_G} {cy : Nat → ClassId} {ids : List Nat} {ad : Nat → Nat} {μ μ' : Mem} {a1 r : Int} (h1 : inR a1) (hf : f_X11_works μ a1 = some (r, μ')) : KK aV l D (tyl cy) (lay cy) ids ad 6 yX11_works cX11_works 4 none [rf 300, nu a1] μ r μ' := by
  refine KK.of (by decide +kernel) (Nat.le_of_ble_eq_true rfl) ?_
  intro p e s m args below meth c A C hCF
  unfold f_X11_works at hf
  refine V_in (fun ho0 _ => ?_)
  refine r_aload_n C 0 rfl rfl dX11_works_0 ?_
  refine r_getf C 300 (by decide) rfl (fx_m rfl) (ly_300 cy _ _) rfl in_X11 6 (by decide) tw_901 (v := rf 302) rfl dX11_works_1 ?_
  refine r_iload_n C 1 rfl rfl dX11_works_4 ?_
  obtain ⟨g1, hf⟩ := of_g hf
  refine r_iald C 302 (by decide) rfl (fx_m rfl) 0 (cA := cy 0) (n := 6) (ly_302 cy _ _) rfl g1 (by decide) dX11_works_5 ?_
  refine r_istore_n C 2 (lw := [some (rf 300), some (nu a1), some (nu (μ 302 a1.toNat)), none]) rfl rfl (by decide) dX11_works_6 ?_
  refine r_iload_n C 2 rfl rfl dX11_works_7 ?_
  refine r_bipush C dX11_works_8 rfl ?_
  refine r_icmp_eq C 22 (ho0 _ _) (inR_lit rfl) rfl dX11_works_10 (fun c2 => ?_) (fun c2 => ?_)
  · replace hf := if_t hf c2
    exact V_lw (w_X11_works_22 C hCF a1 (μ 302 a1.toNat) μ h1 (ho0 _ _) hf) (And.intro rfl (And.intro rfl (And.intro rfl trivial)))
  · replace hf := if_f hf c2
    refine r_aload_n C 0 rfl rfl dX11_works_13 ?_
    refine r_getf C 300 (by decide) rfl (fx_m rfl) (ly_300 cy _ _) rfl in_X11 29 (by decide) tw_924 (v := rf 317) rfl dX11_works_14 ?_
    refine r_iload_n C 2 rfl rfl dX11_works_17 ?_
    obtain ⟨g3, hf⟩ := of_g hf
    refine r_iald C 317 (by decide) rfl (fx_m rfl) 0 (cA := cy 0) (n := 30) (ly_317 cy _ _) rfl g3 (by decide) dX11_works_18 ?_
    refine r_if_ne C 40 (ho0 _ _) rfl dX11_works_19 (fun c4 => ?_) (fun c4 => ?_)
    · replace hf := if_f hf c4
      refine r_aload_n C 0 rfl rfl dX11_works_40 ?_
      refine r_iload_n C 2 rfl rfl dX11_works_41 ?_
      refine r_aload_n C 0 rfl rfl dX11_works_42 ?_
      refine r_getf C 300 (by decide) rfl (fx_m rfl) (ly_300 cy _ _) rfl in_X11 29 (by decide) tw_924 (v := rf 317) rfl dX11_works_43 ?_
      refine r_iload_n C 2 rfl rfl dX11_works_46 ?_
      refine r_iald C 317 (by decide) rfl (fx_m rfl) 0 (cA := cy 0) (n := 30) (ly_317 cy _ _) rfl g3 (by decide) dX11_works_47 ?_
      refine r_aload_n C 0 rfl rfl dX11_works_48 ?_
      refine r_iconst C dX11_works_49 ?_
      refine r_aload_n C 0 rfl rfl dX11_works_50 ?_
      refine r_getf C 300 (by decide) rfl (fx_m rfl) (ly_300 cy _ _) rfl in_X11 1 (by decide) tw_896 (v := nu (μ 300 1)) rfl dX11_works_51 ?_
      obtain ⟨r5, μ6, hc7, hf⟩ := of_bd hf
      refine r_callVI C hCF (As := [nu 1, nu (μ 300 1)]) 300 (by decide) rfl (fx_m rfl) (ly_300 cy _ _) rfl (c_X11_is (inR_lit rfl) (ho0 _ _) hc7) rfl (by decide) (by decide) ⟨Nat.le_refl 0, Nat.le_refl 0⟩ tw_1143 tw_1146 tw_10 tw_1145 ts_47 2 (by decide) rfl (Nat.le_of_ble_eq_true rfl) dX11_works_54 (fun hr9 => ?_)
      refine V_in (fun ho8 _ => ?_)
      obtain ⟨r10, μ11, hc12, hf⟩ := of_bd hf
      refine r_callVI C hCF (As := [nu (μ 302 a1.toNat), nu (μ 317 (μ 302 a1.toNat).toNat), nu r5]) 300 (by decide) rfl (fx_m rfl) (ly_300 cy _ _) rfl (c_X11_pull (ho0 _ _) (ho0 _ _) hr9 hc12) rfl (by decide) (by decide) ⟨Nat.le_refl 0, Nat.le_refl 0⟩ tw_1147 tw_1150 tw_10 tw_1149 ts_48 3 (by decide) rfl (Nat.le_of_ble_eq_true rfl) dX11_works_57 (fun hr14 => ?_)
      refine V_in (fun ho13 _ => ?_)
      refine r_istore_n C 3 (lw := [some (rf 300), some (nu a1), some (nu (μ 302 a1.toNat)), some (nu r10)]) rfl rfl (by decide) dX11_works_60 ?_
      refine r_iload_n C 3 rfl rfl dX11_works_61 ?_
      refine r_aload_n C 0 rfl rfl dX11_works_62 ?_
      refine r_getf C 300 (by decide) rfl (fx_m rfl) (ly_300 cy _ _) rfl in_X11 23 (by decide) tw_918 (v := rf 312) rfl dX11_works_63 ?_
      refine r_bipush C dX11_works_66 rfl ?_
      refine r_iald C 312 (by decide) rfl (fx_m rfl) 0 (cA := cy 0) (n := 9) (ly_312 cy _ _) rfl ⟨by decide, by decide⟩ (by decide) dX11_works_68 ?_
      refine r_icmp_gt C 82 hr14 (ho13 _ _) rfl dX11_works_69 (fun c15 => ?_) (fun c15 => ?_)
      · replace hf := if_t hf c15
        exact V_lw (w_X11_works_82 C hCF a1 μ11 h1 hf) (And.intro rfl (And.intro rfl trivial))
      · replace hf := if_f hf c15
        refine r_iload_n C 3 rfl rfl dX11_works_72 ?_
        refine r_aload_n C 0 rfl rfl dX11_works_73 ?_
        refine r_getf C 300 (by decide) rfl (fx_m rfl) (ly_300 cy _ _) rfl in_X11 5 (by decide) tw_900 (v := rf 301) rfl dX11_works_74 ?_
        refine r_iload_n C 1 rfl rfl dX11_works_77 ?_
        refine r_iald C 301 (by decide) rfl (fx_m rfl) 0 (cA := cy 0) (n := 6) (ly_301 cy _ _) rfl g1 (by decide) dX11_works_78 ?_
        refine r_icmp_le C 93 hr14 (ho13 _ _) rfl dX11_works_79 (fun c16 => ?_) (fun c16 => ?_)
        · replace hf := if_t hf c16
          refine r_aload_n C 0 rfl rfl dX11_works_93 ?_
          refine r_getf C 300 (by decide) rfl (fx_m rfl) (ly_300 cy _ _) rfl in_X11 7 (by decide) tw_902 (v := rf 303) rfl dX11_works_94 ?_
          refine r_iload_n C 1 rfl rfl dX11_works_97 ?_
          refine r_dup2 C dX11_works_98 ?_
          refine r_iald C 303 (by decide) rfl (fx_m rfl) 0 (cA := cy 0) (n := 6) (ly_303 cy _ _) rfl g1 (by decide) dX11_works_99 ?_
          refine r_iconst C dX11_works_100 ?_
          refine r_isub C dX11_works_101 ?_
          obtain ⟨g17, hf⟩ := of_g hf
          refine r_iast C 303 (by decide) rfl (fx_m rfl) (by decide) 0 (cA := cy 0) (n := 6) (fun f => ly_303 cy _ f) rfl g1 (by decide) g17 dX11_works_102 (fun μ18 hμ20 => ?_)
          replace hf := of_lm hf hμ20
          refine V_in (fun ho19 _ => ?_)
          exact V_lw (w_X11_works_103 C hCF a1 (μ 302 a1.toNat) μ18 h1 (ho0 _ _) hf) (And.intro rfl (And.intro rfl (And.intro rfl trivial)))
        · replace hf := if_f hf c16
          exact V_lw (w_X11_works_82 C hCF a1 μ11 h1 hf) (And.intro rfl (And.intro rfl trivial))
    · replace hf := if_t hf c4
      exact V_lw (w_X11_works_22 C hCF a1 (μ 302 a1.toNat) μ h1 (ho0 _ _) hf) (And.intro rfl (And.intro rfl (And.intro rfl trivial)))
set_option maxHeartbeats 4000000 in
set_option maxRecDepth 100000 in
theorem w_X11_day_236 {p : Program} {l : Launch} {e : Env} {s : State} {m : MethodId} {args : Array Value} {below : List Frame} {meth : Method} {c : Code} {D : va_G} {cy : Nat → ClassId} {A : Nat → Prop} {ids : List Nat} {ad : Nat → Nat} {r : Int} {μ' : Mem} (C : Cx p s m args meth c D (tyl cy) A 6 cX11_day yX11_day.cls none) (hCF : CF ad A s) (k133 : Int → Int → Int → Mem → Option (Int × Mem)) (hk133 : ∀ (v1 v3 v4 : Int) (μ : Mem), inR v1 → inR v3 → inR v4 → k133 v1 v3 v4 μ = some (r, μ') → V p l e (rmk 8) s m args below meth c 0 0 (MQ below (aV D (tyl cy) (lay cy) ids ad A r μ') args s 0 0 A) D A (lay cy) ids ad 6 μ 133 [some (rf 300), some (nu v1), none, some (nu v3), some (nu v4), none] []) : ∀ (v1 v3 v4 : Int) (μ : Mem), inR v1 → inR v3 → inR v4 → f_X11_day_236  k133 v1 v3 v4 μ = some (r, μ') → V p l e (rmk 8) s m args below meth c 0 0 (MQ below (aV D (tyl cy) (lay cy) ids ad A r μ') args s 0 0 A) D A (lay cy) ids ad 6 μ 236 [some (rf 300), some (nu v1), none, some (nu v3), some (nu v4), none] [] := by
  intro v1 v3 v4 μ hv1 hv3 hv4 hf
  unfold f_X11_day_236 at hf
  refine V_in (fun ho0 _ => ?_)
  refine r_aload_n C 0 rfl rfl dX11_day_236 ?_
  refine r_getf C 300 (by decide) rfl (fx_m rfl) (ly_300 cy _ _) rfl in_X11 6 (by decide) tw_901 (v := rf 302) rfl dX11_day_237 ?_
  refine r_iload C rfl dX11_day_240 ?_
  obtain ⟨g1, hf⟩ := of_g hf
  refine r_iald C 302 (by decide) rfl (fx_m rfl) 0 (cA := cy 0) (n := 6) (ly_302 cy _ _) rfl g1 (by decide) dX11_day_242 ?_
  refine r_iconst C dX11_day_243 ?_
  refine r_icmp_eq C 261 (ho0 _ _) (inR_lit rfl) rfl dX11_day_244 (fun c2 => ?_) (fun c2 => ?_)
  · replace hf := if_t hf c2
    refine r_iinc C rfl (lw := [some (rf 300), some (nu v1), none, some (nu v3), some (nu (v4 + 1)), none]) rfl (by decide) dX11_day_261 ?_
    refine r_goto C 133 rfl dX11_day_264 ?_
    obtain ⟨g3, hf⟩ := of_g hf
    exact V_lw (hk133 v1 v3 (v4 + 1) μ hv1 hv3 g3 hf) (And.intro rfl (And.intro rfl (And.intro rfl (And.intro rfl trivial))))
  · replace hf := if_f hf c2
    refine r_iload_n C 1 rfl rfl dX11_day_247 ?_
    refine r_if_ne C 261 hv1 rfl dX11_day_248 (fun c4 => ?_) (fun c4 => ?_)
    · replace hf := if_f hf c4
      refine r_iinc C rfl (lw := [some (rf 300), some (nu v1), none, some (nu v3), some (nu (v4 + 1)), none]) rfl (by decide) dX11_day_261 ?_
      refine r_goto C 133 rfl dX11_day_264 ?_
      obtain ⟨g5, hf⟩ := of_g hf
      exact V_lw (hk133 v1 v3 (v4 + 1) μ hv1 hv3 g5 hf) (And.intro rfl (And.intro rfl (And.intro rfl (And.intro rfl trivial))))
    · replace hf := if_t hf c4
      refine r_iload_n C 3 rfl rfl dX11_day_251 ?_
      refine r_if_ne C 261 hv3 rfl dX11_day_252 (fun c6 => ?_) (fun c6 => ?_)
      · replace hf := if_f hf c6
        refine r_iinc C rfl (lw := [some (rf 300), some (nu v1), none, some (nu v3), some (nu (v4 + 1)), none]) rfl (by decide) dX11_day_261 ?_
        refine r_goto C 133 rfl dX11_day_264 ?_
        obtain ⟨g7, hf⟩ := of_g hf
        exact V_lw (hk133 v1 v3 (v4 + 1) μ hv1 hv3 g7 hf) (And.intro rfl (And.intro rfl (And.intro rfl (And.intro rfl trivial))))
      · replace hf := if_t hf c6
        refine r_aload_n C 0 rfl rfl dX11_day_255 ?_
        refine r_iload C rfl dX11_day_256 ?_
        obtain ⟨r8, μ9, hc10, hf⟩ := of_bd hf
        refine r_callVV C hCF (As := [nu v4]) 300 (by decide) rfl (fx_m rfl) (ly_300 cy _ _) rfl (c_X11_works hv4 hc10) rfl (by decide) (by decide) ⟨Nat.le_refl 0, Nat.le_refl 0⟩ tw_1180 tw_1183 tw_10 tw_1182 ts_53 1 (by decide) rfl (Nat.le_of_ble_eq_true rfl) dX11_day_258 ?_
        refine V_in (fun ho11 _ => ?_)
        refine r_iinc C rfl (lw := [some (rf 300), some (nu v1), none, some (nu v3), some (nu (v4 + 1)), none]) rfl (by decide) dX11_day_261 ?_
        refine r_goto C 133 rfl dX11_day_264 ?_
        obtain ⟨g13, hf⟩ := of_g hf
        exact V_lw (hk133 v1 v3 (v4 + 1) μ9 hv1 hv3 g13 hf) (And.intro rfl (And.intro rfl (And.intro rfl (And.intro rfl trivial))))
set_option maxHeartbeats 4000000 in
set_option maxRecDepth 100000 in
theorem w_X11_day_213 {p : Program} {l : Launch} {e : Env} {s : State} {m : MethodId} {args : Array Value} {below : List Frame} {meth : Method} {c : Code} {D : va_G} {cy : Nat → ClassId} {A : Nat → Prop} {ids : List Nat} {ad : Nat → Nat} {r : Int} {μ' : Mem} (C : Cx p s m args meth c D (tyl cy) A 6 cX11_day yX11_day.cls none) (hCF : CF ad A s) (k133 : Int → Int → Int → Mem → Option (Int × Mem)) (hk133 : ∀ (v1 v3 v4 : Int) (μ : Mem), inR v1 → inR v3 → inR v4 → k133 v1 v3 v4 μ = some (r, μ') → V p l e (rmk 8) s m args below meth c 0 0 (MQ below (aV D (tyl cy) (lay cy) ids ad A r μ') args s 0 0 A) D A (lay cy) ids ad 6 μ 133 [some (rf 300), some (nu v1), none, some (nu v3), some (nu v4), none] []) : ∀ (v1 v3 v4 : Int) (μ : Mem), inR v1 → inR v3 → inR v4 → f_X11_day_213  k133 v1 v3 v4 μ = some (r, μ') → V p l e (rmk 8) s m args below meth c 0 0 (MQ below (aV D (tyl cy) (lay cy) ids ad A r μ') args s 0 0 A) D A (lay cy) ids ad 6 μ 213 [some (rf 300), some (nu v1), none, some (nu v3), some (nu v4), none] [] := by
  intro v1 v3 v4 μ hv1 hv3 hv4 hf
  unfold f_X11_day_213 at hf
  refine V_in (fun ho0 _ => ?_)
  refine r_aload_n C 0 rfl rfl dX11_day_213 ?_
  refine r_getf C 300 (by decide) rfl (fx_m rfl) (ly_300 cy _ _) rfl in_X11 29 (by decide) tw_924 (v := rf 317) rfl dX11_day_214 ?_
  refine r_aload_n C 0 rfl rfl dX11_day_217 ?_
  refine r_getf C 300 (by decide) rfl (fx_m rfl) (ly_300 cy _ _) rfl in_X11 6 (by decide) tw_901 (v := rf 302) rfl dX11_day_218 ?_
  refine r_iload C rfl dX11_day_221 ?_
  obtain ⟨g1, hf⟩ := of_g hf
  refine r_iald C 302 (by decide) rfl (fx_m rfl) 0 (cA := cy 0) (n := 6) (ly_302 cy _ _) rfl g1 (by decide) dX11_day_223 ?_
  refine r_bipush C dX11_day_224 rfl ?_
  obtain ⟨g2, hf⟩ := of_g hf
  refine r_iast C 317 (by decide) rfl (fx_m rfl) (by decide) 0 (cA := cy 0) (n := 30) (fun f => ly_317 cy _ f) rfl g2 (by decide) (inR_lit rfl) dX11_day_226 (fun μ3 hμ5 => ?_)
  replace hf := of_lm hf hμ5
  refine V_in (fun ho4 _ => ?_)
  refine r_aload_n C 0 rfl rfl dX11_day_227 ?_
  refine r_iload C rfl dX11_day_228 ?_
  obtain ⟨r6, μ7, hc8, hf⟩ := of_bd hf
  refine r_callVV C hCF (As := [nu v4]) 300 (by decide) rfl (fx_m rfl) (ly_300 cy _ _) rfl (c_X11_rests hv4 hc8) rfl (by decide) (by decide) ⟨Nat.le_refl 0, Nat.le_refl 0⟩ tw_1163 tw_1166 tw_10 tw_1165 ts_50 1 (by decide) rfl (Nat.le_of_ble_eq_true rfl) dX11_day_230 ?_
  refine V_in (fun ho9 _ => ?_)
  refine r_goto C 261 rfl dX11_day_233 ?_
  refine r_iinc C rfl (lw := [some (rf 300), some (nu v1), none, some (nu v3), some (nu (v4 + 1)), none]) rfl (by decide) dX11_day_261 ?_
  refine r_goto C 133 rfl dX11_day_264 ?_
  obtain ⟨g11, hf⟩ := of_g hf
  exact V_lw (hk133 v1 v3 (v4 + 1) μ7 hv1 hv3 g11 hf) (And.intro rfl (And.intro rfl (And.intro rfl (And.intro rfl trivial))))
set_option maxHeartbeats 4000000 in
set_option maxRecDepth 100000 in
theorem w_X11_day_186 {p : Program} {l : Launch} {e : Env} {s : State} {m : MethodId} {args : Array Value} {below : List Frame} {meth : Method} {c : Code} {D : va_G} {cy : Nat → ClassId} {A : Nat → Prop} {ids : List Nat} {ad : Nat → Nat} {r : Int} {μ' : Mem} (C : Cx p s m args meth c D (tyl cy) A 6 cX11_day yX11_day.cls none) (hCF : CF ad A s) (k133 : Int → Int → Int → Mem → Option (Int × Mem)) (hk133 : ∀ (v1 v3 v4 : Int) (μ : Mem), inR v1 → inR v3 → inR v4 → k133 v1 v3 v4 μ = some (r, μ') → V p l e (rmk 8) s m args below meth c 0 0 (MQ below (aV D (tyl cy) (lay cy) ids ad A r μ') args s 0 0 A) D A (lay cy) ids ad 6 μ 133 [some (rf 300), some (nu v1), none, some (nu v3), some (nu v4), none] []) : ∀ (v1 v3 v4 w0 : Int) (μ : Mem), inR v1 → inR v3 → inR v4 → inR w0 → f_X11_day_186  k133 v1 v3 v4 w0 μ = some (r, μ') → V p l e (rmk 8) s m args below meth c 0 0 (MQ below (aV D (tyl cy) (lay cy) ids ad A r μ') args s 0 0 A) D A (lay cy) ids ad 6 μ 186 [some (rf 300), some (nu v1), none, some (nu v3), some (nu v4), none] [nu w0] := by
  intro v1 v3 v4 w0 μ hv1 hv3 hv4 hw0 hf
  unfold f_X11_day_186 at hf
  refine V_in (fun ho0 _ => ?_)
  refine r_istore C (lw := [some (rf 300), some (nu v1), none, some (nu v3), some (nu v4), some (nu w0)]) rfl (by decide) dX11_day_186 ?_
  refine r_iload C rfl dX11_day_188 ?_
  refine r_if_eq C 236 hw0 rfl dX11_day_190 (fun c1 => ?_) (fun c1 => ?_)
  · replace hf := if_t hf c1
    exact V_lw (w_X11_day_236 C hCF k133 hk133 v1 v3 v4 μ hv1 hv3 hv4 hf) (And.intro rfl (And.intro rfl (And.intro rfl (And.intro rfl trivial))))
  · replace hf := if_f hf c1
    refine r_aload_n C 0 rfl rfl dX11_day_193 ?_
    refine r_iconst C dX11_day_194 ?_
    refine r_aload_n C 0 rfl rfl dX11_day_195 ?_
    refine r_getf C 300 (by decide) rfl (fx_m rfl) (ly_300 cy _ _) rfl in_X11 1 (by decide) tw_896 (v := nu (μ 300 1)) rfl dX11_day_196 ?_
    obtain ⟨r2, μ3, hc4, hf⟩ := of_bd hf
    refine r_callVI C hCF (As := [nu 0, nu (μ 300 1)]) 300 (by decide) rfl (fx_m rfl) (ly_300 cy _ _) rfl (c_X11_is (inR_lit rfl) (ho0 _ _) hc4) rfl (by decide) (by decide) ⟨Nat.le_refl 0, Nat.le_refl 0⟩ tw_1143 tw_1146 tw_10 tw_1145 ts_47 2 (by decide) rfl (Nat.le_of_ble_eq_true rfl) dX11_day_199 (fun hr6 => ?_)
    refine V_in (fun ho5 _ => ?_)
    refine r_if_eq C 213 hr6 rfl dX11_day_202 (fun c7 => ?_) (fun c7 => ?_)
    · replace hf := if_t hf c7
      exact V_lw (w_X11_day_213 C hCF k133 hk133 v1 v3 v4 μ3 hv1 hv3 hv4 hf) (And.intro rfl (And.intro rfl (And.intro rfl (And.intro rfl trivial))))
    · replace hf := if_f hf c7
      refine r_iload_n C 1 rfl rfl dX11_day_205 ?_
      refine r_if_ne C 213 hv1 rfl dX11_day_206 (fun c8 => ?_) (fun c8 => ?_)
      · replace hf := if_f hf c8
        exact V_lw (w_X11_day_213 C hCF k133 hk133 v1 v3 v4 μ3 hv1 hv3 hv4 hf) (And.intro rfl (And.intro rfl (And.intro rfl (And.intro rfl trivial))))
      · replace hf := if_t hf c8
        refine r_iload_n C 3 rfl rfl dX11_day_209 ?_
        refine r_if_eq C 236 hv3 rfl dX11_day_210 (fun c9 => ?_) (fun c9 => ?_)
        · replace hf := if_t hf c9
          exact V_lw (w_X11_day_236 C hCF k133 hk133 v1 v3 v4 μ3 hv1 hv3 hv4 hf) (And.intro rfl (And.intro rfl (And.intro rfl (And.intro rfl trivial))))
        · replace hf := if_f hf c9
          exact V_lw (w_X11_day_213 C hCF k133 hk133 v1 v3 v4 μ3 hv1 hv3 hv4 hf) (And.intro rfl (And.intro rfl (And.intro rfl (And.intro rfl trivial))))
set_option maxHeartbeats 4000000 in
set_option maxRecDepth 100000 in
theorem w_X11_day_185 {p : Program} {l : Launch} {e : Env} {s : State} {m : MethodId} {args : Array Value} {below : List Frame} {meth : Method} {c : Code} {D : va_G} {cy : Nat → ClassId} {A : Nat → Prop} {ids : List Nat} {ad : Nat → Nat} {r : Int} {μ' : Mem} (C : Cx p s m args meth c D (tyl cy) A 6 cX11_day yX11_day.cls none) (hCF : CF ad A s) (k133 : Int → Int → Int → Mem → Option (Int × Mem)) (hk133 : ∀ (v1 v3 v4 : Int) (μ : Mem), inR v1 → inR v3 → inR v4 → k133 v1 v3 v4 μ = some (r, μ') → V p l e (rmk 8) s m args below meth c 0 0 (MQ below (aV D (tyl cy) (lay cy) ids ad A r μ') args s 0 0 A) D A (lay cy) ids ad 6 μ 133 [some (rf 300), some (nu v1), none, some (nu v3), some (nu v4), none] []) : ∀ (v1 v3 v4 : Int) (μ : Mem), inR v1 → inR v3 → inR v4 → f_X11_day_185  k133 v1 v3 v4 μ = some (r, μ') → V p l e (rmk 8) s m args below meth c 0 0 (MQ below (aV D (tyl cy) (lay cy) ids ad A r μ') args s 0 0 A) D A (lay cy) ids ad 6 μ 185 [some (rf 300), some (nu v1), none, some (nu v3), some (nu v4), none] [] := by
  intro v1 v3 v4 μ hv1 hv3 hv4 hf
  unfold f_X11_day_185 at hf
  refine V_in (fun ho0 _ => ?_)
  refine r_iconst C dX11_day_185 ?_
  exact V_lw (w_X11_day_186 C hCF k133 hk133 v1 v3 v4 0 μ hv1 hv3 hv4 (inR_lit rfl) hf) (And.intro rfl (And.intro rfl (And.intro rfl (And.intro rfl trivial))))
set_option maxHeartbeats 4000000 in
set_option maxRecDepth 100000 in
theorem w_X11_day_133 {p : Program} {l : Launch} {e : Env} {s : State} {m : MethodId} {args : Array Value} {below : List Frame} {meth : Method} {c : Code} {D : va_G} {cy : Nat → ClassId} {A : Nat → Prop} {ids : List Nat} {ad : Nat → Nat} {r : Int} {μ' : Mem} (C : Cx p s m args meth c D (tyl cy) A 6 cX11_day yX11_day.cls none) (hCF : CF ad A s) : ∀ n : Nat, ∀ (v1 v3 v4 : Int) (μ : Mem), inR v1 → inR v3 → inR v4 → f_X11_day_133   n v1 v3 v4 μ = some (r, μ') → V p l e (rmk 8) s m args below meth c 0 0 (MQ below (aV D (tyl cy) (lay cy) ids ad A r μ') args s 0 0 A) D A (lay cy) ids ad 6 μ 133 [some (rf 300), some (nu v1), none, some (nu v3), some (nu v4), none] [] := by
  intro n
  induction n with
  | zero =>
    intro v1 v3 v4 μ hv1 hv3 hv4 hf
    cases hf
  | succ n ih =>
    intro v1 v3 v4 μ hv1 hv3 hv4 hf
    rw [f_X11_day_133_e] at hf
    refine V_in (fun ho0 _ => ?_)
    refine r_iload C rfl dX11_day_133 ?_
    refine r_aload_n C 0 rfl rfl dX11_day_135 ?_
    refine r_getf C 300 (by decide) rfl (fx_m rfl) (ly_300 cy _ _) rfl in_X11 2 (by decide) tw_897 (v := nu (μ 300 2)) rfl dX11_day_136 ?_
    refine r_icmp_ge C 267 hv4 (ho0 _ _) rfl dX11_day_139 (fun c1 => ?_) (fun c1 => ?_)
    · replace hf := if_t hf c1
      obtain ⟨-, rfl⟩ := of_ret hf
      exact r_vret C rfl dX11_day_267
    · replace hf := if_f hf c1
      refine r_aload_n C 0 rfl rfl dX11_day_142 ?_
      refine r_getf C 300 (by decide) rfl (fx_m rfl) (ly_300 cy _ _) rfl in_X11 6 (by decide) tw_901 (v := rf 302) rfl dX11_day_143 ?_
      refine r_iload C rfl dX11_day_146 ?_
      obtain ⟨g2, hf⟩ := of_g hf
      refine r_iald C 302 (by decide) rfl (fx_m rfl) 0 (cA := cy 0) (n := 6) (ly_302 cy _ _) rfl g2 (by decide) dX11_day_148 ?_
      refine r_iconst C dX11_day_149 ?_
      refine r_icmp_eq C 185 (ho0 _ _) (inR_lit rfl) rfl dX11_day_150 (fun c3 => ?_) (fun c3 => ?_)
      · replace hf := if_t hf c3
        exact V_lw (w_X11_day_185 C hCF (f_X11_day_133 n) ih v1 v3 v4 μ hv1 hv3 hv4 hf) (And.intro rfl (And.intro rfl (And.intro rfl (And.intro rfl trivial))))
      · replace hf := if_f hf c3
        refine r_aload_n C 0 rfl rfl dX11_day_153 ?_
        refine r_getf C 300 (by decide) rfl (fx_m rfl) (ly_300 cy _ _) rfl in_X11 6 (by decide) tw_901 (v := rf 302) rfl dX11_day_154 ?_
        refine r_iload C rfl dX11_day_157 ?_
        refine r_iald C 302 (by decide) rfl (fx_m rfl) 0 (cA := cy 0) (n := 6) (ly_302 cy _ _) rfl g2 (by decide) dX11_day_159 ?_
        refine r_bipush C dX11_day_160 rfl ?_
        refine r_icmp_eq C 185 (ho0 _ _) (inR_lit rfl) rfl dX11_day_162 (fun c4 => ?_) (fun c4 => ?_)
        · replace hf := if_t hf c4
          exact V_lw (w_X11_day_185 C hCF (f_X11_day_133 n) ih v1 v3 v4 μ hv1 hv3 hv4 hf) (And.intro rfl (And.intro rfl (And.intro rfl (And.intro rfl trivial))))
        · replace hf := if_f hf c4
          refine r_aload_n C 0 rfl rfl dX11_day_165 ?_
          refine r_getf C 300 (by decide) rfl (fx_m rfl) (ly_300 cy _ _) rfl in_X11 29 (by decide) tw_924 (v := rf 317) rfl dX11_day_166 ?_
          refine r_aload_n C 0 rfl rfl dX11_day_169 ?_
          refine r_getf C 300 (by decide) rfl (fx_m rfl) (ly_300 cy _ _) rfl in_X11 6 (by decide) tw_901 (v := rf 302) rfl dX11_day_170 ?_
          refine r_iload C rfl dX11_day_173 ?_
          refine r_iald C 302 (by decide) rfl (fx_m rfl) 0 (cA := cy 0) (n := 6) (ly_302 cy _ _) rfl g2 (by decide) dX11_day_175 ?_
          obtain ⟨g5, hf⟩ := of_g hf
          refine r_iald C 317 (by decide) rfl (fx_m rfl) 0 (cA := cy 0) (n := 30) (ly_317 cy _ _) rfl g5 (by decide) dX11_day_176 ?_
          refine r_iconst C dX11_day_177 ?_
          refine r_icmp_ne C 185 (ho0 _ _) (inR_lit rfl) rfl dX11_day_178 (fun c6 => ?_) (fun c6 => ?_)
          · replace hf := if_f hf c6
            exact V_lw (w_X11_day_185 C hCF (f_X11_day_133 n) ih v1 v3 v4 μ hv1 hv3 hv4 hf) (And.intro rfl (And.intro rfl (And.intro rfl (And.intro rfl trivial))))
          · replace hf := if_t hf c6
            refine r_iconst C dX11_day_181 ?_
            refine r_goto C 186 rfl dX11_day_182 ?_
            exact V_lw (w_X11_day_186 C hCF (f_X11_day_133 n) ih v1 v3 v4 1 μ hv1 hv3 hv4 (inR_lit rfl) hf) (And.intro rfl (And.intro rfl (And.intro rfl (And.intro rfl trivial))))
set_option maxHeartbeats 4000000 in
set_option maxRecDepth 100000 in
theorem w_X11_day_108 {p : Program} {l : Launch} {e : Env} {s : State} {m : MethodId} {args : Array Value} {below : List Frame} {meth : Method} {c : Code} {D : va_G} {cy : Nat → ClassId} {A : Nat → Prop} {ids : List Nat} {ad : Nat → Nat} {r : Int} {μ' : Mem} (C : Cx p s m args meth c D (tyl cy) A 6 cX11_day yX11_day.cls none) (hCF : CF ad A s) : ∀ (v1 v3 w0 w1 : Int) (μ : Mem), inR v1 → inR v3 → inR w0 → inR w1 → f_X11_day_108   v1 v3 w0 w1 μ = some (r, μ') → V p l e (rmk 8) s m args below meth c 0 0 (MQ below (aV D (tyl cy) (lay cy) ids ad A r μ') args s 0 0 A) D A (lay cy) ids ad 6 μ 108 [some (rf 300), some (nu v1), none, some (nu v3), none, none] [nu w0, nu w1, rf 300] := by
  intro v1 v3 w0 w1 μ hv1 hv3 hw0 hw1 hf
  unfold f_X11_day_108 at hf
  refine V_in (fun ho0 _ => ?_)
  refine r_isub C dX11_day_108 ?_
  obtain ⟨g1, hf⟩ := of_g hf
  refine r_putf C 300 (by decide) rfl (fx_m rfl) (by decide) (ly_300 cy _ _) 15 (ly_300 cy _ _) rfl (Nat.le_of_ble_eq_true rfl) g1 rfl in_X11 tyX11 tyX11_ok nmX11 (by decide) tw_910 rfl rfl dX11_day_109 (fun μ2 hμ4 => ?_)
  replace hf := of_lm hf hμ4
  refine V_in (fun ho3 _ => ?_)
  refine r_aload_n C 0 rfl rfl dX11_day_112 ?_
  refine r_dup C dX11_day_113 ?_
  refine r_getf C 300 (by decide) rfl (fx_m rfl) (ly_300 cy _ _) rfl in_X11 16 (by decide) tw_911 (v := nu (μ2 300 16)) rfl dX11_day_114 ?_
  refine r_iload_n C 3 rfl rfl dX11_day_117 ?_
  refine r_if_eq C 125 hv3 rfl dX11_day_118 (fun c5 => ?_) (fun c5 => ?_)
  · replace hf := if_t hf c5
    refine r_iconst C dX11_day_125 ?_
    refine r_iadd C dX11_day_126 ?_
    obtain ⟨g6, hf⟩ := of_g hf
    refine r_putf C 300 (by decide) rfl (fx_m rfl) (by decide) (ly_300 cy _ _) 16 (ly_300 cy _ _) rfl (Nat.le_of_ble_eq_true rfl) g6 rfl in_X11 tyX11 tyX11_ok nmX11 (by decide) tw_911 rfl rfl dX11_day_127 (fun μ7 hμ9 => ?_)
    replace hf := of_lm hf hμ9
    refine V_in (fun ho8 _ => ?_)
    refine r_iconst C dX11_day_130 ?_
    refine r_istore C (lw := [some (rf 300), some (nu v1), none, some (nu v3), some (nu 0), none]) rfl (by decide) dX11_day_131 ?_
    exact V_lw (w_X11_day_133 C hCF 64 v1 v3 0 μ7 hv1 hv3 (inR_lit rfl) hf) (And.intro rfl (And.intro rfl (And.intro rfl (And.intro rfl trivial))))
  · replace hf := if_f hf c5
    refine r_iconst C dX11_day_121 ?_
    refine r_goto C 126 rfl dX11_day_122 ?_
    refine r_iadd C dX11_day_126 ?_
    obtain ⟨g10, hf⟩ := of_g hf
    refine r_putf C 300 (by decide) rfl (fx_m rfl) (by decide) (ly_300 cy _ _) 16 (ly_300 cy _ _) rfl (Nat.le_of_ble_eq_true rfl) g10 rfl in_X11 tyX11 tyX11_ok nmX11 (by decide) tw_911 rfl rfl dX11_day_127 (fun μ11 hμ13 => ?_)
    replace hf := of_lm hf hμ13
    refine V_in (fun ho12 _ => ?_)
    refine r_iconst C dX11_day_130 ?_
    refine r_istore C (lw := [some (rf 300), some (nu v1), none, some (nu v3), some (nu 0), none]) rfl (by decide) dX11_day_131 ?_
    exact V_lw (w_X11_day_133 C hCF 64 v1 v3 0 μ11 hv1 hv3 (inR_lit rfl) hf) (And.intro rfl (And.intro rfl (And.intro rfl (And.intro rfl trivial))))
set_option maxHeartbeats 4000000 in
set_option maxRecDepth 100000 in
theorem w_X11_day_93 {p : Program} {l : Launch} {e : Env} {s : State} {m : MethodId} {args : Array Value} {below : List Frame} {meth : Method} {c : Code} {D : va_G} {cy : Nat → ClassId} {A : Nat → Prop} {ids : List Nat} {ad : Nat → Nat} {r : Int} {μ' : Mem} (C : Cx p s m args meth c D (tyl cy) A 6 cX11_day yX11_day.cls none) (hCF : CF ad A s) : ∀ (v1 v2 w0 : Int) (μ : Mem), inR v1 → inR v2 → inR w0 → f_X11_day_93   v1 v2 w0 μ = some (r, μ') → V p l e (rmk 8) s m args below meth c 0 0 (MQ below (aV D (tyl cy) (lay cy) ids ad A r μ') args s 0 0 A) D A (lay cy) ids ad 6 μ 93 [some (rf 300), some (nu v1), some (nu v2), none, none, none] [nu w0] := by
  intro v1 v2 w0 μ hv1 hv2 hw0 hf
  unfold f_X11_day_93 at hf
  refine V_in (fun ho0 _ => ?_)
  refine r_istore_n C 3 (lw := [some (rf 300), some (nu v1), some (nu v2), some (nu w0), none, none]) rfl rfl (by decide) dX11_day_93 ?_
  refine r_aload_n C 0 rfl rfl dX11_day_94 ?_
  refine r_dup C dX11_day_95 ?_
  refine r_getf C 300 (by decide) rfl (fx_m rfl) (ly_300 cy _ _) rfl in_X11 15 (by decide) tw_910 (v := nu (μ 300 15)) rfl dX11_day_96 ?_
  refine r_iload_n C 3 rfl rfl dX11_day_99 ?_
  refine r_if_eq C 107 hw0 rfl dX11_day_100 (fun c1 => ?_) (fun c1 => ?_)
  · replace hf := if_t hf c1
    refine r_iload_n C 2 rfl rfl dX11_day_107 ?_
    exact V_lw (w_X11_day_108 C hCF v1 w0 v2 (μ 300 15) μ hv1 hw0 hv2 (ho0 _ _) hf) (And.intro rfl (And.intro rfl (And.intro rfl trivial)))
  · replace hf := if_f hf c1
    refine r_iconst C dX11_day_103 ?_
    refine r_goto C 108 rfl dX11_day_104 ?_
    exact V_lw (w_X11_day_108 C hCF v1 w0 0 (μ 300 15) μ hv1 hw0 (inR_lit rfl) (ho0 _ _) hf) (And.intro rfl (And.intro rfl (And.intro rfl trivial)))
set_option maxHeartbeats 4000000 in
set_option maxRecDepth 100000 in
theorem w_X11_day_2 {p : Program} {l : Launch} {e : Env} {s : State} {m : MethodId} {args : Array Value} {below : List Frame} {meth : Method} {c : Code} {D : va_G} {cy : Nat → ClassId} {A : Nat → Prop} {ids : List Nat} {ad : Nat → Nat} {r : Int} {μ' : Mem} (C : Cx p s m args meth c D (tyl cy) A 6 cX11_day yX11_day.cls none) (hCF : CF ad A s) : ∀ n : Nat, ∀ (v1 : Int) (μ : Mem), inR v1 → f_X11_day_2   n v1 μ = some (r, μ') → V p l e (rmk 8) s m args below meth c 0 0 (MQ below (aV D (tyl cy) (lay cy) ids ad A r μ') args s 0 0 A) D A (lay cy) ids ad 6 μ 2 [some (rf 300), some (nu v1), none, none, none, none] [] := by
  intro n
  induction n with
  | zero =>
    intro v1 μ hv1 hf
    cases hf
  | succ n ih =>
    intro v1 μ hv1 hf
    rw [f_X11_day_2_e] at hf
    refine V_in (fun ho0 _ => ?_)
    refine r_iload_n C 1 rfl rfl dX11_day_2 ?_
    refine r_aload_n C 0 rfl rfl dX11_day_3 ?_
    refine r_getf C 300 (by decide) rfl (fx_m rfl) (ly_300 cy _ _) rfl in_X11 3 (by decide) tw_898 (v := nu (μ 300 3)) rfl dX11_day_4 ?_
    refine r_icmp_ge C 65 hv1 (ho0 _ _) rfl dX11_day_7 (fun c1 => ?_) (fun c1 => ?_)
    · replace hf := if_t hf c1
      refine r_aload_n C 0 rfl rfl dX11_day_65 ?_
      refine r_iconst C dX11_day_66 ?_
      refine r_aload_n C 0 rfl rfl dX11_day_67 ?_
      refine r_getf C 300 (by decide) rfl (fx_m rfl) (ly_300 cy _ _) rfl in_X11 1 (by decide) tw_896 (v := nu (μ 300 1)) rfl dX11_day_68 ?_
      obtain ⟨r2, μ3, hc4, hf⟩ := of_bd hf
      refine r_callVI C hCF (As := [nu 2, nu (μ 300 1)]) 300 (by decide) rfl (fx_m rfl) (ly_300 cy _ _) rfl (c_X11_is (inR_lit rfl) (ho0 _ _) hc4) rfl (by decide) (by decide) ⟨Nat.le_refl 0, Nat.le_refl 0⟩ tw_1143 tw_1146 tw_10 tw_1145 ts_47 2 (by decide) rfl (Nat.le_of_ble_eq_true rfl) dX11_day_71 (fun hr6 => ?_)
      refine V_in (fun ho5 _ => ?_)
      refine r_istore_n C 1 (lw := [some (rf 300), some (nu r2), none, none, none, none]) rfl rfl (by decide) dX11_day_74 ?_
      refine r_aload_n C 0 rfl rfl dX11_day_75 ?_
      obtain ⟨r7, μ8, hc9, hf⟩ := of_bd hf
      refine r_callVI C hCF (As := []) 300 (by decide) rfl (fx_m rfl) (ly_300 cy _ _) rfl (c_X11_allMen hc9) rfl (by decide) (by decide) ⟨Nat.le_refl 0, Nat.le_refl 0⟩ tw_1176 tw_1179 tw_10 tw_1178 ts_52 0 (by decide) rfl (Nat.le_of_ble_eq_true rfl) dX11_day_76 (fun hr11 => ?_)
      refine V_in (fun ho10 _ => ?_)
      refine r_istore_n C 2 (lw := [some (rf 300), some (nu r2), some (nu r7), none, none, none]) rfl rfl (by decide) dX11_day_79 ?_
      refine r_aload_n C 0 rfl rfl dX11_day_80 ?_
      refine r_getf C 300 (by decide) rfl (fx_m rfl) (ly_300 cy _ _) rfl in_X11 15 (by decide) tw_910 (v := nu (μ8 300 15)) rfl dX11_day_81 ?_
      refine r_iload_n C 2 rfl rfl dX11_day_84 ?_
      refine r_icmp_ge C 92 (ho10 _ _) hr11 rfl dX11_day_85 (fun c12 => ?_) (fun c12 => ?_)
      · replace hf := if_t hf c12
        refine r_iconst C dX11_day_92 ?_
        exact V_lw (w_X11_day_93 C hCF r2 r7 0 μ8 hr6 hr11 (inR_lit rfl) hf) (And.intro rfl (And.intro rfl (And.intro rfl trivial)))
      · replace hf := if_f hf c12
        refine r_iconst C dX11_day_88 ?_
        refine r_goto C 93 rfl dX11_day_89 ?_
        exact V_lw (w_X11_day_93 C hCF r2 r7 1 μ8 hr6 hr11 (inR_lit rfl) hf) (And.intro rfl (And.intro rfl (And.intro rfl trivial)))
    · replace hf := if_f hf c1
      refine r_aload_n C 0 rfl rfl dX11_day_10 ?_
      refine r_getf C 300 (by decide) rfl (fx_m rfl) (ly_300 cy _ _) rfl in_X11 10 (by decide) tw_905 (v := rf 306) rfl dX11_day_11 ?_
      refine r_iload_n C 1 rfl rfl dX11_day_14 ?_
      obtain ⟨g13, hf⟩ := of_g hf
      refine r_iald C 306 (by decide) rfl (fx_m rfl) 0 (cA := cy 0) (n := 40) (ly_306 cy _ _) rfl g13 (by decide) dX11_day_15 ?_
      refine r_aload_n C 0 rfl rfl dX11_day_16 ?_
      refine r_getf C 300 (by decide) rfl (fx_m rfl) (ly_300 cy _ _) rfl in_X11 1 (by decide) tw_896 (v := nu (μ 300 1)) rfl dX11_day_17 ?_
      refine r_icmp_ne C 59 (ho0 _ _) (ho0 _ _) rfl dX11_day_20 (fun c14 => ?_) (fun c14 => ?_)
      · replace hf := if_f hf c14
        refine r_iinc C rfl (lw := [some (rf 300), some (nu (v1 + 1)), none, none, none, none]) rfl (by decide) dX11_day_59 ?_
        refine r_goto C 2 rfl dX11_day_62 ?_
        obtain ⟨g15, hf⟩ := of_g hf
        exact V_lw (ih (v1 + 1) μ g15 hf) (And.intro rfl (And.intro rfl trivial))
      · replace hf := if_t hf c14
        refine r_aload_n C 0 rfl rfl dX11_day_23 ?_
        refine r_aload_n C 0 rfl rfl dX11_day_24 ?_
        refine r_getf C 300 (by decide) rfl (fx_m rfl) (ly_300 cy _ _) rfl in_X11 15 (by decide) tw_910 (v := nu (μ 300 15)) rfl dX11_day_25 ?_
        refine r_aload_n C 0 rfl rfl dX11_day_28 ?_
        refine r_getf C 300 (by decide) rfl (fx_m rfl) (ly_300 cy _ _) rfl in_X11 11 (by decide) tw_906 (v := rf 307) rfl dX11_day_29 ?_
        refine r_iload_n C 1 rfl rfl dX11_day_32 ?_
        refine r_iald C 307 (by decide) rfl (fx_m rfl) 0 (cA := cy 0) (n := 40) (ly_307 cy _ _) rfl g13 (by decide) dX11_day_33 ?_
        refine r_iadd C dX11_day_34 ?_
        refine r_ldc C (n := 10000000) tw_1175 rfl dX11_day_35 ?_
        obtain ⟨g16, hf⟩ := of_g hf
        refine r_icmp_le C 45 g16 (inR_lit rfl) rfl dX11_day_37 (fun c17 => ?_) (fun c17 => ?_)
        · replace hf := if_t hf c17
          refine r_aload_n C 0 rfl rfl dX11_day_45 ?_
          refine r_getf C 300 (by decide) rfl (fx_m rfl) (ly_300 cy _ _) rfl in_X11 15 (by decide) tw_910 (v := nu (μ 300 15)) rfl dX11_day_46 ?_
          refine r_aload_n C 0 rfl rfl dX11_day_49 ?_
          refine r_getf C 300 (by decide) rfl (fx_m rfl) (ly_300 cy _ _) rfl in_X11 11 (by decide) tw_906 (v := rf 307) rfl dX11_day_50 ?_
          refine r_iload_n C 1 rfl rfl dX11_day_53 ?_
          refine r_iald C 307 (by decide) rfl (fx_m rfl) 0 (cA := cy 0) (n := 40) (ly_307 cy _ _) rfl g13 (by decide) dX11_day_54 ?_
          refine r_iadd C dX11_day_55 ?_
          refine r_putf C 300 (by decide) rfl (fx_m rfl) (by decide) (ly_300 cy _ _) 15 (ly_300 cy _ _) rfl (Nat.le_of_ble_eq_true rfl) g16 rfl in_X11 tyX11 tyX11_ok nmX11 (by decide) tw_910 rfl rfl dX11_day_56 (fun μ18 hμ20 => ?_)
          replace hf := of_lm hf hμ20
          refine V_in (fun ho19 _ => ?_)
          refine r_iinc C rfl (lw := [some (rf 300), some (nu (v1 + 1)), none, none, none, none]) rfl (by decide) dX11_day_59 ?_
          refine r_goto C 2 rfl dX11_day_62 ?_
          obtain ⟨g21, hf⟩ := of_g hf
          exact V_lw (ih (v1 + 1) μ18 g21 hf) (And.intro rfl (And.intro rfl trivial))
        · replace hf := if_f hf c17
          refine r_ldc C (n := 10000000) tw_1175 rfl dX11_day_40 ?_
          refine r_goto C 56 rfl dX11_day_42 ?_
          refine r_putf C 300 (by decide) rfl (fx_m rfl) (by decide) (ly_300 cy _ _) 15 (ly_300 cy _ _) rfl (Nat.le_of_ble_eq_true rfl) (inR_lit rfl) rfl in_X11 tyX11 tyX11_ok nmX11 (by decide) tw_910 rfl rfl dX11_day_56 (fun μ22 hμ24 => ?_)
          replace hf := of_lm hf hμ24
          refine V_in (fun ho23 _ => ?_)
          refine r_iinc C rfl (lw := [some (rf 300), some (nu (v1 + 1)), none, none, none, none]) rfl (by decide) dX11_day_59 ?_
          refine r_goto C 2 rfl dX11_day_62 ?_
          obtain ⟨g25, hf⟩ := of_g hf
          exact V_lw (ih (v1 + 1) μ22 g25 hf) (And.intro rfl (And.intro rfl trivial))
set_option maxHeartbeats 4000000 in
set_option maxRecDepth 100000 in
theorem c_X11_day {l : Launch} {D : va_G} {cy : Nat → ClassId} {ids : List Nat} {ad : Nat → Nat} {μ μ' : Mem} { r : Int}  (hf : f_X11_day μ  = some (r, μ')) : KK aV l D (tyl cy) (lay cy) ids ad 8 yX11_day cX11_day 6 none [rf 300] μ r μ' := by
  refine KK.of (by decide +kernel) (Nat.le_of_ble_eq_true rfl) ?_
  intro p e s m args below meth c A C hCF
  unfold f_X11_day at hf
  refine V_in (fun ho0 _ => ?_)
  refine r_iconst C dX11_day_0 ?_
  refine r_istore_n C 1 (lw := [some (rf 300), some (nu 0), none, none, none, none]) rfl rfl (by decide) dX11_day_1 ?_
  exact V_lw (w_X11_day_2 C hCF 64 0 μ (inR_lit rfl) hf) (And.intro rfl (And.intro rfl trivial))
set_option maxHeartbeats 4000000 in
set_option maxRecDepth 100000 in
theorem w_X11_pass_27 {p : Program} {l : Launch} {e : Env} {s : State} {m : MethodId} {args : Array Value} {below : List Frame} {meth : Method} {c : Code} {D : va_G} {cy : Nat → ClassId} {A : Nat → Prop} {ids : List Nat} {ad : Nat → Nat} {r : Int} {μ' : Mem} (C : Cx p s m args meth c D (tyl cy) A 3 cX11_pass yX11_pass.cls (some .int)) (hCF : CF ad A s) : ∀ n : Nat, ∀ (v1 v2 : Int) (μ : Mem), inR v1 → inR v2 → f_X11_pass_27   n v1 v2 μ = some (r, μ') → V p l e (rmk 10) s m args below meth c 0 0 (MQ below (aI D (tyl cy) (lay cy) ids ad A r μ') args s 0 0 A) D A (lay cy) ids ad 3 μ 27 [some (rf 300), some (nu v1), some (nu v2)] [] := by
  intro n
  induction n with
  | zero =>
    intro v1 v2 μ hv1 hv2 hf
    cases hf
  | succ n ih =>
    intro v1 v2 μ hv1 hv2 hf
    rw [f_X11_pass_27_e] at hf
    refine V_in (fun ho0 _ => ?_)
    refine r_iload_n C 2 rfl rfl dX11_pass_27 ?_
    refine r_iload_n C 1 rfl rfl dX11_pass_28 ?_
    refine r_icmp_ge C 52 hv2 hv1 rfl dX11_pass_29 (fun c1 => ?_) (fun c1 => ?_)
    · replace hf := if_t hf c1
      refine r_aload_n C 0 rfl rfl dX11_pass_52 ?_
      refine r_getf C 300 (by decide) rfl (fx_m rfl) (ly_300 cy _ _) rfl in_X11 1 (by decide) tw_896 (v := nu (μ 300 1)) rfl dX11_pass_53 ?_
      obtain ⟨rfl, rfl⟩ := of_ret hf
      exact r_iret C rfl (ho0 _ _) dX11_pass_56
    · replace hf := if_f hf c1
      refine r_aload_n C 0 rfl rfl dX11_pass_32 ?_
      obtain ⟨r2, μ3, hc4, hf⟩ := of_bd hf
      refine r_callVV C hCF (As := []) 300 (by decide) rfl (fx_m rfl) (ly_300 cy _ _) rfl (c_X11_day hc4) rfl (by decide) (by decide) ⟨Nat.le_refl 0, Nat.le_refl 0⟩ tw_1171 tw_1174 tw_10 tw_1173 ts_51 0 (by decide) rfl (Nat.le_of_ble_eq_true rfl) dX11_pass_33 ?_
      refine V_in (fun ho5 _ => ?_)
      refine r_aload_n C 0 rfl rfl dX11_pass_36 ?_
      refine r_dup C dX11_pass_37 ?_
      refine r_getf C 300 (by decide) rfl (fx_m rfl) (ly_300 cy _ _) rfl in_X11 1 (by decide) tw_896 (v := nu (μ3 300 1)) rfl dX11_pass_38 ?_
      refine r_iconst C dX11_pass_41 ?_
      refine r_iadd C dX11_pass_42 ?_
      obtain ⟨g7, hf⟩ := of_g hf
      refine r_putf C 300 (by decide) rfl (fx_m rfl) (by decide) (ly_300 cy _ _) 1 (ly_300 cy _ _) rfl (Nat.le_of_ble_eq_true rfl) g7 rfl in_X11 tyX11 tyX11_ok nmX11 (by decide) tw_896 rfl rfl dX11_pass_43 (fun μ8 hμ10 => ?_)
      replace hf := of_lm hf hμ10
      refine V_in (fun ho9 _ => ?_)
      refine r_iinc C rfl (lw := [some (rf 300), some (nu v1), some (nu (v2 + 1))]) rfl (by decide) dX11_pass_46 ?_
      refine r_goto C 27 rfl dX11_pass_49 ?_
      obtain ⟨g11, hf⟩ := of_g hf
      exact V_lw (ih v1 (v2 + 1) μ8 hv1 g11 hf) (And.intro rfl (And.intro rfl (And.intro rfl trivial)))
set_option maxHeartbeats 4000000 in
set_option maxRecDepth 100000 in
theorem c_X11_pass {l : Launch} {D : va_G} {cy : Nat → ClassId} {ids : List Nat} {ad : Nat → Nat} {μ μ' : Mem} {a1 r : Int} (h1 : inR a1) (hf : f_X11_pass μ a1 = some (r, μ')) : KK aI l D (tyl cy) (lay cy) ids ad 10 yX11_pass cX11_pass 3 (some .int) [rf 300, nu a1] μ r μ' := by
  refine KK.of (by decide +kernel) (Nat.le_of_ble_eq_true rfl) ?_
  intro p e s m args below meth c A C hCF
  unfold f_X11_pass at hf
  refine V_in (fun ho0 _ => ?_)
  refine r_iload_n C 1 rfl rfl dX11_pass_0 ?_
  refine r_iconst C dX11_pass_1 ?_
  refine r_sipush C dX11_pass_2 rfl ?_
  obtain ⟨r1, μ2, hc3, hf⟩ := of_bd hf
  refine r_callSI C hCF (As := [nu a1, nu 1, nu 400]) (c_X11_in h1 (inR_lit rfl) (inR_lit rfl) hc3) rfl (by decide) (by decide) ⟨Nat.le_refl 0, Nat.le_refl 0⟩ tw_1063 tw_1065 tw_10 tw_1064 3 (by decide) rfl (Nat.le_of_ble_eq_true rfl) dX11_pass_5 (fun hr5 => ?_)
  refine V_in (fun ho4 _ => ?_)
  refine r_if_eq C 23 hr5 rfl dX11_pass_8 (fun c6 => ?_) (fun c6 => ?_)
  · replace hf := if_t hf c6
    refine r_iconst C dX11_pass_23 ?_
    obtain ⟨rfl, rfl⟩ := of_ret hf
    exact r_iret C rfl (inR_lit rfl) dX11_pass_24
  · replace hf := if_f hf c6
    refine r_aload_n C 0 rfl rfl dX11_pass_11 ?_
    refine r_getf C 300 (by decide) rfl (fx_m rfl) (ly_300 cy _ _) rfl in_X11 1 (by decide) tw_896 (v := nu (μ2 300 1)) rfl dX11_pass_12 ?_
    refine r_iload_n C 1 rfl rfl dX11_pass_15 ?_
    refine r_iadd C dX11_pass_16 ?_
    refine r_sipush C dX11_pass_17 rfl ?_
    obtain ⟨g7, hf⟩ := of_g hf
    refine r_icmp_le C 25 g7 (inR_lit rfl) rfl dX11_pass_20 (fun c8 => ?_) (fun c8 => ?_)
    · replace hf := if_t hf c8
      refine r_iconst C dX11_pass_25 ?_
      refine r_istore_n C 2 (lw := [some (rf 300), some (nu a1), some (nu 0)]) rfl rfl (by decide) dX11_pass_26 ?_
      exact V_lw (w_X11_pass_27 C hCF 512 a1 0 μ2 h1 (inR_lit rfl) hf) (And.intro rfl (And.intro rfl (And.intro rfl trivial)))
    · replace hf := if_f hf c8
      refine r_iconst C dX11_pass_23 ?_
      obtain ⟨rfl, rfl⟩ := of_ret hf
      exact r_iret C rfl (inR_lit rfl) dX11_pass_24
set_option maxHeartbeats 4000000 in
set_option maxRecDepth 100000 in
theorem c_X11_about {l : Launch} {D : va_G} {cy : Nat → ClassId} {ids : List Nat} {ad : Nat → Nat} {μ μ' : Mem} {a1 a2 r : Int} (h1 : inR a1) (h2 : inR a2) (hf : f_X11_about μ a1 a2 = some (r, μ')) : KK aI l D (tyl cy) (lay cy) ids ad 4 yX11_about cX11_about 3 (some .int) [rf 300, nu a1, nu a2] μ r μ' := by
  refine KK.of (by decide +kernel) (Nat.le_of_ble_eq_true rfl) ?_
  intro p e s m args below meth c A C hCF
  unfold f_X11_about at hf
  refine V_in (fun ho0 _ => ?_)
  refine r_iload_n C 1 rfl rfl dX11_about_0 ?_
  refine r_iconst C dX11_about_1 ?_
  refine r_aload_n C 0 rfl rfl dX11_about_2 ?_
  refine r_getf C 300 (by decide) rfl (fx_m rfl) (ly_300 cy _ _) rfl in_X11 26 (by decide) tw_921 (v := nu (μ 300 26)) rfl dX11_about_3 ?_
  refine r_iconst C dX11_about_6 ?_
  refine r_isub C dX11_about_7 ?_
  obtain ⟨g1, hf⟩ := of_g hf
  obtain ⟨r2, μ3, hc4, hf⟩ := of_bd hf
  refine r_callSI C hCF (As := [nu a1, nu 0, nu ((μ 300 26) - 1)]) (c_X11_in h1 (inR_lit rfl) g1 hc4) rfl (by decide) (by decide) ⟨Nat.le_refl 0, Nat.le_refl 0⟩ tw_1063 tw_1065 tw_10 tw_1064 3 (by decide) rfl (Nat.le_of_ble_eq_true rfl) dX11_about_8 (fun hr6 => ?_)
  refine V_in (fun ho5 _ => ?_)
  refine r_if_ne C 16 hr6 rfl dX11_about_11 (fun c7 => ?_) (fun c7 => ?_)
  · replace hf := if_f hf c7
    refine r_iload_n C 2 rfl rfl dX11_about_16 ?_
    by_cases c8 : a2 = 0
    · replace hf := if_t hf c8
      refine r_swIn C 52 0 c8 (inR_lit rfl) (by decide) (by decide) rfl rfl dX11_about_17 ?_
      refine r_aload_n C 0 rfl rfl dX11_about_52 ?_
      refine r_getf C 300 (by decide) rfl (fx_m rfl) (ly_300 cy _ _) rfl in_X11 29 (by decide) tw_924 (v := rf 317) rfl dX11_about_53 ?_
      refine r_iload_n C 1 rfl rfl dX11_about_56 ?_
      obtain ⟨g9, hf⟩ := of_g hf
      refine r_iald C 317 (by decide) rfl (fx_m rfl) 0 (cA := cy 0) (n := 30) (ly_317 cy _ _) rfl g9 (by decide) dX11_about_57 ?_
      obtain ⟨rfl, rfl⟩ := of_ret hf
      exact r_iret C rfl (ho5 _ _) dX11_about_58
    replace hf := if_f hf c8
    by_cases c10 : a2 = 1
    · replace hf := if_t hf c10
      refine r_swIn C 59 1 c10 (inR_lit rfl) (by decide) (by decide) rfl rfl dX11_about_17 ?_
      refine r_aload_n C 0 rfl rfl dX11_about_59 ?_
      refine r_iload_n C 1 rfl rfl dX11_about_60 ?_
      obtain ⟨r11, μ12, hc13, hf⟩ := of_bd hf
      refine r_callVI C hCF (As := [nu a1]) 300 (by decide) rfl (fx_m rfl) (ly_300 cy _ _) rfl (c_X11_worker h1 hc13) rfl (by decide) (by decide) ⟨Nat.le_refl 0, Nat.le_refl 0⟩ tw_1139 tw_1142 tw_10 tw_1141 ts_46 1 (by decide) rfl (Nat.le_of_ble_eq_true rfl) dX11_about_61 (fun hr15 => ?_)
      refine V_in (fun ho14 _ => ?_)
      obtain ⟨rfl, rfl⟩ := of_ret hf
      exact r_iret C rfl hr15 dX11_about_64
    replace hf := if_f hf c10
    by_cases c16 : a2 = 2
    · replace hf := if_t hf c16
      refine r_swIn C 65 2 c16 (inR_lit rfl) (by decide) (by decide) rfl rfl dX11_about_17 ?_
      refine r_aload_n C 0 rfl rfl dX11_about_65 ?_
      refine r_getf C 300 (by decide) rfl (fx_m rfl) (ly_300 cy _ _) rfl in_X11 30 (by decide) tw_925 (v := rf 318) rfl dX11_about_66 ?_
      refine r_iload_n C 1 rfl rfl dX11_about_69 ?_
      obtain ⟨g17, hf⟩ := of_g hf
      refine r_iald C 318 (by decide) rfl (fx_m rfl) 0 (cA := cy 0) (n := 30) (ly_318 cy _ _) rfl g17 (by decide) dX11_about_70 ?_
      obtain ⟨rfl, rfl⟩ := of_ret hf
      exact r_iret C rfl (ho5 _ _) dX11_about_71
    replace hf := if_f hf c16
    by_cases c18 : a2 = 3
    · replace hf := if_t hf c18
      refine r_swIn C 72 3 c18 (inR_lit rfl) (by decide) (by decide) rfl rfl dX11_about_17 ?_
      refine r_aload_n C 0 rfl rfl dX11_about_72 ?_
      refine r_getf C 300 (by decide) rfl (fx_m rfl) (ly_300 cy _ _) rfl in_X11 31 (by decide) tw_926 (v := rf 319) rfl dX11_about_73 ?_
      refine r_iload_n C 1 rfl rfl dX11_about_76 ?_
      obtain ⟨g19, hf⟩ := of_g hf
      refine r_iald C 319 (by decide) rfl (fx_m rfl) 0 (cA := cy 0) (n := 30) (ly_319 cy _ _) rfl g19 (by decide) dX11_about_77 ?_
      obtain ⟨rfl, rfl⟩ := of_ret hf
      exact r_iret C rfl (ho5 _ _) dX11_about_78
    replace hf := if_f hf c18
    by_cases c20 : a2 = 4
    · replace hf := if_t hf c20
      refine r_swIn C 79 4 c20 (inR_lit rfl) (by decide) (by decide) rfl rfl dX11_about_17 ?_
      refine r_aload_n C 0 rfl rfl dX11_about_79 ?_
      refine r_iload_n C 1 rfl rfl dX11_about_80 ?_
      refine r_aload_n C 0 rfl rfl dX11_about_81 ?_
      refine r_getf C 300 (by decide) rfl (fx_m rfl) (ly_300 cy _ _) rfl in_X11 29 (by decide) tw_924 (v := rf 317) rfl dX11_about_82 ?_
      refine r_iload_n C 1 rfl rfl dX11_about_85 ?_
      obtain ⟨g21, hf⟩ := of_g hf
      refine r_iald C 317 (by decide) rfl (fx_m rfl) 0 (cA := cy 0) (n := 30) (ly_317 cy _ _) rfl g21 (by decide) dX11_about_86 ?_
      refine r_iconst C dX11_about_87 ?_
      obtain ⟨r22, μ23, hc24, hf⟩ := of_bd hf
      refine r_callVI C hCF (As := [nu a1, nu (μ3 317 a1.toNat), nu 0]) 300 (by decide) rfl (fx_m rfl) (ly_300 cy _ _) rfl (c_X11_pull h1 (ho5 _ _) (inR_lit rfl) hc24) rfl (by decide) (by decide) ⟨Nat.le_refl 0, Nat.le_refl 0⟩ tw_1147 tw_1150 tw_10 tw_1149 ts_48 3 (by decide) rfl (Nat.le_of_ble_eq_true rfl) dX11_about_88 (fun hr26 => ?_)
      refine V_in (fun ho25 _ => ?_)
      obtain ⟨rfl, rfl⟩ := of_ret hf
      exact r_iret C rfl hr26 dX11_about_91
    replace hf := if_f hf c20
    refine r_swOut C 92 h2 (by omega) rfl dX11_about_17 ?_
    refine r_iconst C dX11_about_92 ?_
    obtain ⟨rfl, rfl⟩ := of_ret hf
    exact r_iret C rfl (inR_lit rfl) dX11_about_93
  · replace hf := if_t hf c7
    refine r_iconst C dX11_about_14 ?_
    obtain ⟨rfl, rfl⟩ := of_ret hf
    exact r_iret C rfl (inR_lit rfl) dX11_about_15
set_option maxHeartbeats 4000000 in
set_option maxRecDepth 100000 in
theorem c_X11_gangs {l : Launch} {D : va_G} {cy : Nat → ClassId} {ids : List Nat} {ad : Nat → Nat} {μ μ' : Mem} {a1 a2 r : Int} (h1 : inR a1) (h2 : inR a2) (hf : f_X11_gangs μ a1 a2 = some (r, μ')) : KK aI l D (tyl cy) (lay cy) ids ad 4 yX11_gangs cX11_gangs 3 (some .int) [rf 300, nu a1, nu a2] μ r μ' := by
  refine KK.of (by decide +kernel) (Nat.le_of_ble_eq_true rfl) ?_
  intro p e s m args below meth c A C hCF
  unfold f_X11_gangs at hf
  refine V_in (fun ho0 _ => ?_)
  refine r_iload_n C 1 rfl rfl dX11_gangs_0 ?_
  refine r_iconst C dX11_gangs_1 ?_
  refine r_aload_n C 0 rfl rfl dX11_gangs_2 ?_
  refine r_getf C 300 (by decide) rfl (fx_m rfl) (ly_300 cy _ _) rfl in_X11 2 (by decide) tw_897 (v := nu (μ 300 2)) rfl dX11_gangs_3 ?_
  refine r_iconst C dX11_gangs_6 ?_
  refine r_isub C dX11_gangs_7 ?_
  obtain ⟨g1, hf⟩ := of_g hf
  obtain ⟨r2, μ3, hc4, hf⟩ := of_bd hf
  refine r_callSI C hCF (As := [nu a1, nu 0, nu ((μ 300 2) - 1)]) (c_X11_in h1 (inR_lit rfl) g1 hc4) rfl (by decide) (by decide) ⟨Nat.le_refl 0, Nat.le_refl 0⟩ tw_1063 tw_1065 tw_10 tw_1064 3 (by decide) rfl (Nat.le_of_ble_eq_true rfl) dX11_gangs_8 (fun hr6 => ?_)
  refine V_in (fun ho5 _ => ?_)
  refine r_if_ne C 16 hr6 rfl dX11_gangs_11 (fun c7 => ?_) (fun c7 => ?_)
  · replace hf := if_f hf c7
    refine r_iload_n C 2 rfl rfl dX11_gangs_16 ?_
    by_cases c8 : a2 = 0
    · replace hf := if_t hf c8
      refine r_swIn C 52 0 c8 (inR_lit rfl) (by decide) (by decide) rfl rfl dX11_gangs_17 ?_
      refine r_aload_n C 0 rfl rfl dX11_gangs_52 ?_
      refine r_getf C 300 (by decide) rfl (fx_m rfl) (ly_300 cy _ _) rfl in_X11 5 (by decide) tw_900 (v := rf 301) rfl dX11_gangs_53 ?_
      refine r_iload_n C 1 rfl rfl dX11_gangs_56 ?_
      obtain ⟨g9, hf⟩ := of_g hf
      refine r_iald C 301 (by decide) rfl (fx_m rfl) 0 (cA := cy 0) (n := 6) (ly_301 cy _ _) rfl g9 (by decide) dX11_gangs_57 ?_
      obtain ⟨rfl, rfl⟩ := of_ret hf
      exact r_iret C rfl (ho5 _ _) dX11_gangs_58
    replace hf := if_f hf c8
    by_cases c10 : a2 = 1
    · replace hf := if_t hf c10
      refine r_swIn C 59 1 c10 (inR_lit rfl) (by decide) (by decide) rfl rfl dX11_gangs_17 ?_
      refine r_aload_n C 0 rfl rfl dX11_gangs_59 ?_
      refine r_getf C 300 (by decide) rfl (fx_m rfl) (ly_300 cy _ _) rfl in_X11 6 (by decide) tw_901 (v := rf 302) rfl dX11_gangs_60 ?_
      refine r_iload_n C 1 rfl rfl dX11_gangs_63 ?_
      obtain ⟨g11, hf⟩ := of_g hf
      refine r_iald C 302 (by decide) rfl (fx_m rfl) 0 (cA := cy 0) (n := 6) (ly_302 cy _ _) rfl g11 (by decide) dX11_gangs_64 ?_
      obtain ⟨rfl, rfl⟩ := of_ret hf
      exact r_iret C rfl (ho5 _ _) dX11_gangs_65
    replace hf := if_f hf c10
    by_cases c12 : a2 = 2
    · replace hf := if_t hf c12
      refine r_swIn C 66 2 c12 (inR_lit rfl) (by decide) (by decide) rfl rfl dX11_gangs_17 ?_
      refine r_aload_n C 0 rfl rfl dX11_gangs_66 ?_
      refine r_getf C 300 (by decide) rfl (fx_m rfl) (ly_300 cy _ _) rfl in_X11 7 (by decide) tw_902 (v := rf 303) rfl dX11_gangs_67 ?_
      refine r_iload_n C 1 rfl rfl dX11_gangs_70 ?_
      obtain ⟨g13, hf⟩ := of_g hf
      refine r_iald C 303 (by decide) rfl (fx_m rfl) 0 (cA := cy 0) (n := 6) (ly_303 cy _ _) rfl g13 (by decide) dX11_gangs_71 ?_
      obtain ⟨rfl, rfl⟩ := of_ret hf
      exact r_iret C rfl (ho5 _ _) dX11_gangs_72
    replace hf := if_f hf c12
    by_cases c14 : a2 = 3
    · replace hf := if_t hf c14
      refine r_swIn C 73 3 c14 (inR_lit rfl) (by decide) (by decide) rfl rfl dX11_gangs_17 ?_
      refine r_aload_n C 0 rfl rfl dX11_gangs_73 ?_
      refine r_getf C 300 (by decide) rfl (fx_m rfl) (ly_300 cy _ _) rfl in_X11 8 (by decide) tw_903 (v := rf 304) rfl dX11_gangs_74 ?_
      refine r_iload_n C 1 rfl rfl dX11_gangs_77 ?_
      obtain ⟨g15, hf⟩ := of_g hf
      refine r_iald C 304 (by decide) rfl (fx_m rfl) 0 (cA := cy 0) (n := 6) (ly_304 cy _ _) rfl g15 (by decide) dX11_gangs_78 ?_
      obtain ⟨rfl, rfl⟩ := of_ret hf
      exact r_iret C rfl (ho5 _ _) dX11_gangs_79
    replace hf := if_f hf c14
    by_cases c16 : a2 = 4
    · replace hf := if_t hf c16
      refine r_swIn C 80 4 c16 (inR_lit rfl) (by decide) (by decide) rfl rfl dX11_gangs_17 ?_
      refine r_aload_n C 0 rfl rfl dX11_gangs_80 ?_
      refine r_getf C 300 (by decide) rfl (fx_m rfl) (ly_300 cy _ _) rfl in_X11 9 (by decide) tw_904 (v := rf 305) rfl dX11_gangs_81 ?_
      refine r_iload_n C 1 rfl rfl dX11_gangs_84 ?_
      obtain ⟨g17, hf⟩ := of_g hf
      refine r_iald C 305 (by decide) rfl (fx_m rfl) 0 (cA := cy 0) (n := 6) (ly_305 cy _ _) rfl g17 (by decide) dX11_gangs_85 ?_
      obtain ⟨rfl, rfl⟩ := of_ret hf
      exact r_iret C rfl (ho5 _ _) dX11_gangs_86
    replace hf := if_f hf c16
    refine r_swOut C 87 h2 (by omega) rfl dX11_gangs_17 ?_
    refine r_iconst C dX11_gangs_87 ?_
    obtain ⟨rfl, rfl⟩ := of_ret hf
    exact r_iret C rfl (inR_lit rfl) dX11_gangs_88
  · replace hf := if_t hf c7
    refine r_iconst C dX11_gangs_14 ?_
    obtain ⟨rfl, rfl⟩ := of_ret hf
    exact r_iret C rfl (inR_lit rfl) dX11_gangs_15
set_option maxHeartbeats 4000000 in
set_option maxRecDepth 100000 in
theorem w_X11_can_92 {p : Program} {l : Launch} {e : Env} {s : State} {m : MethodId} {args : Array Value} {below : List Frame} {meth : Method} {c : Code} {D : va_G} {cy : Nat → ClassId} {A : Nat → Prop} {ids : List Nat} {ad : Nat → Nat} {r : Int} {μ' : Mem} (C : Cx p s m args meth c D (tyl cy) A 4 cX11_can yX11_can.cls (some .boolean)) (hCF : CF ad A s) : ∀ (v1 v2 w0 : Int) (μ : Mem), inR v1 → inR v2 → inR w0 → f_X11_can_92   v1 v2 w0 μ = some (r, μ') → V p l e (rmk 4) s m args below meth c 0 0 (MQ below (aI D (tyl cy) (lay cy) ids ad A r μ') args s 0 0 A) D A (lay cy) ids ad 4 μ 92 [some (rf 300), some (nu v1), some (nu v2), none] [nu w0] := by
  intro v1 v2 w0 μ hv1 hv2 hw0 hf
  unfold f_X11_can_92 at hf
  refine V_in (fun ho0 _ => ?_)
  refine r_istore_n C 3 (lw := [some (rf 300), some (nu v1), some (nu v2), some (nu w0)]) rfl rfl (by decide) dX11_can_92 ?_
  refine r_iload_n C 3 rfl rfl dX11_can_93 ?_
  refine r_if_eq C 127 hw0 rfl dX11_can_94 (fun c1 => ?_) (fun c1 => ?_)
  · replace hf := if_t hf c1
    refine r_iconst C dX11_can_127 ?_
    obtain ⟨rfl, rfl⟩ := of_ret hf
    exact r_zret C rfl (by decide) dX11_can_128
  · replace hf := if_f hf c1
    refine r_aload_n C 0 rfl rfl dX11_can_97 ?_
    refine r_getf C 300 (by decide) rfl (fx_m rfl) (ly_300 cy _ _) rfl in_X11 29 (by decide) tw_924 (v := rf 317) rfl dX11_can_98 ?_
    refine r_iload_n C 2 rfl rfl dX11_can_101 ?_
    obtain ⟨g2, hf⟩ := of_g hf
    refine r_iald C 317 (by decide) rfl (fx_m rfl) 0 (cA := cy 0) (n := 30) (ly_317 cy _ _) rfl g2 (by decide) dX11_can_102 ?_
    refine r_iconst C dX11_can_103 ?_
    refine r_icmp_gt C 123 (ho0 _ _) (inR_lit rfl) rfl dX11_can_104 (fun c3 => ?_) (fun c3 => ?_)
    · replace hf := if_t hf c3
      refine r_iconst C dX11_can_123 ?_
      refine r_goto C 128 rfl dX11_can_124 ?_
      obtain ⟨rfl, rfl⟩ := of_ret hf
      exact r_zret C rfl (by decide) dX11_can_128
    · replace hf := if_f hf c3
      refine r_aload_n C 0 rfl rfl dX11_can_107 ?_
      refine r_iload_n C 2 rfl rfl dX11_can_108 ?_
      refine r_iconst C dX11_can_109 ?_
      refine r_iconst C dX11_can_110 ?_
      obtain ⟨r4, μ5, hc6, hf⟩ := of_bd hf
      refine r_callVI C hCF (As := [nu v2, nu 3, nu 0]) 300 (by decide) rfl (fx_m rfl) (ly_300 cy _ _) rfl (c_X11_pull hv2 (inR_lit rfl) (inR_lit rfl) hc6) rfl (by decide) (by decide) ⟨Nat.le_refl 0, Nat.le_refl 0⟩ tw_1147 tw_1150 tw_10 tw_1149 ts_48 3 (by decide) rfl (Nat.le_of_ble_eq_true rfl) dX11_can_111 (fun hr8 => ?_)
      refine V_in (fun ho7 _ => ?_)
      refine r_aload_n C 0 rfl rfl dX11_can_114 ?_
      refine r_getf C 300 (by decide) rfl (fx_m rfl) (ly_300 cy _ _) rfl in_X11 5 (by decide) tw_900 (v := rf 301) rfl dX11_can_115 ?_
      refine r_iload_n C 1 rfl rfl dX11_can_118 ?_
      obtain ⟨g9, hf⟩ := of_g hf
      refine r_iald C 301 (by decide) rfl (fx_m rfl) 0 (cA := cy 0) (n := 6) (ly_301 cy _ _) rfl g9 (by decide) dX11_can_119 ?_
      refine r_icmp_gt C 127 hr8 (ho7 _ _) rfl dX11_can_120 (fun c10 => ?_) (fun c10 => ?_)
      · replace hf := if_t hf c10
        refine r_iconst C dX11_can_127 ?_
        obtain ⟨rfl, rfl⟩ := of_ret hf
        exact r_zret C rfl (by decide) dX11_can_128
      · replace hf := if_f hf c10
        refine r_iconst C dX11_can_123 ?_
        refine r_goto C 128 rfl dX11_can_124 ?_
        obtain ⟨rfl, rfl⟩ := of_ret hf
        exact r_zret C rfl (by decide) dX11_can_128
set_option maxHeartbeats 4000000 in
set_option maxRecDepth 100000 in
theorem w_X11_can_91 {p : Program} {l : Launch} {e : Env} {s : State} {m : MethodId} {args : Array Value} {below : List Frame} {meth : Method} {c : Code} {D : va_G} {cy : Nat → ClassId} {A : Nat → Prop} {ids : List Nat} {ad : Nat → Nat} {r : Int} {μ' : Mem} (C : Cx p s m args meth c D (tyl cy) A 4 cX11_can yX11_can.cls (some .boolean)) (hCF : CF ad A s) : ∀ (v1 v2 : Int) (μ : Mem), inR v1 → inR v2 → f_X11_can_91   v1 v2 μ = some (r, μ') → V p l e (rmk 4) s m args below meth c 0 0 (MQ below (aI D (tyl cy) (lay cy) ids ad A r μ') args s 0 0 A) D A (lay cy) ids ad 4 μ 91 [some (rf 300), some (nu v1), some (nu v2), none] [] := by
  intro v1 v2 μ hv1 hv2 hf
  unfold f_X11_can_91 at hf
  refine V_in (fun ho0 _ => ?_)
  refine r_iconst C dX11_can_91 ?_
  exact V_lw (w_X11_can_92 C hCF v1 v2 0 μ hv1 hv2 (inR_lit rfl) hf) (And.intro rfl (And.intro rfl (And.intro rfl trivial)))
set_option maxHeartbeats 4000000 in
set_option maxRecDepth 100000 in
theorem w_X11_can_87 {p : Program} {l : Launch} {e : Env} {s : State} {m : MethodId} {args : Array Value} {below : List Frame} {meth : Method} {c : Code} {D : va_G} {cy : Nat → ClassId} {A : Nat → Prop} {ids : List Nat} {ad : Nat → Nat} {r : Int} {μ' : Mem} (C : Cx p s m args meth c D (tyl cy) A 4 cX11_can yX11_can.cls (some .boolean)) (hCF : CF ad A s) : ∀ (v1 v2 : Int) (μ : Mem), inR v1 → inR v2 → f_X11_can_87   v1 v2 μ = some (r, μ') → V p l e (rmk 4) s m args below meth c 0 0 (MQ below (aI D (tyl cy) (lay cy) ids ad A r μ') args s 0 0 A) D A (lay cy) ids ad 4 μ 87 [some (rf 300), some (nu v1), some (nu v2), none] [] := by
  intro v1 v2 μ hv1 hv2 hf
  unfold f_X11_can_87 at hf
  refine V_in (fun ho0 _ => ?_)
  refine r_iconst C dX11_can_87 ?_
  refine r_goto C 92 rfl dX11_can_88 ?_
  exact V_lw (w_X11_can_92 C hCF v1 v2 1 μ hv1 hv2 (inR_lit rfl) hf) (And.intro rfl (And.intro rfl (And.intro rfl trivial)))
set_option maxHeartbeats 4000000 in
set_option maxRecDepth 100000 in
theorem w_X11_can_56 {p : Program} {l : Launch} {e : Env} {s : State} {m : MethodId} {args : Array Value} {below : List Frame} {meth : Method} {c : Code} {D : va_G} {cy : Nat → ClassId} {A : Nat → Prop} {ids : List Nat} {ad : Nat → Nat} {r : Int} {μ' : Mem} (C : Cx p s m args meth c D (tyl cy) A 4 cX11_can yX11_can.cls (some .boolean)) (hCF : CF ad A s) : ∀ (v1 v2 w0 : Int) (μ : Mem), inR v1 → inR v2 → inR w0 → f_X11_can_56   v1 v2 w0 μ = some (r, μ') → V p l e (rmk 4) s m args below meth c 0 0 (MQ below (aI D (tyl cy) (lay cy) ids ad A r μ') args s 0 0 A) D A (lay cy) ids ad 4 μ 56 [some (rf 300), some (nu v1), some (nu v2), none] [nu w0] := by
  intro v1 v2 w0 μ hv1 hv2 hw0 hf
  unfold f_X11_can_56 at hf
  refine V_in (fun ho0 _ => ?_)
  refine r_istore_n C 3 (lw := [some (rf 300), some (nu v1), some (nu v2), some (nu w0)]) rfl rfl (by decide) dX11_can_56 ?_
  refine r_iload_n C 3 rfl rfl dX11_can_57 ?_
  refine r_if_eq C 91 hw0 rfl dX11_can_58 (fun c1 => ?_) (fun c1 => ?_)
  · replace hf := if_t hf c1
    exact V_lw (w_X11_can_91 C hCF v1 v2 μ hv1 hv2 hf) (And.intro rfl (And.intro rfl (And.intro rfl trivial)))
  · replace hf := if_f hf c1
    refine r_aload_n C 0 rfl rfl dX11_can_61 ?_
    refine r_getf C 300 (by decide) rfl (fx_m rfl) (ly_300 cy _ _) rfl in_X11 29 (by decide) tw_924 (v := rf 317) rfl dX11_can_62 ?_
    refine r_iload_n C 2 rfl rfl dX11_can_65 ?_
    obtain ⟨g2, hf⟩ := of_g hf
    refine r_iald C 317 (by decide) rfl (fx_m rfl) 0 (cA := cy 0) (n := 30) (ly_317 cy _ _) rfl g2 (by decide) dX11_can_66 ?_
    refine r_iconst C dX11_can_67 ?_
    refine r_icmp_gt C 87 (ho0 _ _) (inR_lit rfl) rfl dX11_can_68 (fun c3 => ?_) (fun c3 => ?_)
    · replace hf := if_t hf c3
      exact V_lw (w_X11_can_87 C hCF v1 v2 μ hv1 hv2 hf) (And.intro rfl (And.intro rfl (And.intro rfl trivial)))
    · replace hf := if_f hf c3
      refine r_aload_n C 0 rfl rfl dX11_can_71 ?_
      refine r_iload_n C 2 rfl rfl dX11_can_72 ?_
      refine r_iconst C dX11_can_73 ?_
      refine r_iconst C dX11_can_74 ?_
      obtain ⟨r4, μ5, hc6, hf⟩ := of_bd hf
      refine r_callVI C hCF (As := [nu v2, nu 1, nu 0]) 300 (by decide) rfl (fx_m rfl) (ly_300 cy _ _) rfl (c_X11_pull hv2 (inR_lit rfl) (inR_lit rfl) hc6) rfl (by decide) (by decide) ⟨Nat.le_refl 0, Nat.le_refl 0⟩ tw_1147 tw_1150 tw_10 tw_1149 ts_48 3 (by decide) rfl (Nat.le_of_ble_eq_true rfl) dX11_can_75 (fun hr8 => ?_)
      refine V_in (fun ho7 _ => ?_)
      refine r_aload_n C 0 rfl rfl dX11_can_78 ?_
      refine r_getf C 300 (by decide) rfl (fx_m rfl) (ly_300 cy _ _) rfl in_X11 5 (by decide) tw_900 (v := rf 301) rfl dX11_can_79 ?_
      refine r_iload_n C 1 rfl rfl dX11_can_82 ?_
      obtain ⟨g9, hf⟩ := of_g hf
      refine r_iald C 301 (by decide) rfl (fx_m rfl) 0 (cA := cy 0) (n := 6) (ly_301 cy _ _) rfl g9 (by decide) dX11_can_83 ?_
      refine r_icmp_gt C 91 hr8 (ho7 _ _) rfl dX11_can_84 (fun c10 => ?_) (fun c10 => ?_)
      · replace hf := if_t hf c10
        exact V_lw (w_X11_can_91 C hCF v1 v2 μ5 hv1 hv2 hf) (And.intro rfl (And.intro rfl (And.intro rfl trivial)))
      · replace hf := if_f hf c10
        exact V_lw (w_X11_can_87 C hCF v1 v2 μ5 hv1 hv2 hf) (And.intro rfl (And.intro rfl (And.intro rfl trivial)))
set_option maxHeartbeats 4000000 in
set_option maxRecDepth 100000 in
theorem w_X11_can_35 {p : Program} {l : Launch} {e : Env} {s : State} {m : MethodId} {args : Array Value} {below : List Frame} {meth : Method} {c : Code} {D : va_G} {cy : Nat → ClassId} {A : Nat → Prop} {ids : List Nat} {ad : Nat → Nat} {r : Int} {μ' : Mem} (C : Cx p s m args meth c D (tyl cy) A 4 cX11_can yX11_can.cls (some .boolean)) (hCF : CF ad A s) : ∀ (v1 v2 : Int) (μ : Mem), inR v1 → inR v2 → f_X11_can_35   v1 v2 μ = some (r, μ') → V p l e (rmk 4) s m args below meth c 0 0 (MQ below (aI D (tyl cy) (lay cy) ids ad A r μ') args s 0 0 A) D A (lay cy) ids ad 4 μ 35 [some (rf 300), some (nu v1), some (nu v2), none] [] := by
  intro v1 v2 μ hv1 hv2 hf
  unfold f_X11_can_35 at hf
  refine V_in (fun ho0 _ => ?_)
  refine r_aload_n C 0 rfl rfl dX11_can_35 ?_
  refine r_iload_n C 2 rfl rfl dX11_can_36 ?_
  refine r_iconst C dX11_can_37 ?_
  refine r_iconst C dX11_can_38 ?_
  obtain ⟨r1, μ2, hc3, hf⟩ := of_bd hf
  refine r_callVI C hCF (As := [nu v2, nu 4, nu 0]) 300 (by decide) rfl (fx_m rfl) (ly_300 cy _ _) rfl (c_X11_pull hv2 (inR_lit rfl) (inR_lit rfl) hc3) rfl (by decide) (by decide) ⟨Nat.le_refl 0, Nat.le_refl 0⟩ tw_1147 tw_1150 tw_10 tw_1149 ts_48 3 (by decide) rfl (Nat.le_of_ble_eq_true rfl) dX11_can_39 (fun hr5 => ?_)
  refine V_in (fun ho4 _ => ?_)
  refine r_aload_n C 0 rfl rfl dX11_can_42 ?_
  refine r_getf C 300 (by decide) rfl (fx_m rfl) (ly_300 cy _ _) rfl in_X11 5 (by decide) tw_900 (v := rf 301) rfl dX11_can_43 ?_
  refine r_iload_n C 1 rfl rfl dX11_can_46 ?_
  obtain ⟨g6, hf⟩ := of_g hf
  refine r_iald C 301 (by decide) rfl (fx_m rfl) 0 (cA := cy 0) (n := 6) (ly_301 cy _ _) rfl g6 (by decide) dX11_can_47 ?_
  refine r_icmp_gt C 55 hr5 (ho4 _ _) rfl dX11_can_48 (fun c7 => ?_) (fun c7 => ?_)
  · replace hf := if_t hf c7
    refine r_iconst C dX11_can_55 ?_
    exact V_lw (w_X11_can_56 C hCF v1 v2 0 μ2 hv1 hv2 (inR_lit rfl) hf) (And.intro rfl (And.intro rfl (And.intro rfl trivial)))
  · replace hf := if_f hf c7
    refine r_iconst C dX11_can_51 ?_
    refine r_goto C 56 rfl dX11_can_52 ?_
    exact V_lw (w_X11_can_56 C hCF v1 v2 1 μ2 hv1 hv2 (inR_lit rfl) hf) (And.intro rfl (And.intro rfl (And.intro rfl trivial)))
set_option maxHeartbeats 4000000 in
set_option maxRecDepth 100000 in
theorem c_X11_can {l : Launch} {D : va_G} {cy : Nat → ClassId} {ids : List Nat} {ad : Nat → Nat} {μ μ' : Mem} {a1 a2 r : Int} (h1 : inR a1) (h2 : inR a2) (hf : f_X11_can μ a1 a2 = some (r, μ')) : KK aI l D (tyl cy) (lay cy) ids ad 4 yX11_can cX11_can 4 (some .boolean) [rf 300, nu a1, nu a2] μ r μ' := by
  refine KK.of (by decide +kernel) (Nat.le_of_ble_eq_true rfl) ?_
  intro p e s m args below meth c A C hCF
  unfold f_X11_can at hf
  refine V_in (fun ho0 _ => ?_)
  refine r_aload_n C 0 rfl rfl dX11_can_0 ?_
  refine r_getf C 300 (by decide) rfl (fx_m rfl) (ly_300 cy _ _) rfl in_X11 6 (by decide) tw_901 (v := rf 302) rfl dX11_can_1 ?_
  refine r_iload_n C 1 rfl rfl dX11_can_4 ?_
  obtain ⟨g1, hf⟩ := of_g hf
  refine r_iald C 302 (by decide) rfl (fx_m rfl) 0 (cA := cy 0) (n := 6) (ly_302 cy _ _) rfl g1 (by decide) dX11_can_5 ?_
  refine r_iconst C dX11_can_6 ?_
  refine r_icmp_ne C 33 (ho0 _ _) (inR_lit rfl) rfl dX11_can_7 (fun c2 => ?_) (fun c2 => ?_)
  · replace hf := if_f hf c2
    refine r_iconst C dX11_can_33 ?_
    obtain ⟨rfl, rfl⟩ := of_ret hf
    exact r_zret C rfl (by decide) dX11_can_34
  · replace hf := if_t hf c2
    refine r_aload_n C 0 rfl rfl dX11_can_10 ?_
    refine r_getf C 300 (by decide) rfl (fx_m rfl) (ly_300 cy _ _) rfl in_X11 29 (by decide) tw_924 (v := rf 317) rfl dX11_can_11 ?_
    refine r_iload_n C 2 rfl rfl dX11_can_14 ?_
    obtain ⟨g3, hf⟩ := of_g hf
    refine r_iald C 317 (by decide) rfl (fx_m rfl) 0 (cA := cy 0) (n := 30) (ly_317 cy _ _) rfl g3 (by decide) dX11_can_15 ?_
    refine r_iconst C dX11_can_16 ?_
    refine r_icmp_gt C 35 (ho0 _ _) (inR_lit rfl) rfl dX11_can_17 (fun c4 => ?_) (fun c4 => ?_)
    · replace hf := if_t hf c4
      exact V_lw (w_X11_can_35 C hCF a1 a2 μ h1 h2 hf) (And.intro rfl (And.intro rfl (And.intro rfl trivial)))
    · replace hf := if_f hf c4
      refine r_aload_n C 0 rfl rfl dX11_can_20 ?_
      refine r_getf C 300 (by decide) rfl (fx_m rfl) (ly_300 cy _ _) rfl in_X11 17 (by decide) tw_912 (v := nu (μ 300 17)) rfl dX11_can_21 ?_
      refine r_aload_n C 0 rfl rfl dX11_can_24 ?_
      refine r_getf C 300 (by decide) rfl (fx_m rfl) (ly_300 cy _ _) rfl in_X11 28 (by decide) tw_923 (v := rf 316) rfl dX11_can_25 ?_
      refine r_iload_n C 2 rfl rfl dX11_can_28 ?_
      refine r_iald C 316 (by decide) rfl (fx_m rfl) 0 (cA := cy 0) (n := 30) (ly_316 cy _ _) rfl g3 (by decide) dX11_can_29 ?_
      refine r_icmp_gt C 35 (ho0 _ _) (ho0 _ _) rfl dX11_can_30 (fun c5 => ?_) (fun c5 => ?_)
      · replace hf := if_t hf c5
        exact V_lw (w_X11_can_35 C hCF a1 a2 μ h1 h2 hf) (And.intro rfl (And.intro rfl (And.intro rfl trivial)))
      · replace hf := if_f hf c5
        refine r_iconst C dX11_can_33 ?_
        obtain ⟨rfl, rfl⟩ := of_ret hf
        exact r_zret C rfl (by decide) dX11_can_34
set_option maxHeartbeats 4000000 in
set_option maxRecDepth 100000 in
theorem w_X11_rivers_35 {p : Program} {l : Launch} {e : Env} {s : State} {m : MethodId} {args : Array Value} {below : List Frame} {meth : Method} {c : Code} {D : va_G} {cy : Nat → ClassId} {A : Nat → Prop} {ids : List Nat} {ad : Nat → Nat} {r : Int} {μ' : Mem} (C : Cx p s m args meth c D (tyl cy) A 3 cX11_rivers yX11_rivers.cls none) (hCF : CF ad A s) (k15 : Int → Int → Mem → Option (Int × Mem)) (hk15 : ∀ (v1 v2 : Int) (μ : Mem), inR v1 → inR v2 → k15 v1 v2 μ = some (r, μ') → V p l e (rmk 6) s m args below meth c 0 0 (MQ below (aV D (tyl cy) (lay cy) ids ad A r μ') args s 0 0 A) D A (lay cy) ids ad 3 μ 15 [some (rf 300), some (nu v1), some (nu v2)] []) : ∀ (v2 w0 : Int) (μ : Mem), inR v2 → inR w0 → f_X11_rivers_35  k15 v2 w0 μ = some (r, μ') → V p l e (rmk 6) s m args below meth c 0 0 (MQ below (aV D (tyl cy) (lay cy) ids ad A r μ') args s 0 0 A) D A (lay cy) ids ad 3 μ 35 [some (rf 300), none, some (nu v2)] [nu w0] := by
  intro v2 w0 μ hv2 hw0 hf
  unfold f_X11_rivers_35 at hf
  refine V_in (fun ho0 _ => ?_)
  refine r_istore_n C 1 (lw := [some (rf 300), some (nu w0), some (nu v2)]) rfl rfl (by decide) dX11_rivers_35 ?_
  refine r_aload_n C 0 rfl rfl dX11_rivers_36 ?_
  refine r_getf C 300 (by decide) rfl (fx_m rfl) (ly_300 cy _ _) rfl in_X11 44 (by decide) tw_939 (v := rf 330) rfl dX11_rivers_37 ?_
  refine r_iload_n C 2 rfl rfl dX11_rivers_40 ?_
  refine r_iload_n C 1 rfl rfl dX11_rivers_41 ?_
  refine r_aload_n C 0 rfl rfl dX11_rivers_42 ?_
  refine r_getf C 300 (by decide) rfl (fx_m rfl) (ly_300 cy _ _) rfl in_X11 23 (by decide) tw_918 (v := rf 312) rfl dX11_rivers_43 ?_
  refine r_bipush C dX11_rivers_46 rfl ?_
  refine r_iald C 312 (by decide) rfl (fx_m rfl) 0 (cA := cy 0) (n := 9) (ly_312 cy _ _) rfl ⟨by decide, by decide⟩ (by decide) dX11_rivers_48 ?_
  refine r_icmp_lt C 56 hw0 (ho0 _ _) rfl dX11_rivers_49 (fun c1 => ?_) (fun c1 => ?_)
  · replace hf := if_t hf c1
    refine r_aload_n C 0 rfl rfl dX11_rivers_56 ?_
    refine r_getf C 300 (by decide) rfl (fx_m rfl) (ly_300 cy _ _) rfl in_X11 44 (by decide) tw_939 (v := rf 330) rfl dX11_rivers_57 ?_
    refine r_iload_n C 2 rfl rfl dX11_rivers_60 ?_
    refine r_iconst C dX11_rivers_61 ?_
    refine r_iadd C dX11_rivers_62 ?_
    obtain ⟨g2, hf⟩ := of_g hf
    refine r_iald C 330 (by decide) rfl (fx_m rfl) 0 (cA := cy 0) (n := 3002) (ly_330 cy _ _) rfl g2 (by decide) dX11_rivers_63 ?_
    obtain ⟨g3, hf⟩ := of_g hf
    refine r_iast C 330 (by decide) rfl (fx_m rfl) (by decide) 0 (cA := cy 0) (n := 3002) (fun f => ly_330 cy _ f) rfl g3 (by decide) (ho0 _ _) dX11_rivers_64 (fun μ4 hμ6 => ?_)
    replace hf := of_lm hf hμ6
    refine V_in (fun ho5 _ => ?_)
    refine r_iinc C rfl (lw := [some (rf 300), some (nu w0), some (nu (v2 + (-1)))]) rfl (by decide) dX11_rivers_65 ?_
    refine r_goto C 15 rfl dX11_rivers_68 ?_
    obtain ⟨g7, hf⟩ := of_g hf
    exact V_lw (hk15 w0 (v2 + (-1)) μ4 hw0 g7 hf) (And.intro rfl (And.intro rfl (And.intro rfl trivial)))
  · replace hf := if_f hf c1
    refine r_iload_n C 2 rfl rfl dX11_rivers_52 ?_
    refine r_goto C 64 rfl dX11_rivers_53 ?_
    obtain ⟨g8, hf⟩ := of_g hf
    refine r_iast C 330 (by decide) rfl (fx_m rfl) (by decide) 0 (cA := cy 0) (n := 3002) (fun f => ly_330 cy _ f) rfl g8 (by decide) hv2 dX11_rivers_64 (fun μ9 hμ11 => ?_)
    replace hf := of_lm hf hμ11
    refine V_in (fun ho10 _ => ?_)
    refine r_iinc C rfl (lw := [some (rf 300), some (nu w0), some (nu (v2 + (-1)))]) rfl (by decide) dX11_rivers_65 ?_
    refine r_goto C 15 rfl dX11_rivers_68 ?_
    obtain ⟨g12, hf⟩ := of_g hf
    exact V_lw (hk15 w0 (v2 + (-1)) μ9 hw0 g12 hf) (And.intro rfl (And.intro rfl (And.intro rfl trivial)))
set_option maxHeartbeats 4000000 in
set_option maxRecDepth 100000 in
theorem w_X11_rivers_15 {p : Program} {l : Launch} {e : Env} {s : State} {m : MethodId} {args : Array Value} {below : List Frame} {meth : Method} {c : Code} {D : va_G} {cy : Nat → ClassId} {A : Nat → Prop} {ids : List Nat} {ad : Nat → Nat} {r : Int} {μ' : Mem} (C : Cx p s m args meth c D (tyl cy) A 3 cX11_rivers yX11_rivers.cls none) (hCF : CF ad A s) : ∀ n : Nat, ∀ (v1 v2 : Int) (μ : Mem), inR v1 → inR v2 → f_X11_rivers_15   n v1 v2 μ = some (r, μ') → V p l e (rmk 6) s m args below meth c 0 0 (MQ below (aV D (tyl cy) (lay cy) ids ad A r μ') args s 0 0 A) D A (lay cy) ids ad 3 μ 15 [some (rf 300), some (nu v1), some (nu v2)] [] := by
  intro n
  induction n with
  | zero =>
    intro v1 v2 μ hv1 hv2 hf
    cases hf
  | succ n ih =>
    intro v1 v2 μ hv1 hv2 hf
    rw [f_X11_rivers_15_e] at hf
    refine V_in (fun ho0 _ => ?_)
    refine r_iload_n C 2 rfl rfl dX11_rivers_15 ?_
    refine r_if_lt C 71 hv2 rfl dX11_rivers_16 (fun c1 => ?_) (fun c1 => ?_)
    · replace hf := if_t hf c1
      obtain ⟨-, rfl⟩ := of_ret hf
      exact r_vret C rfl dX11_rivers_71
    · replace hf := if_f hf c1
      refine r_aload_n C 0 rfl rfl dX11_rivers_19 ?_
      refine r_iconst C dX11_rivers_20 ?_
      refine r_iload_n C 2 rfl rfl dX11_rivers_21 ?_
      obtain ⟨r2, μ3, hc4, hf⟩ := of_bd hf
      refine r_callVI C hCF (As := [nu 0, nu v2]) 300 (by decide) rfl (fx_m rfl) (ly_300 cy _ _) rfl (c_X11_is (inR_lit rfl) hv2 hc4) rfl (by decide) (by decide) ⟨Nat.le_refl 0, Nat.le_refl 0⟩ tw_1143 tw_1146 tw_10 tw_1145 ts_47 2 (by decide) rfl (Nat.le_of_ble_eq_true rfl) dX11_rivers_22 (fun hr6 => ?_)
      refine V_in (fun ho5 _ => ?_)
      refine r_if_eq C 34 hr6 rfl dX11_rivers_25 (fun c7 => ?_) (fun c7 => ?_)
      · replace hf := if_t hf c7
        refine r_iconst C dX11_rivers_34 ?_
        exact V_lw (w_X11_rivers_35 C hCF (f_X11_rivers_15 n) ih v2 0 μ3 hv2 (inR_lit rfl) hf) (And.intro rfl (And.intro rfl trivial))
      · replace hf := if_f hf c7
        refine r_iload_n C 1 rfl rfl dX11_rivers_28 ?_
        refine r_iconst C dX11_rivers_29 ?_
        refine r_iadd C dX11_rivers_30 ?_
        refine r_goto C 35 rfl dX11_rivers_31 ?_
        obtain ⟨g8, hf⟩ := of_g hf
        exact V_lw (w_X11_rivers_35 C hCF (f_X11_rivers_15 n) ih v2 (v1 + 1) μ3 hv2 g8 hf) (And.intro rfl (And.intro rfl trivial))
set_option maxHeartbeats 4000000 in
set_option maxRecDepth 100000 in
theorem c_X11_rivers {l : Launch} {D : va_G} {cy : Nat → ClassId} {ids : List Nat} {ad : Nat → Nat} {μ μ' : Mem} { r : Int}  (hf : f_X11_rivers μ  = some (r, μ')) : KK aV l D (tyl cy) (lay cy) ids ad 6 yX11_rivers cX11_rivers 3 none [rf 300] μ r μ' := by
  refine KK.of (by decide +kernel) (Nat.le_of_ble_eq_true rfl) ?_
  intro p e s m args below meth c A C hCF
  unfold f_X11_rivers at hf
  refine V_in (fun ho0 _ => ?_)
  refine r_iconst C dX11_rivers_0 ?_
  refine r_istore_n C 1 (lw := [some (rf 300), some (nu 0), none]) rfl rfl (by decide) dX11_rivers_1 ?_
  refine r_aload_n C 0 rfl rfl dX11_rivers_2 ?_
  refine r_getf C 300 (by decide) rfl (fx_m rfl) (ly_300 cy _ _) rfl in_X11 44 (by decide) tw_939 (v := rf 330) rfl dX11_rivers_3 ?_
  refine r_sipush C dX11_rivers_6 rfl ?_
  refine r_iconst C dX11_rivers_9 ?_
  refine r_iast C 330 (by decide) rfl (fx_m rfl) (by decide) 0 (cA := cy 0) (n := 3002) (fun f => ly_330 cy _ f) rfl ⟨by decide, by decide⟩ (by decide) (inR_lit rfl) dX11_rivers_10 (fun μ1 hμ3 => ?_)
  replace hf := of_lm hf hμ3
  refine V_in (fun ho2 _ => ?_)
  refine r_sipush C dX11_rivers_11 rfl ?_
  refine r_istore_n C 2 (lw := [some (rf 300), some (nu 0), some (nu 3000)]) rfl rfl (by decide) dX11_rivers_14 ?_
  exact V_lw (w_X11_rivers_15 C hCF 3100 0 3000 μ1 (inR_lit rfl) (inR_lit rfl) hf) (And.intro rfl (And.intro rfl (And.intro rfl trivial)))
set_option maxHeartbeats 4000000 in
set_option maxRecDepth 100000 in
theorem c_X11_raftFrom {l : Launch} {D : va_G} {cy : Nat → ClassId} {ids : List Nat} {ad : Nat → Nat} {μ μ' : Mem} {a1 r : Int} (h1 : inR a1) (hf : f_X11_raftFrom μ a1 = some (r, μ')) : KK aI l D (tyl cy) (lay cy) ids ad 2 yX11_raftFrom cX11_raftFrom 2 (some .int) [rf 300, nu a1] μ r μ' := by
  refine KK.of (by decide +kernel) (Nat.le_of_ble_eq_true rfl) ?_
  intro p e s m args below meth c A C hCF
  unfold f_X11_raftFrom at hf
  refine V_in (fun ho0 _ => ?_)
  refine r_iload_n C 1 rfl rfl dX11_raftFrom_0 ?_
  refine r_sipush C dX11_raftFrom_1 rfl ?_
  refine r_icmp_le C 11 h1 (inR_lit rfl) rfl dX11_raftFrom_4 (fun c1 => ?_) (fun c1 => ?_)
  · replace hf := if_t hf c1
    refine r_aload_n C 0 rfl rfl dX11_raftFrom_11 ?_
    refine r_getf C 300 (by decide) rfl (fx_m rfl) (ly_300 cy _ _) rfl in_X11 44 (by decide) tw_939 (v := rf 330) rfl dX11_raftFrom_12 ?_
    refine r_iload_n C 1 rfl rfl dX11_raftFrom_15 ?_
    obtain ⟨g2, hf⟩ := of_g hf
    refine r_iald C 330 (by decide) rfl (fx_m rfl) 0 (cA := cy 0) (n := 3002) (ly_330 cy _ _) rfl g2 (by decide) dX11_raftFrom_16 ?_
    obtain ⟨rfl, rfl⟩ := of_ret hf
    exact r_iret C rfl (ho0 _ _) dX11_raftFrom_17
  · replace hf := if_f hf c1
    refine r_iconst C dX11_raftFrom_7 ?_
    refine r_goto C 17 rfl dX11_raftFrom_8 ?_
    obtain ⟨rfl, rfl⟩ := of_ret hf
    exact r_iret C rfl (inR_lit rfl) dX11_raftFrom_17
set_option maxHeartbeats 4000000 in
set_option maxRecDepth 100000 in
theorem w_X11_lays_226 {p : Program} {l : Launch} {e : Env} {s : State} {m : MethodId} {args : Array Value} {below : List Frame} {meth : Method} {c : Code} {D : va_G} {cy : Nat → ClassId} {A : Nat → Prop} {ids : List Nat} {ad : Nat → Nat} {r : Int} {μ' : Mem} (C : Cx p s m args meth c D (tyl cy) A 6 cX11_lays yX11_lays.cls (some .boolean)) (hCF : CF ad A s) : ∀ n : Nat, ∀ (v1 v2 v3 v4 v5 : Int) (μ : Mem), inR v1 → inR v2 → inR v3 → inR v4 → inR v5 → f_X11_lays_226   n v1 v2 v3 v4 v5 μ = some (r, μ') → V p l e (rmk 4) s m args below meth c 0 0 (MQ below (aI D (tyl cy) (lay cy) ids ad A r μ') args s 0 0 A) D A (lay cy) ids ad 6 μ 226 [some (rf 300), some (nu v1), some (nu v2), some (nu v3), some (nu v4), some (nu v5)] [] := by
  intro n
  induction n with
  | zero =>
    intro v1 v2 v3 v4 v5 μ hv1 hv2 hv3 hv4 hv5 hf
    cases hf
  | succ n ih =>
    intro v1 v2 v3 v4 v5 μ hv1 hv2 hv3 hv4 hv5 hf
    rw [f_X11_lays_226_e] at hf
    refine V_in (fun ho0 _ => ?_)
    refine r_iload C rfl dX11_lays_226 ?_
    refine r_aload_n C 0 rfl rfl dX11_lays_228 ?_
    refine r_getf C 300 (by decide) rfl (fx_m rfl) (ly_300 cy _ _) rfl in_X11 32 (by decide) tw_927 (v := nu (μ 300 32)) rfl dX11_lays_229 ?_
    refine r_icmp_ge C 264 hv5 (ho0 _ _) rfl dX11_lays_232 (fun c1 => ?_) (fun c1 => ?_)
    · replace hf := if_t hf c1
      refine r_aload_n C 0 rfl rfl dX11_lays_264 ?_
      refine r_getf C 300 (by decide) rfl (fx_m rfl) (ly_300 cy _ _) rfl in_X11 38 (by decide) tw_933 (v := rf 324) rfl dX11_lays_265 ?_
      refine r_iload_n C 1 rfl rfl dX11_lays_268 ?_
      refine r_iload C rfl dX11_lays_269 ?_
      obtain ⟨g2, hf⟩ := of_g hf
      refine r_iast C 324 (by decide) rfl (fx_m rfl) (by decide) 0 (cA := cy 0) (n := 5) (fun f => ly_324 cy _ f) rfl g2 (by decide) hv4 dX11_lays_271 (fun μ3 hμ5 => ?_)
      replace hf := of_lm hf hμ5
      refine V_in (fun ho4 _ => ?_)
      refine r_aload_n C 0 rfl rfl dX11_lays_272 ?_
      refine r_getf C 300 (by decide) rfl (fx_m rfl) (ly_300 cy _ _) rfl in_X11 43 (by decide) tw_938 (v := rf 329) rfl dX11_lays_273 ?_
      refine r_iload_n C 3 rfl rfl dX11_lays_276 ?_
      refine r_iload C rfl dX11_lays_277 ?_
      refine r_iconst C dX11_lays_279 ?_
      refine r_iadd C dX11_lays_280 ?_
      obtain ⟨g6, hf⟩ := of_g hf
      obtain ⟨g7, hf⟩ := of_g hf
      refine r_iast C 329 (by decide) rfl (fx_m rfl) (by decide) 0 (cA := cy 0) (n := 6) (fun f => ly_329 cy _ f) rfl g6 (by decide) g7 dX11_lays_281 (fun μ8 hμ10 => ?_)
      replace hf := of_lm hf hμ10
      refine V_in (fun ho9 _ => ?_)
      refine r_iload C rfl dX11_lays_282 ?_
      refine r_sipush C dX11_lays_284 rfl ?_
      refine r_icmp_gt C 294 hv4 (inR_lit rfl) rfl dX11_lays_287 (fun c11 => ?_) (fun c11 => ?_)
      · replace hf := if_t hf c11
        refine r_iconst C dX11_lays_294 ?_
        obtain ⟨rfl, rfl⟩ := of_ret hf
        exact r_zret C rfl (by decide) dX11_lays_295
      · replace hf := if_f hf c11
        refine r_iconst C dX11_lays_290 ?_
        refine r_goto C 295 rfl dX11_lays_291 ?_
        obtain ⟨rfl, rfl⟩ := of_ret hf
        exact r_zret C rfl (by decide) dX11_lays_295
    · replace hf := if_f hf c1
      refine r_aload_n C 0 rfl rfl dX11_lays_235 ?_
      refine r_getf C 300 (by decide) rfl (fx_m rfl) (ly_300 cy _ _) rfl in_X11 28 (by decide) tw_923 (v := rf 316) rfl dX11_lays_236 ?_
      refine r_aload_n C 0 rfl rfl dX11_lays_239 ?_
      refine r_getf C 300 (by decide) rfl (fx_m rfl) (ly_300 cy _ _) rfl in_X11 35 (by decide) tw_930 (v := rf 321) rfl dX11_lays_240 ?_
      refine r_iload C rfl dX11_lays_243 ?_
      obtain ⟨g12, hf⟩ := of_g hf
      refine r_iald C 321 (by decide) rfl (fx_m rfl) 0 (cA := cy 0) (n := 5) (ly_321 cy _ _) rfl g12 (by decide) dX11_lays_245 ?_
      obtain ⟨g13, hf⟩ := of_g hf
      refine r_iald C 316 (by decide) rfl (fx_m rfl) 0 (cA := cy 0) (n := 30) (ly_316 cy _ _) rfl g13 (by decide) dX11_lays_246 ?_
      refine r_aload_n C 0 rfl rfl dX11_lays_247 ?_
      refine r_getf C 300 (by decide) rfl (fx_m rfl) (ly_300 cy _ _) rfl in_X11 28 (by decide) tw_923 (v := rf 316) rfl dX11_lays_248 ?_
      refine r_iload_n C 2 rfl rfl dX11_lays_251 ?_
      obtain ⟨g14, hf⟩ := of_g hf
      refine r_iald C 316 (by decide) rfl (fx_m rfl) 0 (cA := cy 0) (n := 30) (ly_316 cy _ _) rfl g14 (by decide) dX11_lays_252 ?_
      refine r_icmp_ge C 258 (ho0 _ _) (ho0 _ _) rfl dX11_lays_253 (fun c15 => ?_) (fun c15 => ?_)
      · replace hf := if_t hf c15
        refine r_iinc C rfl (lw := [some (rf 300), some (nu v1), some (nu v2), some (nu v3), some (nu v4), some (nu (v5 + 1))]) rfl (by decide) dX11_lays_258 ?_
        refine r_goto C 226 rfl dX11_lays_261 ?_
        obtain ⟨g16, hf⟩ := of_g hf
        exact V_lw (ih v1 v2 v3 v4 (v5 + 1) μ hv1 hv2 hv3 hv4 g16 hf) (And.intro rfl (And.intro rfl (And.intro rfl (And.intro rfl (And.intro rfl (And.intro rfl trivial))))))
      · replace hf := if_f hf c15
        refine r_iconst C dX11_lays_256 ?_
        obtain ⟨rfl, rfl⟩ := of_ret hf
        exact r_zret C rfl (by decide) dX11_lays_257
set_option maxHeartbeats 4000000 in
set_option maxRecDepth 100000 in
theorem w_X11_lays_158 {p : Program} {l : Launch} {e : Env} {s : State} {m : MethodId} {args : Array Value} {below : List Frame} {meth : Method} {c : Code} {D : va_G} {cy : Nat → ClassId} {A : Nat → Prop} {ids : List Nat} {ad : Nat → Nat} {r : Int} {μ' : Mem} (C : Cx p s m args meth c D (tyl cy) A 6 cX11_lays yX11_lays.cls (some .boolean)) (hCF : CF ad A s) : ∀ n : Nat, ∀ (v1 v2 v3 v4 v5 : Int) (μ : Mem), inR v1 → inR v2 → inR v3 → inR v4 → inR v5 → f_X11_lays_158   n v1 v2 v3 v4 v5 μ = some (r, μ') → V p l e (rmk 4) s m args below meth c 0 0 (MQ below (aI D (tyl cy) (lay cy) ids ad A r μ') args s 0 0 A) D A (lay cy) ids ad 6 μ 158 [some (rf 300), some (nu v1), some (nu v2), some (nu v3), some (nu v4), some (nu v5)] [] := by
  intro n
  induction n with
  | zero =>
    intro v1 v2 v3 v4 v5 μ hv1 hv2 hv3 hv4 hv5 hf
    cases hf
  | succ n ih =>
    intro v1 v2 v3 v4 v5 μ hv1 hv2 hv3 hv4 hv5 hf
    rw [f_X11_lays_158_e] at hf
    refine V_in (fun ho0 _ => ?_)
    refine r_iload C rfl dX11_lays_158 ?_
    refine r_iload_n C 1 rfl rfl dX11_lays_160 ?_
    refine r_icmp_ge C 221 hv5 hv1 rfl dX11_lays_161 (fun c1 => ?_) (fun c1 => ?_)
    · replace hf := if_t hf c1
      refine r_iload_n C 1 rfl rfl dX11_lays_221 ?_
      refine r_iconst C dX11_lays_222 ?_
      refine r_iadd C dX11_lays_223 ?_
      refine r_istore C (lw := [some (rf 300), some (nu v1), some (nu v2), some (nu v3), some (nu v4), some (nu (v1 + 1))]) rfl (by decide) dX11_lays_224 ?_
      obtain ⟨g2, hf⟩ := of_g hf
      exact V_lw (w_X11_lays_226 C hCF 64 v1 v2 v3 v4 (v1 + 1) μ hv1 hv2 hv3 hv4 g2 hf) (And.intro rfl (And.intro rfl (And.intro rfl (And.intro rfl (And.intro rfl (And.intro rfl trivial))))))
    · replace hf := if_f hf c1
      refine r_aload_n C 0 rfl rfl dX11_lays_164 ?_
      refine r_getf C 300 (by decide) rfl (fx_m rfl) (ly_300 cy _ _) rfl in_X11 28 (by decide) tw_923 (v := rf 316) rfl dX11_lays_165 ?_
      refine r_aload_n C 0 rfl rfl dX11_lays_168 ?_
      refine r_getf C 300 (by decide) rfl (fx_m rfl) (ly_300 cy _ _) rfl in_X11 35 (by decide) tw_930 (v := rf 321) rfl dX11_lays_169 ?_
      refine r_iload C rfl dX11_lays_172 ?_
      obtain ⟨g3, hf⟩ := of_g hf
      refine r_iald C 321 (by decide) rfl (fx_m rfl) 0 (cA := cy 0) (n := 5) (ly_321 cy _ _) rfl g3 (by decide) dX11_lays_174 ?_
      obtain ⟨g4, hf⟩ := of_g hf
      refine r_iald C 316 (by decide) rfl (fx_m rfl) 0 (cA := cy 0) (n := 30) (ly_316 cy _ _) rfl g4 (by decide) dX11_lays_175 ?_
      refine r_aload_n C 0 rfl rfl dX11_lays_176 ?_
      refine r_getf C 300 (by decide) rfl (fx_m rfl) (ly_300 cy _ _) rfl in_X11 28 (by decide) tw_923 (v := rf 316) rfl dX11_lays_177 ?_
      refine r_iload_n C 2 rfl rfl dX11_lays_180 ?_
      obtain ⟨g5, hf⟩ := of_g hf
      refine r_iald C 316 (by decide) rfl (fx_m rfl) 0 (cA := cy 0) (n := 30) (ly_316 cy _ _) rfl g5 (by decide) dX11_lays_181 ?_
      refine r_icmp_ge C 211 (ho0 _ _) (ho0 _ _) rfl dX11_lays_182 (fun c6 => ?_) (fun c6 => ?_)
      · replace hf := if_t hf c6
        refine r_iload C rfl dX11_lays_211 ?_
        refine r_istore C (lw := [some (rf 300), some (nu v1), some (nu v2), some (nu v3), some (nu v4), some (nu v5)]) rfl (by decide) dX11_lays_213 ?_
        refine r_iinc C rfl (lw := [some (rf 300), some (nu v1), some (nu v2), some (nu v3), some (nu v4), some (nu (v5 + 1))]) rfl (by decide) dX11_lays_215 ?_
        refine r_goto C 158 rfl dX11_lays_218 ?_
        obtain ⟨g7, hf⟩ := of_g hf
        exact V_lw (ih v1 v2 v3 v4 (v5 + 1) μ hv1 hv2 hv3 hv4 g7 hf) (And.intro rfl (And.intro rfl (And.intro rfl (And.intro rfl (And.intro rfl (And.intro rfl trivial))))))
      · replace hf := if_f hf c6
        refine r_aload_n C 0 rfl rfl dX11_lays_185 ?_
        refine r_getf C 300 (by decide) rfl (fx_m rfl) (ly_300 cy _ _) rfl in_X11 38 (by decide) tw_933 (v := rf 324) rfl dX11_lays_186 ?_
        refine r_iload C rfl dX11_lays_189 ?_
        refine r_iald C 324 (by decide) rfl (fx_m rfl) 0 (cA := cy 0) (n := 5) (ly_324 cy _ _) rfl g3 (by decide) dX11_lays_191 ?_
        refine r_iconst C dX11_lays_192 ?_
        refine r_iadd C dX11_lays_193 ?_
        refine r_iload C rfl dX11_lays_194 ?_
        obtain ⟨g8, hf⟩ := of_g hf
        refine r_icmp_le C 211 g8 hv4 rfl dX11_lays_196 (fun c9 => ?_) (fun c9 => ?_)
        · replace hf := if_t hf c9
          refine r_iload C rfl dX11_lays_211 ?_
          refine r_istore C (lw := [some (rf 300), some (nu v1), some (nu v2), some (nu v3), some (nu v4), some (nu v5)]) rfl (by decide) dX11_lays_213 ?_
          refine r_iinc C rfl (lw := [some (rf 300), some (nu v1), some (nu v2), some (nu v3), some (nu v4), some (nu (v5 + 1))]) rfl (by decide) dX11_lays_215 ?_
          refine r_goto C 158 rfl dX11_lays_218 ?_
          obtain ⟨g10, hf⟩ := of_g hf
          exact V_lw (ih v1 v2 v3 v4 (v5 + 1) μ hv1 hv2 hv3 hv4 g10 hf) (And.intro rfl (And.intro rfl (And.intro rfl (And.intro rfl (And.intro rfl (And.intro rfl trivial))))))
        · replace hf := if_f hf c9
          refine r_aload_n C 0 rfl rfl dX11_lays_199 ?_
          refine r_getf C 300 (by decide) rfl (fx_m rfl) (ly_300 cy _ _) rfl in_X11 38 (by decide) tw_933 (v := rf 324) rfl dX11_lays_200 ?_
          refine r_iload C rfl dX11_lays_203 ?_
          refine r_iald C 324 (by decide) rfl (fx_m rfl) 0 (cA := cy 0) (n := 5) (ly_324 cy _ _) rfl g3 (by decide) dX11_lays_205 ?_
          refine r_iconst C dX11_lays_206 ?_
          refine r_iadd C dX11_lays_207 ?_
          refine r_goto C 213 rfl dX11_lays_208 ?_
          refine r_istore C (lw := [some (rf 300), some (nu v1), some (nu v2), some (nu v3), some (nu ((μ 324 v5.toNat) + 1)), some (nu v5)]) rfl (by decide) dX11_lays_213 ?_
          refine r_iinc C rfl (lw := [some (rf 300), some (nu v1), some (nu v2), some (nu v3), some (nu ((μ 324 v5.toNat) + 1)), some (nu (v5 + 1))]) rfl (by decide) dX11_lays_215 ?_
          refine r_goto C 158 rfl dX11_lays_218 ?_
          obtain ⟨g11, hf⟩ := of_g hf
          exact V_lw (ih v1 v2 v3 ((μ 324 v5.toNat) + 1) (v5 + 1) μ hv1 hv2 hv3 g8 g11 hf) (And.intro rfl (And.intro rfl (And.intro rfl (And.intro rfl (And.intro rfl (And.intro rfl trivial))))))
set_option maxHeartbeats 4000000 in
set_option maxRecDepth 100000 in
theorem w_X11_lays_132 {p : Program} {l : Launch} {e : Env} {s : State} {m : MethodId} {args : Array Value} {below : List Frame} {meth : Method} {c : Code} {D : va_G} {cy : Nat → ClassId} {A : Nat → Prop} {ids : List Nat} {ad : Nat → Nat} {r : Int} {μ' : Mem} (C : Cx p s m args meth c D (tyl cy) A 6 cX11_lays yX11_lays.cls (some .boolean)) (hCF : CF ad A s) : ∀ (v1 v2 v3 v4 : Int) (μ : Mem), inR v1 → inR v2 → inR v3 → inR v4 → f_X11_lays_132   v1 v2 v3 v4 μ = some (r, μ') → V p l e (rmk 4) s m args below meth c 0 0 (MQ below (aI D (tyl cy) (lay cy) ids ad A r μ') args s 0 0 A) D A (lay cy) ids ad 6 μ 132 [some (rf 300), some (nu v1), some (nu v2), some (nu v3), some (nu v4), none] [] := by
  intro v1 v2 v3 v4 μ hv1 hv2 hv3 hv4 hf
  unfold f_X11_lays_132 at hf
  refine V_in (fun ho0 _ => ?_)
  refine r_aload_n C 0 rfl rfl dX11_lays_132 ?_
  refine r_getf C 300 (by decide) rfl (fx_m rfl) (ly_300 cy _ _) rfl in_X11 29 (by decide) tw_924 (v := rf 317) rfl dX11_lays_133 ?_
  refine r_iload_n C 2 rfl rfl dX11_lays_136 ?_
  obtain ⟨g1, hf⟩ := of_g hf
  refine r_iald C 317 (by decide) rfl (fx_m rfl) 0 (cA := cy 0) (n := 30) (ly_317 cy _ _) rfl g1 (by decide) dX11_lays_137 ?_
  refine r_iconst C dX11_lays_138 ?_
  refine r_icmp_gt C 155 (ho0 _ _) (inR_lit rfl) rfl dX11_lays_139 (fun c2 => ?_) (fun c2 => ?_)
  · replace hf := if_t hf c2
    refine r_iconst C dX11_lays_155 ?_
    refine r_istore C (lw := [some (rf 300), some (nu v1), some (nu v2), some (nu v3), some (nu v4), some (nu 0)]) rfl (by decide) dX11_lays_156 ?_
    exact V_lw (w_X11_lays_158 C hCF 64 v1 v2 v3 v4 0 μ hv1 hv2 hv3 hv4 (inR_lit rfl) hf) (And.intro rfl (And.intro rfl (And.intro rfl (And.intro rfl (And.intro rfl (And.intro rfl trivial))))))
  · replace hf := if_f hf c2
    refine r_iload C rfl dX11_lays_142 ?_
    refine r_aload_n C 0 rfl rfl dX11_lays_144 ?_
    refine r_getf C 300 (by decide) rfl (fx_m rfl) (ly_300 cy _ _) rfl in_X11 28 (by decide) tw_923 (v := rf 316) rfl dX11_lays_145 ?_
    refine r_iload_n C 2 rfl rfl dX11_lays_148 ?_
    refine r_iald C 316 (by decide) rfl (fx_m rfl) 0 (cA := cy 0) (n := 30) (ly_316 cy _ _) rfl g1 (by decide) dX11_lays_149 ?_
    refine r_iconst C dX11_lays_150 ?_
    refine r_iadd C dX11_lays_151 ?_
    refine r_iadd C dX11_lays_152 ?_
    refine r_istore C (lw := [some (rf 300), some (nu v1), some (nu v2), some (nu v3), some (nu (v4 + ((μ 316 v2.toNat) + 1))), none]) rfl (by decide) dX11_lays_153 ?_
    refine r_iconst C dX11_lays_155 ?_
    refine r_istore C (lw := [some (rf 300), some (nu v1), some (nu v2), some (nu v3), some (nu (v4 + ((μ 316 v2.toNat) + 1))), some (nu 0)]) rfl (by decide) dX11_lays_156 ?_
    obtain ⟨g3, hf⟩ := of_g hf
    exact V_lw (w_X11_lays_158 C hCF 64 v1 v2 v3 (v4 + ((μ 316 v2.toNat) + 1)) 0 μ hv1 hv2 hv3 g3 (inR_lit rfl) hf) (And.intro rfl (And.intro rfl (And.intro rfl (And.intro rfl (And.intro rfl (And.intro rfl trivial))))))
set_option maxHeartbeats 4000000 in
set_option maxRecDepth 100000 in
theorem w_X11_lays_94 {p : Program} {l : Launch} {e : Env} {s : State} {m : MethodId} {args : Array Value} {below : List Frame} {meth : Method} {c : Code} {D : va_G} {cy : Nat → ClassId} {A : Nat → Prop} {ids : List Nat} {ad : Nat → Nat} {r : Int} {μ' : Mem} (C : Cx p s m args meth c D (tyl cy) A 6 cX11_lays yX11_lays.cls (some .boolean)) (hCF : CF ad A s) : ∀ (v1 v2 v3 v4 : Int) (μ : Mem), inR v1 → inR v2 → inR v3 → inR v4 → f_X11_lays_94   v1 v2 v3 v4 μ = some (r, μ') → V p l e (rmk 4) s m args below meth c 0 0 (MQ below (aI D (tyl cy) (lay cy) ids ad A r μ') args s 0 0 A) D A (lay cy) ids ad 6 μ 94 [some (rf 300), some (nu v1), some (nu v2), some (nu v3), some (nu v4), none] [] := by
  intro v1 v2 v3 v4 μ hv1 hv2 hv3 hv4 hf
  unfold f_X11_lays_94 at hf
  refine V_in (fun ho0 _ => ?_)
  refine r_aload_n C 0 rfl rfl dX11_lays_94 ?_
  refine r_getf C 300 (by decide) rfl (fx_m rfl) (ly_300 cy _ _) rfl in_X11 29 (by decide) tw_924 (v := rf 317) rfl dX11_lays_95 ?_
  refine r_iload_n C 2 rfl rfl dX11_lays_98 ?_
  obtain ⟨g1, hf⟩ := of_g hf
  refine r_iald C 317 (by decide) rfl (fx_m rfl) 0 (cA := cy 0) (n := 30) (ly_317 cy _ _) rfl g1 (by decide) dX11_lays_99 ?_
  refine r_iconst C dX11_lays_100 ?_
  refine r_icmp_gt C 132 (ho0 _ _) (inR_lit rfl) rfl dX11_lays_101 (fun c2 => ?_) (fun c2 => ?_)
  · replace hf := if_t hf c2
    exact V_lw (w_X11_lays_132 C hCF v1 v2 v3 v4 μ hv1 hv2 hv3 hv4 hf) (And.intro rfl (And.intro rfl (And.intro rfl (And.intro rfl (And.intro rfl trivial)))))
  · replace hf := if_f hf c2
    refine r_aload_n C 0 rfl rfl dX11_lays_104 ?_
    refine r_iload C rfl dX11_lays_105 ?_
    obtain ⟨r3, μ4, hc5, hf⟩ := of_bd hf
    refine r_callVI C hCF (As := [nu v4]) 300 (by decide) rfl (fx_m rfl) (ly_300 cy _ _) rfl (c_X11_raftFrom hv4 hc5) rfl (by decide) (by decide) ⟨Nat.le_refl 0, Nat.le_refl 0⟩ tw_1212 tw_1215 tw_10 tw_1214 ts_58 1 (by decide) rfl (Nat.le_of_ble_eq_true rfl) dX11_lays_107 (fun hr7 => ?_)
    refine V_in (fun ho6 _ => ?_)
    refine r_istore C (lw := [some (rf 300), some (nu v1), some (nu v2), some (nu v3), some (nu r3), none]) rfl (by decide) dX11_lays_110 ?_
    refine r_iload C rfl dX11_lays_112 ?_
    refine r_iconst C dX11_lays_114 ?_
    refine r_icmp_ne C 120 hr7 (inR_lit rfl) rfl dX11_lays_115 (fun c8 => ?_) (fun c8 => ?_)
    · replace hf := if_f hf c8
      refine r_iload C rfl dX11_lays_120 ?_
      refine r_aload_n C 0 rfl rfl dX11_lays_122 ?_
      refine r_getf C 300 (by decide) rfl (fx_m rfl) (ly_300 cy _ _) rfl in_X11 23 (by decide) tw_918 (v := rf 312) rfl dX11_lays_123 ?_
      refine r_bipush C dX11_lays_126 rfl ?_
      refine r_iald C 312 (by decide) rfl (fx_m rfl) 0 (cA := cy 0) (n := 9) (ly_312 cy _ _) rfl ⟨by decide, by decide⟩ (by decide) dX11_lays_128 ?_
      refine r_iadd C dX11_lays_129 ?_
      refine r_istore C (lw := [some (rf 300), some (nu v1), some (nu v2), some (nu v3), some (nu (r3 + (μ4 312 6))), none]) rfl (by decide) dX11_lays_130 ?_
      obtain ⟨g9, hf⟩ := of_g hf
      exact V_lw (w_X11_lays_132 C hCF v1 v2 v3 (r3 + (μ4 312 6)) μ4 hv1 hv2 hv3 g9 hf) (And.intro rfl (And.intro rfl (And.intro rfl (And.intro rfl (And.intro rfl trivial)))))
    · replace hf := if_t hf c8
      refine r_iconst C dX11_lays_118 ?_
      obtain ⟨rfl, rfl⟩ := of_ret hf
      exact r_zret C rfl (by decide) dX11_lays_119
set_option maxHeartbeats 4000000 in
set_option maxRecDepth 100000 in
theorem w_X11_lays_73 {p : Program} {l : Launch} {e : Env} {s : State} {m : MethodId} {args : Array Value} {below : List Frame} {meth : Method} {c : Code} {D : va_G} {cy : Nat → ClassId} {A : Nat → Prop} {ids : List Nat} {ad : Nat → Nat} {r : Int} {μ' : Mem} (C : Cx p s m args meth c D (tyl cy) A 6 cX11_lays yX11_lays.cls (some .boolean)) (hCF : CF ad A s) : ∀ (v1 v2 v3 v4 : Int) (μ : Mem), inR v1 → inR v2 → inR v3 → inR v4 → f_X11_lays_73   v1 v2 v3 v4 μ = some (r, μ') → V p l e (rmk 4) s m args below meth c 0 0 (MQ below (aI D (tyl cy) (lay cy) ids ad A r μ') args s 0 0 A) D A (lay cy) ids ad 6 μ 73 [some (rf 300), some (nu v1), some (nu v2), some (nu v3), some (nu v4), none] [] := by
  intro v1 v2 v3 v4 μ hv1 hv2 hv3 hv4 hf
  unfold f_X11_lays_73 at hf
  refine V_in (fun ho0 _ => ?_)
  refine r_aload_n C 0 rfl rfl dX11_lays_73 ?_
  refine r_getf C 300 (by decide) rfl (fx_m rfl) (ly_300 cy _ _) rfl in_X11 29 (by decide) tw_924 (v := rf 317) rfl dX11_lays_74 ?_
  refine r_iload_n C 2 rfl rfl dX11_lays_77 ?_
  obtain ⟨g1, hf⟩ := of_g hf
  refine r_iald C 317 (by decide) rfl (fx_m rfl) 0 (cA := cy 0) (n := 30) (ly_317 cy _ _) rfl g1 (by decide) dX11_lays_78 ?_
  refine r_iconst C dX11_lays_79 ?_
  refine r_icmp_gt C 94 (ho0 _ _) (inR_lit rfl) rfl dX11_lays_80 (fun c2 => ?_) (fun c2 => ?_)
  · replace hf := if_t hf c2
    exact V_lw (w_X11_lays_94 C hCF v1 v2 v3 v4 μ hv1 hv2 hv3 hv4 hf) (And.intro rfl (And.intro rfl (And.intro rfl (And.intro rfl (And.intro rfl trivial)))))
  · replace hf := if_f hf c2
    refine r_iload C rfl dX11_lays_83 ?_
    refine r_aload_n C 0 rfl rfl dX11_lays_85 ?_
    refine r_getf C 300 (by decide) rfl (fx_m rfl) (ly_300 cy _ _) rfl in_X11 23 (by decide) tw_918 (v := rf 312) rfl dX11_lays_86 ?_
    refine r_iconst C dX11_lays_89 ?_
    refine r_iald C 312 (by decide) rfl (fx_m rfl) 0 (cA := cy 0) (n := 9) (ly_312 cy _ _) rfl ⟨by decide, by decide⟩ (by decide) dX11_lays_90 ?_
    refine r_iadd C dX11_lays_91 ?_
    refine r_istore C (lw := [some (rf 300), some (nu v1), some (nu v2), some (nu v3), some (nu (v4 + (μ 312 5))), none]) rfl (by decide) dX11_lays_92 ?_
    obtain ⟨g3, hf⟩ := of_g hf
    exact V_lw (w_X11_lays_94 C hCF v1 v2 v3 (v4 + (μ 312 5)) μ hv1 hv2 hv3 g3 hf) (And.intro rfl (And.intro rfl (And.intro rfl (And.intro rfl (And.intro rfl trivial)))))
set_option maxHeartbeats 4000000 in
set_option maxRecDepth 100000 in
theorem c_X11_lays {l : Launch} {D : va_G} {cy : Nat → ClassId} {ids : List Nat} {ad : Nat → Nat} {μ μ' : Mem} {a1 r : Int} (h1 : inR a1) (hf : f_X11_lays μ a1 = some (r, μ')) : KK aI l D (tyl cy) (lay cy) ids ad 4 yX11_lays cX11_lays 6 (some .boolean) [rf 300, nu a1] μ r μ' := by
  refine KK.of (by decide +kernel) (Nat.le_of_ble_eq_true rfl) ?_
  intro p e s m args below meth c A C hCF
  unfold f_X11_lays at hf
  refine V_in (fun ho0 _ => ?_)
  refine r_aload_n C 0 rfl rfl dX11_lays_0 ?_
  refine r_getf C 300 (by decide) rfl (fx_m rfl) (ly_300 cy _ _) rfl in_X11 35 (by decide) tw_930 (v := rf 321) rfl dX11_lays_1 ?_
  refine r_iload_n C 1 rfl rfl dX11_lays_4 ?_
  obtain ⟨g1, hf⟩ := of_g hf
  refine r_iald C 321 (by decide) rfl (fx_m rfl) 0 (cA := cy 0) (n := 5) (ly_321 cy _ _) rfl g1 (by decide) dX11_lays_5 ?_
  refine r_istore_n C 2 (lw := [some (rf 300), some (nu a1), some (nu (μ 321 a1.toNat)), none, none, none]) rfl rfl (by decide) dX11_lays_6 ?_
  refine r_aload_n C 0 rfl rfl dX11_lays_7 ?_
  refine r_getf C 300 (by decide) rfl (fx_m rfl) (ly_300 cy _ _) rfl in_X11 36 (by decide) tw_931 (v := rf 322) rfl dX11_lays_8 ?_
  refine r_iload_n C 1 rfl rfl dX11_lays_11 ?_
  refine r_iald C 322 (by decide) rfl (fx_m rfl) 0 (cA := cy 0) (n := 5) (ly_322 cy _ _) rfl g1 (by decide) dX11_lays_12 ?_
  refine r_istore_n C 3 (lw := [some (rf 300), some (nu a1), some (nu (μ 321 a1.toNat)), some (nu (μ 322 a1.toNat)), none, none]) rfl rfl (by decide) dX11_lays_13 ?_
  refine r_aload_n C 0 rfl rfl dX11_lays_14 ?_
  refine r_getf C 300 (by decide) rfl (fx_m rfl) (ly_300 cy _ _) rfl in_X11 43 (by decide) tw_938 (v := rf 329) rfl dX11_lays_15 ?_
  refine r_iload_n C 3 rfl rfl dX11_lays_18 ?_
  obtain ⟨g2, hf⟩ := of_g hf
  refine r_iald C 329 (by decide) rfl (fx_m rfl) 0 (cA := cy 0) (n := 6) (ly_329 cy _ _) rfl g2 (by decide) dX11_lays_19 ?_
  refine r_istore C (lw := [some (rf 300), some (nu a1), some (nu (μ 321 a1.toNat)), some (nu (μ 322 a1.toNat)), some (nu (μ 329 (μ 322 a1.toNat).toNat)), none]) rfl (by decide) dX11_lays_20 ?_
  refine r_aload_n C 0 rfl rfl dX11_lays_22 ?_
  refine r_getf C 300 (by decide) rfl (fx_m rfl) (ly_300 cy _ _) rfl in_X11 37 (by decide) tw_932 (v := rf 323) rfl dX11_lays_23 ?_
  refine r_iload_n C 1 rfl rfl dX11_lays_26 ?_
  refine r_iload C rfl dX11_lays_27 ?_
  refine r_iast C 323 (by decide) rfl (fx_m rfl) (by decide) 0 (cA := cy 0) (n := 5) (fun f => ly_323 cy _ f) rfl g1 (by decide) (ho0 _ _) dX11_lays_29 (fun μ3 hμ5 => ?_)
  replace hf := of_lm hf hμ5
  refine V_in (fun ho4 _ => ?_)
  refine r_aload_n C 0 rfl rfl dX11_lays_30 ?_
  refine r_getf C 300 (by decide) rfl (fx_m rfl) (ly_300 cy _ _) rfl in_X11 29 (by decide) tw_924 (v := rf 317) rfl dX11_lays_31 ?_
  refine r_iload_n C 2 rfl rfl dX11_lays_34 ?_
  obtain ⟨g6, hf⟩ := of_g hf
  refine r_iald C 317 (by decide) rfl (fx_m rfl) 0 (cA := cy 0) (n := 30) (ly_317 cy _ _) rfl g6 (by decide) dX11_lays_35 ?_
  refine r_if_ne C 73 (ho4 _ _) rfl dX11_lays_36 (fun c7 => ?_) (fun c7 => ?_)
  · replace hf := if_f hf c7
    exact V_lw (w_X11_lays_73 C hCF a1 (μ 321 a1.toNat) (μ 322 a1.toNat) (μ 329 (μ 322 a1.toNat).toNat) μ3 h1 (ho0 _ _) (ho0 _ _) (ho0 _ _) hf) (And.intro rfl (And.intro rfl (And.intro rfl (And.intro rfl (And.intro rfl trivial)))))
  · replace hf := if_t hf c7
    refine r_iload C rfl dX11_lays_39 ?_
    refine r_aload_n C 0 rfl rfl dX11_lays_41 ?_
    refine r_getf C 300 (by decide) rfl (fx_m rfl) (ly_300 cy _ _) rfl in_X11 27 (by decide) tw_922 (v := rf 315) rfl dX11_lays_42 ?_
    refine r_iload_n C 2 rfl rfl dX11_lays_45 ?_
    refine r_iald C 315 (by decide) rfl (fx_m rfl) 0 (cA := cy 0) (n := 30) (ly_315 cy _ _) rfl g6 (by decide) dX11_lays_46 ?_
    refine r_aload_n C 0 rfl rfl dX11_lays_47 ?_
    refine r_getf C 300 (by decide) rfl (fx_m rfl) (ly_300 cy _ _) rfl in_X11 23 (by decide) tw_918 (v := rf 312) rfl dX11_lays_48 ?_
    refine r_iconst C dX11_lays_51 ?_
    refine r_iald C 312 (by decide) rfl (fx_m rfl) 0 (cA := cy 0) (n := 9) (ly_312 cy _ _) rfl ⟨by decide, by decide⟩ (by decide) dX11_lays_52 ?_
    refine r_imul C dX11_lays_53 ?_
    refine r_aload_n C 0 rfl rfl dX11_lays_54 ?_
    refine r_getf C 300 (by decide) rfl (fx_m rfl) (ly_300 cy _ _) rfl in_X11 5 (by decide) tw_900 (v := rf 301) rfl dX11_lays_55 ?_
    refine r_iload_n C 3 rfl rfl dX11_lays_58 ?_
    refine r_iald C 301 (by decide) rfl (fx_m rfl) 0 (cA := cy 0) (n := 6) (ly_301 cy _ _) rfl g2 (by decide) dX11_lays_59 ?_
    refine r_iadd C dX11_lays_60 ?_
    refine r_iconst C dX11_lays_61 ?_
    refine r_isub C dX11_lays_62 ?_
    refine r_aload_n C 0 rfl rfl dX11_lays_63 ?_
    refine r_getf C 300 (by decide) rfl (fx_m rfl) (ly_300 cy _ _) rfl in_X11 5 (by decide) tw_900 (v := rf 301) rfl dX11_lays_64 ?_
    refine r_iload_n C 3 rfl rfl dX11_lays_67 ?_
    refine r_iald C 301 (by decide) rfl (fx_m rfl) 0 (cA := cy 0) (n := 6) (ly_301 cy _ _) rfl g2 (by decide) dX11_lays_68 ?_
    obtain ⟨g8, hf⟩ := of_g hf
    refine r_idiv C (ho4 _ _) g8 dX11_lays_69 ?_
    refine r_iadd C dX11_lays_70 ?_
    refine r_istore C (lw := [some (rf 300), some (nu a1), some (nu (μ 321 a1.toNat)), some (nu (μ 322 a1.toNat)), some (nu ((μ 329 (μ 322 a1.toNat).toNat) + (zdiv ((((μ3 315 (μ 321 a1.toNat).toNat) * (μ3 312 4)) + (μ3 301 (μ 322 a1.toNat).toNat)) - 1) (μ3 301 (μ 322 a1.toNat).toNat)))), none]) rfl (by decide) dX11_lays_71 ?_
    obtain ⟨g9, hf⟩ := of_g hf
    exact V_lw (w_X11_lays_73 C hCF a1 (μ 321 a1.toNat) (μ 322 a1.toNat) ((μ 329 (μ 322 a1.toNat).toNat) + (zdiv ((((μ3 315 (μ 321 a1.toNat).toNat) * (μ3 312 4)) + (μ3 301 (μ 322 a1.toNat).toNat)) - 1) (μ3 301 (μ 322 a1.toNat).toNat))) μ3 h1 (ho0 _ _) (ho0 _ _) g9 hf) (And.intro rfl (And.intro rfl (And.intro rfl (And.intro rfl (And.intro rfl trivial)))))
set_option maxHeartbeats 4000000 in
set_option maxRecDepth 100000 in
theorem w_X11_goesOnB_7 {p : Program} {l : Launch} {e : Env} {s : State} {m : MethodId} {args : Array Value} {below : List Frame} {meth : Method} {c : Code} {D : va_G} {cy : Nat → ClassId} {A : Nat → Prop} {ids : List Nat} {ad : Nat → Nat} {r : Int} {μ' : Mem} (C : Cx p s m args meth c D (tyl cy) A 4 cX11_goesOn yX11_goesOn.cls (some .boolean)) (hCF : CF ad A s) : ∀ n : Nat, ∀ (v2 v3 : Int) (μ : Mem), inR v2 → inR v3 → f_X11_goesOnB_7   n v2 v3 μ = some (r, μ') → V p l e (rmk 2) s m args below meth c 0 0 (MQ below (aI D (tyl cy) (lay cy) ids ad A r μ') args s 0 0 A) D A (lay cy) ids ad 4 μ 7 [none, some (rf 322), some (nu v2), some (nu v3)] [] := by
  intro n
  induction n with
  | zero =>
    intro v2 v3 μ hv2 hv3 hf
    cases hf
  | succ n ih =>
    intro v2 v3 μ hv2 hv3 hf
    rw [f_X11_goesOnB_7_e] at hf
    refine V_in (fun ho0 _ => ?_)
    refine r_iload_n C 3 rfl rfl dX11_goesOn_7 ?_
    refine r_if_lt C 37 hv3 rfl dX11_goesOn_8 (fun c1 => ?_) (fun c1 => ?_)
    · replace hf := if_t hf c1
      refine r_iconst C dX11_goesOn_37 ?_
      obtain ⟨rfl, rfl⟩ := of_ret hf
      exact r_zret C rfl (by decide) dX11_goesOn_38
    · replace hf := if_f hf c1
      refine r_aload_n C 1 rfl rfl dX11_goesOn_11 ?_
      refine r_iload_n C 3 rfl rfl dX11_goesOn_12 ?_
      refine r_dup2 C dX11_goesOn_13 ?_
      obtain ⟨g2, hf⟩ := of_g hf
      refine r_iald C 322 (by decide) rfl (fx_m rfl) 0 (cA := cy 0) (n := 5) (ly_322 cy _ _) rfl g2 (by decide) dX11_goesOn_14 ?_
      refine r_iconst C dX11_goesOn_15 ?_
      refine r_iadd C dX11_goesOn_16 ?_
      obtain ⟨g3, hf⟩ := of_g hf
      refine r_iast C 322 (by decide) rfl (fx_m rfl) (by decide) 0 (cA := cy 0) (n := 5) (fun f => ly_322 cy _ f) rfl g2 (by decide) g3 dX11_goesOn_17 (fun μ4 hμ6 => ?_)
      replace hf := of_lm hf hμ6
      refine V_in (fun ho5 _ => ?_)
      refine r_aload_n C 1 rfl rfl dX11_goesOn_18 ?_
      refine r_iload_n C 3 rfl rfl dX11_goesOn_19 ?_
      refine r_iald C 322 (by decide) rfl (fx_m rfl) 0 (cA := cy 0) (n := 5) (ly_322 cy _ _) rfl g2 (by decide) dX11_goesOn_20 ?_
      refine r_iload_n C 2 rfl rfl dX11_goesOn_21 ?_
      refine r_icmp_ge C 27 (ho5 _ _) hv2 rfl dX11_goesOn_22 (fun c7 => ?_) (fun c7 => ?_)
      · replace hf := if_t hf c7
        refine r_aload_n C 1 rfl rfl dX11_goesOn_27 ?_
        refine r_iload_n C 3 rfl rfl dX11_goesOn_28 ?_
        refine r_iconst C dX11_goesOn_29 ?_
        refine r_iast C 322 (by decide) rfl (fx_m rfl) (by decide) 0 (cA := cy 0) (n := 5) (fun f => ly_322 cy _ f) rfl g2 (by decide) (inR_lit rfl) dX11_goesOn_30 (fun μ8 hμ10 => ?_)
        replace hf := of_lm hf hμ10
        refine V_in (fun ho9 _ => ?_)
        refine r_iinc C rfl (lw := [none, some (rf 322), some (nu v2), some (nu (v3 + (-1)))]) rfl (by decide) dX11_goesOn_31 ?_
        refine r_goto C 7 rfl dX11_goesOn_34 ?_
        obtain ⟨g11, hf⟩ := of_g hf
        exact V_lw (ih v2 (v3 + (-1)) μ8 hv2 g11 hf) (And.intro rfl (And.intro rfl (And.intro rfl trivial)))
      · replace hf := if_f hf c7
        refine r_iconst C dX11_goesOn_25 ?_
        obtain ⟨rfl, rfl⟩ := of_ret hf
        exact r_zret C rfl (by decide) dX11_goesOn_26
set_option maxHeartbeats 4000000 in
set_option maxRecDepth 100000 in
theorem c_X11_goesOnB {l : Launch} {D : va_G} {cy : Nat → ClassId} {ids : List Nat} {ad : Nat → Nat} {μ μ' : Mem} {a2 r : Int} (h2 : inR a2) (hf : f_X11_goesOnB μ a2 = some (r, μ')) : KK aI l D (tyl cy) (lay cy) ids ad 2 yX11_goesOn cX11_goesOn 4 (some .boolean) [rf 300, rf 322, nu a2] μ r μ' := by
  refine KK.of (by decide +kernel) (Nat.le_of_ble_eq_true rfl) ?_
  intro p e s m args below meth c A C hCF
  unfold f_X11_goesOnB at hf
  refine V_in (fun ho0 _ => ?_)
  refine r_aload_n C 0 rfl rfl dX11_goesOn_0 ?_
  refine r_getf C 300 (by decide) rfl (fx_m rfl) (ly_300 cy _ _) rfl in_X11 32 (by decide) tw_927 (v := nu (μ 300 32)) rfl dX11_goesOn_1 ?_
  refine r_iconst C dX11_goesOn_4 ?_
  refine r_isub C dX11_goesOn_5 ?_
  refine r_istore_n C 3 (lw := [some (rf 300), some (rf 322), some (nu a2), some (nu ((μ 300 32) - 1))]) rfl rfl (by decide) dX11_goesOn_6 ?_
  obtain ⟨g1, hf⟩ := of_g hf
  exact V_lw (w_X11_goesOnB_7 C hCF 64 a2 ((μ 300 32) - 1) μ h2 g1 hf) (And.intro rfl (And.intro rfl (And.intro rfl trivial)))
set_option maxHeartbeats 4000000 in
set_option maxRecDepth 100000 in
theorem w_X11_goesOnP_7 {p : Program} {l : Launch} {e : Env} {s : State} {m : MethodId} {args : Array Value} {below : List Frame} {meth : Method} {c : Code} {D : va_G} {cy : Nat → ClassId} {A : Nat → Prop} {ids : List Nat} {ad : Nat → Nat} {r : Int} {μ' : Mem} (C : Cx p s m args meth c D (tyl cy) A 4 cX11_goesOn yX11_goesOn.cls (some .boolean)) (hCF : CF ad A s) (h399 : 399 ∈ ids) : ∀ n : Nat, ∀ (v2 v3 : Int) (μ : Mem), inR v2 → inR v3 → f_X11_goesOnP_7   n v2 v3 μ = some (r, μ') → V p l e (rmk 2) s m args below meth c 0 0 (MQ below (aI D (tyl cy) (lay cy) ids ad A r μ') args s 0 0 A) D A (lay cy) ids ad 4 μ 7 [none, some (rf 399), some (nu v2), some (nu v3)] [] := by
  intro n
  induction n with
  | zero =>
    intro v2 v3 μ hv2 hv3 hf
    cases hf
  | succ n ih =>
    intro v2 v3 μ hv2 hv3 hf
    rw [f_X11_goesOnP_7_e] at hf
    refine V_in (fun ho0 _ => ?_)
    refine r_iload_n C 3 rfl rfl dX11_goesOn_7 ?_
    refine r_if_lt C 37 hv3 rfl dX11_goesOn_8 (fun c1 => ?_) (fun c1 => ?_)
    · replace hf := if_t hf c1
      refine r_iconst C dX11_goesOn_37 ?_
      obtain ⟨rfl, rfl⟩ := of_ret hf
      exact r_zret C rfl (by decide) dX11_goesOn_38
    · replace hf := if_f hf c1
      refine r_aload_n C 1 rfl rfl dX11_goesOn_11 ?_
      refine r_iload_n C 3 rfl rfl dX11_goesOn_12 ?_
      refine r_dup2 C dX11_goesOn_13 ?_
      obtain ⟨g2, hf⟩ := of_g hf
      refine r_iald C 399 (by decide) rfl (fun _ => h399) 0 (cA := cy 0) (n := 5) (ly_399 cy _ _) rfl g2 (by decide) dX11_goesOn_14 ?_
      refine r_iconst C dX11_goesOn_15 ?_
      refine r_iadd C dX11_goesOn_16 ?_
      obtain ⟨g3, hf⟩ := of_g hf
      refine r_iast C 399 (by decide) rfl (fun _ => h399) (by decide) 0 (cA := cy 0) (n := 5) (fun f => ly_399 cy _ f) rfl g2 (by decide) g3 dX11_goesOn_17 (fun μ4 hμ6 => ?_)
      replace hf := of_lm hf hμ6
      refine V_in (fun ho5 _ => ?_)
      refine r_aload_n C 1 rfl rfl dX11_goesOn_18 ?_
      refine r_iload_n C 3 rfl rfl dX11_goesOn_19 ?_
      refine r_iald C 399 (by decide) rfl (fun _ => h399) 0 (cA := cy 0) (n := 5) (ly_399 cy _ _) rfl g2 (by decide) dX11_goesOn_20 ?_
      refine r_iload_n C 2 rfl rfl dX11_goesOn_21 ?_
      refine r_icmp_ge C 27 (ho5 _ _) hv2 rfl dX11_goesOn_22 (fun c7 => ?_) (fun c7 => ?_)
      · replace hf := if_t hf c7
        refine r_aload_n C 1 rfl rfl dX11_goesOn_27 ?_
        refine r_iload_n C 3 rfl rfl dX11_goesOn_28 ?_
        refine r_iconst C dX11_goesOn_29 ?_
        refine r_iast C 399 (by decide) rfl (fun _ => h399) (by decide) 0 (cA := cy 0) (n := 5) (fun f => ly_399 cy _ f) rfl g2 (by decide) (inR_lit rfl) dX11_goesOn_30 (fun μ8 hμ10 => ?_)
        replace hf := of_lm hf hμ10
        refine V_in (fun ho9 _ => ?_)
        refine r_iinc C rfl (lw := [none, some (rf 399), some (nu v2), some (nu (v3 + (-1)))]) rfl (by decide) dX11_goesOn_31 ?_
        refine r_goto C 7 rfl dX11_goesOn_34 ?_
        obtain ⟨g11, hf⟩ := of_g hf
        exact V_lw (ih v2 (v3 + (-1)) μ8 hv2 g11 hf) (And.intro rfl (And.intro rfl (And.intro rfl trivial)))
      · replace hf := if_f hf c7
        refine r_iconst C dX11_goesOn_25 ?_
        obtain ⟨rfl, rfl⟩ := of_ret hf
        exact r_zret C rfl (by decide) dX11_goesOn_26
set_option maxHeartbeats 4000000 in
set_option maxRecDepth 100000 in
theorem c_X11_goesOnP {l : Launch} {D : va_G} {cy : Nat → ClassId} {ids : List Nat} {ad : Nat → Nat} {μ μ' : Mem} {a2 r : Int} (h399 : 399 ∈ ids) (h2 : inR a2) (hf : f_X11_goesOnP μ a2 = some (r, μ')) : KK aI l D (tyl cy) (lay cy) ids ad 2 yX11_goesOn cX11_goesOn 4 (some .boolean) [rf 300, rf 399, nu a2] μ r μ' := by
  refine KK.of (by decide +kernel) (Nat.le_of_ble_eq_true rfl) ?_
  intro p e s m args below meth c A C hCF
  unfold f_X11_goesOnP at hf
  refine V_in (fun ho0 _ => ?_)
  refine r_aload_n C 0 rfl rfl dX11_goesOn_0 ?_
  refine r_getf C 300 (by decide) rfl (fx_m rfl) (ly_300 cy _ _) rfl in_X11 32 (by decide) tw_927 (v := nu (μ 300 32)) rfl dX11_goesOn_1 ?_
  refine r_iconst C dX11_goesOn_4 ?_
  refine r_isub C dX11_goesOn_5 ?_
  refine r_istore_n C 3 (lw := [some (rf 300), some (rf 399), some (nu a2), some (nu ((μ 300 32) - 1))]) rfl rfl (by decide) dX11_goesOn_6 ?_
  obtain ⟨g1, hf⟩ := of_g hf
  exact V_lw (w_X11_goesOnP_7 C hCF h399 64 a2 ((μ 300 32) - 1) μ h2 g1 hf) (And.intro rfl (And.intro rfl (And.intro rfl trivial)))
set_option maxHeartbeats 4000000 in
set_option maxRecDepth 100000 in
theorem w_X11_gangs__185 {p : Program} {l : Launch} {e : Env} {s : State} {m : MethodId} {args : Array Value} {below : List Frame} {meth : Method} {c : Code} {D : va_G} {cy : Nat → ClassId} {A : Nat → Prop} {ids : List Nat} {ad : Nat → Nat} {r : Int} {μ' : Mem} (C : Cx p s m args meth c D (tyl cy) A 7 cX11_gangs_ yX11_gangs_.cls (some .int)) (hCF : CF ad A s) (k24 : Int → Int → Mem → Option (Int × Mem)) (hk24 : ∀ (v2 v3 : Int) (μ : Mem), inR v2 → inR v3 → k24 v2 v3 μ = some (r, μ') → V p l e (rmk 6) s m args below meth c 0 0 (MQ below (aI D (tyl cy) (lay cy) ids ad A r μ') args s 0 0 A) D A (lay cy) ids ad 7 μ 24 [some (rf 300), none, some (nu v2), some (nu v3), none, none, none] []) : ∀ n : Nat, ∀ (v2 v6 : Int) (μ : Mem), inR v2 → inR v6 → f_X11_gangs__185  k24 n v2 v6 μ = some (r, μ') → V p l e (rmk 6) s m args below meth c 0 0 (MQ below (aI D (tyl cy) (lay cy) ids ad A r μ') args s 0 0 A) D A (lay cy) ids ad 7 μ 185 [some (rf 300), none, some (nu v2), none, none, none, some (nu v6)] [] := by
  intro n
  induction n with
  | zero =>
    intro v2 v6 μ hv2 hv6 hf
    cases hf
  | succ n ih =>
    intro v2 v6 μ hv2 hv6 hf
    rw [f_X11_gangs__185_e] at hf
    refine V_in (fun ho0 _ => ?_)
    refine r_iload C rfl dX11_gangs__185 ?_
    refine r_aload_n C 0 rfl rfl dX11_gangs__187 ?_
    refine r_getf C 300 (by decide) rfl (fx_m rfl) (ly_300 cy _ _) rfl in_X11 32 (by decide) tw_927 (v := nu (μ 300 32)) rfl dX11_gangs__188 ?_
    refine r_icmp_ge C 256 hv6 (ho0 _ _) rfl dX11_gangs__191 (fun c1 => ?_) (fun c1 => ?_)
    · replace hf := if_t hf c1
      refine r_aload_n C 0 rfl rfl dX11_gangs__256 ?_
      refine r_aload_n C 0 rfl rfl dX11_gangs__257 ?_
      refine r_getf C 300 (by decide) rfl (fx_m rfl) (ly_300 cy _ _) rfl in_X11 36 (by decide) tw_931 (v := rf 322) rfl dX11_gangs__258 ?_
      refine r_aload_n C 0 rfl rfl dX11_gangs__261 ?_
      refine r_getf C 300 (by decide) rfl (fx_m rfl) (ly_300 cy _ _) rfl in_X11 2 (by decide) tw_897 (v := nu (μ 300 2)) rfl dX11_gangs__262 ?_
      obtain ⟨r2, μ3, hc4, hf⟩ := of_bd hf
      refine r_callVI C hCF (As := [rf 322, nu (μ 300 2)]) 300 (by decide) rfl (fx_m rfl) (ly_300 cy _ _) rfl (c_X11_goesOnB (ho0 _ _) hc4) rfl (by decide) (by decide) ⟨Nat.le_refl 0, Nat.le_refl 0⟩ tw_1216 tw_1219 tw_10 tw_1218 ts_59 2 (by decide) rfl (Nat.le_of_ble_eq_true rfl) dX11_gangs__265 (fun hr6 => ?_)
      refine V_in (fun ho5 _ => ?_)
      refine r_istore_n C 3 (lw := [some (rf 300), none, some (nu v2), some (nu r2), none, none, some (nu v6)]) rfl rfl (by decide) dX11_gangs__268 ?_
      refine r_goto C 24 rfl dX11_gangs__269 ?_
      exact V_lw (hk24 v2 r2 μ3 hv2 hr6 hf) (And.intro rfl (And.intro rfl (And.intro rfl trivial)))
    · replace hf := if_f hf c1
      refine r_aload_n C 0 rfl rfl dX11_gangs__194 ?_
      refine r_getf C 300 (by decide) rfl (fx_m rfl) (ly_300 cy _ _) rfl in_X11 39 (by decide) tw_934 (v := rf 325) rfl dX11_gangs__195 ?_
      refine r_iload C rfl dX11_gangs__198 ?_
      refine r_aload_n C 0 rfl rfl dX11_gangs__200 ?_
      refine r_getf C 300 (by decide) rfl (fx_m rfl) (ly_300 cy _ _) rfl in_X11 35 (by decide) tw_930 (v := rf 321) rfl dX11_gangs__201 ?_
      refine r_iload C rfl dX11_gangs__204 ?_
      obtain ⟨g7, hf⟩ := of_g hf
      refine r_iald C 321 (by decide) rfl (fx_m rfl) 0 (cA := cy 0) (n := 5) (ly_321 cy _ _) rfl g7 (by decide) dX11_gangs__206 ?_
      refine r_iast C 325 (by decide) rfl (fx_m rfl) (by decide) 0 (cA := cy 0) (n := 5) (fun f => ly_325 cy _ f) rfl g7 (by decide) (ho0 _ _) dX11_gangs__207 (fun μ8 hμ10 => ?_)
      replace hf := of_lm hf hμ10
      refine V_in (fun ho9 _ => ?_)
      refine r_aload_n C 0 rfl rfl dX11_gangs__208 ?_
      refine r_getf C 300 (by decide) rfl (fx_m rfl) (ly_300 cy _ _) rfl in_X11 40 (by decide) tw_935 (v := rf 326) rfl dX11_gangs__209 ?_
      refine r_iload C rfl dX11_gangs__212 ?_
      refine r_aload_n C 0 rfl rfl dX11_gangs__214 ?_
      refine r_getf C 300 (by decide) rfl (fx_m rfl) (ly_300 cy _ _) rfl in_X11 36 (by decide) tw_931 (v := rf 322) rfl dX11_gangs__215 ?_
      refine r_iload C rfl dX11_gangs__218 ?_
      refine r_iald C 322 (by decide) rfl (fx_m rfl) 0 (cA := cy 0) (n := 5) (ly_322 cy _ _) rfl g7 (by decide) dX11_gangs__220 ?_
      refine r_iast C 326 (by decide) rfl (fx_m rfl) (by decide) 0 (cA := cy 0) (n := 5) (fun f => ly_326 cy _ f) rfl g7 (by decide) (ho9 _ _) dX11_gangs__221 (fun μ11 hμ13 => ?_)
      replace hf := of_lm hf hμ13
      refine V_in (fun ho12 _ => ?_)
      refine r_aload_n C 0 rfl rfl dX11_gangs__222 ?_
      refine r_getf C 300 (by decide) rfl (fx_m rfl) (ly_300 cy _ _) rfl in_X11 41 (by decide) tw_936 (v := rf 327) rfl dX11_gangs__223 ?_
      refine r_iload C rfl dX11_gangs__226 ?_
      refine r_aload_n C 0 rfl rfl dX11_gangs__228 ?_
      refine r_getf C 300 (by decide) rfl (fx_m rfl) (ly_300 cy _ _) rfl in_X11 37 (by decide) tw_932 (v := rf 323) rfl dX11_gangs__229 ?_
      refine r_iload C rfl dX11_gangs__232 ?_
      refine r_iald C 323 (by decide) rfl (fx_m rfl) 0 (cA := cy 0) (n := 5) (ly_323 cy _ _) rfl g7 (by decide) dX11_gangs__234 ?_
      refine r_iast C 327 (by decide) rfl (fx_m rfl) (by decide) 0 (cA := cy 0) (n := 5) (fun f => ly_327 cy _ f) rfl g7 (by decide) (ho12 _ _) dX11_gangs__235 (fun μ14 hμ16 => ?_)
      replace hf := of_lm hf hμ16
      refine V_in (fun ho15 _ => ?_)
      refine r_aload_n C 0 rfl rfl dX11_gangs__236 ?_
      refine r_getf C 300 (by decide) rfl (fx_m rfl) (ly_300 cy _ _) rfl in_X11 42 (by decide) tw_937 (v := rf 328) rfl dX11_gangs__237 ?_
      refine r_iload C rfl dX11_gangs__240 ?_
      refine r_aload_n C 0 rfl rfl dX11_gangs__242 ?_
      refine r_getf C 300 (by decide) rfl (fx_m rfl) (ly_300 cy _ _) rfl in_X11 38 (by decide) tw_933 (v := rf 324) rfl dX11_gangs__243 ?_
      refine r_iload C rfl dX11_gangs__246 ?_
      refine r_iald C 324 (by decide) rfl (fx_m rfl) 0 (cA := cy 0) (n := 5) (ly_324 cy _ _) rfl g7 (by decide) dX11_gangs__248 ?_
      refine r_iast C 328 (by decide) rfl (fx_m rfl) (by decide) 0 (cA := cy 0) (n := 5) (fun f => ly_328 cy _ f) rfl g7 (by decide) (ho15 _ _) dX11_gangs__249 (fun μ17 hμ19 => ?_)
      replace hf := of_lm hf hμ19
      refine V_in (fun ho18 _ => ?_)
      refine r_iinc C rfl (lw := [some (rf 300), none, some (nu v2), none, none, none, some (nu (v6 + 1))]) rfl (by decide) dX11_gangs__250 ?_
      refine r_goto C 185 rfl dX11_gangs__253 ?_
      obtain ⟨g20, hf⟩ := of_g hf
      exact V_lw (ih v2 (v6 + 1) μ17 hv2 g20 hf) (And.intro rfl (And.intro rfl (And.intro rfl trivial)))
set_option maxHeartbeats 4000000 in
set_option maxRecDepth 100000 in
theorem w_X11_gangs__163 {p : Program} {l : Launch} {e : Env} {s : State} {m : MethodId} {args : Array Value} {below : List Frame} {meth : Method} {c : Code} {D : va_G} {cy : Nat → ClassId} {A : Nat → Prop} {ids : List Nat} {ad : Nat → Nat} {r : Int} {μ' : Mem} (C : Cx p s m args meth c D (tyl cy) A 7 cX11_gangs_ yX11_gangs_.cls (some .int)) (hCF : CF ad A s) (k24 : Int → Int → Mem → Option (Int × Mem)) (hk24 : ∀ (v2 v3 : Int) (μ : Mem), inR v2 → inR v3 → k24 v2 v3 μ = some (r, μ') → V p l e (rmk 6) s m args below meth c 0 0 (MQ below (aI D (tyl cy) (lay cy) ids ad A r μ') args s 0 0 A) D A (lay cy) ids ad 7 μ 24 [some (rf 300), none, some (nu v2), some (nu v3), none, none, none] []) : ∀ (v2 v4 v5 : Int) (μ : Mem), inR v2 → inR v4 → inR v5 → f_X11_gangs__163  k24 v2 v4 v5 μ = some (r, μ') → V p l e (rmk 6) s m args below meth c 0 0 (MQ below (aI D (tyl cy) (lay cy) ids ad A r μ') args s 0 0 A) D A (lay cy) ids ad 7 μ 163 [some (rf 300), none, some (nu v2), none, some (nu v4), some (nu v5), none] [] := by
  intro v2 v4 v5 μ hv2 hv4 hv5 hf
  unfold f_X11_gangs__163 at hf
  refine V_in (fun ho0 _ => ?_)
  refine r_iload C rfl dX11_gangs__163 ?_
  refine r_if_eq C 256 hv4 rfl dX11_gangs__165 (fun c1 => ?_) (fun c1 => ?_)
  · replace hf := if_t hf c1
    refine r_aload_n C 0 rfl rfl dX11_gangs__256 ?_
    refine r_aload_n C 0 rfl rfl dX11_gangs__257 ?_
    refine r_getf C 300 (by decide) rfl (fx_m rfl) (ly_300 cy _ _) rfl in_X11 36 (by decide) tw_931 (v := rf 322) rfl dX11_gangs__258 ?_
    refine r_aload_n C 0 rfl rfl dX11_gangs__261 ?_
    refine r_getf C 300 (by decide) rfl (fx_m rfl) (ly_300 cy _ _) rfl in_X11 2 (by decide) tw_897 (v := nu (μ 300 2)) rfl dX11_gangs__262 ?_
    obtain ⟨r2, μ3, hc4, hf⟩ := of_bd hf
    refine r_callVI C hCF (As := [rf 322, nu (μ 300 2)]) 300 (by decide) rfl (fx_m rfl) (ly_300 cy _ _) rfl (c_X11_goesOnB (ho0 _ _) hc4) rfl (by decide) (by decide) ⟨Nat.le_refl 0, Nat.le_refl 0⟩ tw_1216 tw_1219 tw_10 tw_1218 ts_59 2 (by decide) rfl (Nat.le_of_ble_eq_true rfl) dX11_gangs__265 (fun hr6 => ?_)
    refine V_in (fun ho5 _ => ?_)
    refine r_istore_n C 3 (lw := [some (rf 300), none, some (nu v2), some (nu r2), some (nu v4), some (nu v5), none]) rfl rfl (by decide) dX11_gangs__268 ?_
    refine r_goto C 24 rfl dX11_gangs__269 ?_
    exact V_lw (hk24 v2 r2 μ3 hv2 hr6 hf) (And.intro rfl (And.intro rfl (And.intro rfl trivial)))
  · replace hf := if_f hf c1
    refine r_iload_n C 2 rfl rfl dX11_gangs__168 ?_
    refine r_iconst C dX11_gangs__169 ?_
    refine r_icmp_eq C 179 hv2 (inR_lit rfl) rfl dX11_gangs__170 (fun c7 => ?_) (fun c7 => ?_)
    · replace hf := if_t hf c7
      refine r_iload C rfl dX11_gangs__179 ?_
      refine r_istore_n C 2 (lw := [some (rf 300), none, some (nu v5), none, some (nu v4), some (nu v5), none]) rfl rfl (by decide) dX11_gangs__181 ?_
      refine r_iconst C dX11_gangs__182 ?_
      refine r_istore C (lw := [some (rf 300), none, some (nu v5), none, some (nu v4), some (nu v5), some (nu 0)]) rfl (by decide) dX11_gangs__183 ?_
      exact V_lw (w_X11_gangs__185 C hCF k24 hk24 8000 v5 0 μ hv5 (inR_lit rfl) hf) (And.intro rfl (And.intro rfl (And.intro rfl trivial)))
    · replace hf := if_f hf c7
      refine r_iload C rfl dX11_gangs__173 ?_
      refine r_iload_n C 2 rfl rfl dX11_gangs__175 ?_
      refine r_icmp_ge C 256 hv5 hv2 rfl dX11_gangs__176 (fun c8 => ?_) (fun c8 => ?_)
      · replace hf := if_t hf c8
        refine r_aload_n C 0 rfl rfl dX11_gangs__256 ?_
        refine r_aload_n C 0 rfl rfl dX11_gangs__257 ?_
        refine r_getf C 300 (by decide) rfl (fx_m rfl) (ly_300 cy _ _) rfl in_X11 36 (by decide) tw_931 (v := rf 322) rfl dX11_gangs__258 ?_
        refine r_aload_n C 0 rfl rfl dX11_gangs__261 ?_
        refine r_getf C 300 (by decide) rfl (fx_m rfl) (ly_300 cy _ _) rfl in_X11 2 (by decide) tw_897 (v := nu (μ 300 2)) rfl dX11_gangs__262 ?_
        obtain ⟨r9, μ10, hc11, hf⟩ := of_bd hf
        refine r_callVI C hCF (As := [rf 322, nu (μ 300 2)]) 300 (by decide) rfl (fx_m rfl) (ly_300 cy _ _) rfl (c_X11_goesOnB (ho0 _ _) hc11) rfl (by decide) (by decide) ⟨Nat.le_refl 0, Nat.le_refl 0⟩ tw_1216 tw_1219 tw_10 tw_1218 ts_59 2 (by decide) rfl (Nat.le_of_ble_eq_true rfl) dX11_gangs__265 (fun hr13 => ?_)
        refine V_in (fun ho12 _ => ?_)
        refine r_istore_n C 3 (lw := [some (rf 300), none, some (nu v2), some (nu r9), some (nu v4), some (nu v5), none]) rfl rfl (by decide) dX11_gangs__268 ?_
        refine r_goto C 24 rfl dX11_gangs__269 ?_
        exact V_lw (hk24 v2 r9 μ10 hv2 hr13 hf) (And.intro rfl (And.intro rfl (And.intro rfl trivial)))
      · replace hf := if_f hf c8
        refine r_iload C rfl dX11_gangs__179 ?_
        refine r_istore_n C 2 (lw := [some (rf 300), none, some (nu v5), none, some (nu v4), some (nu v5), none]) rfl rfl (by decide) dX11_gangs__181 ?_
        refine r_iconst C dX11_gangs__182 ?_
        refine r_istore C (lw := [some (rf 300), none, some (nu v5), none, some (nu v4), some (nu v5), some (nu 0)]) rfl (by decide) dX11_gangs__183 ?_
        exact V_lw (w_X11_gangs__185 C hCF k24 hk24 8000 v5 0 μ hv5 (inR_lit rfl) hf) (And.intro rfl (And.intro rfl (And.intro rfl trivial)))
set_option maxHeartbeats 4000000 in
set_option maxRecDepth 100000 in
theorem w_X11_gangs__109 {p : Program} {l : Launch} {e : Env} {s : State} {m : MethodId} {args : Array Value} {below : List Frame} {meth : Method} {c : Code} {D : va_G} {cy : Nat → ClassId} {A : Nat → Prop} {ids : List Nat} {ad : Nat → Nat} {r : Int} {μ' : Mem} (C : Cx p s m args meth c D (tyl cy) A 7 cX11_gangs_ yX11_gangs_.cls (some .int)) (hCF : CF ad A s) (k24 : Int → Int → Mem → Option (Int × Mem)) (hk24 : ∀ (v2 v3 : Int) (μ : Mem), inR v2 → inR v3 → k24 v2 v3 μ = some (r, μ') → V p l e (rmk 6) s m args below meth c 0 0 (MQ below (aI D (tyl cy) (lay cy) ids ad A r μ') args s 0 0 A) D A (lay cy) ids ad 7 μ 24 [some (rf 300), none, some (nu v2), some (nu v3), none, none, none] []) : ∀ n : Nat, ∀ (v2 v4 v5 v6 : Int) (μ : Mem), inR v2 → inR v4 → inR v5 → inR v6 → f_X11_gangs__109  k24 n v2 v4 v5 v6 μ = some (r, μ') → V p l e (rmk 6) s m args below meth c 0 0 (MQ below (aI D (tyl cy) (lay cy) ids ad A r μ') args s 0 0 A) D A (lay cy) ids ad 7 μ 109 [some (rf 300), none, some (nu v2), none, some (nu v4), some (nu v5), some (nu v6)] [] := by
  intro n
  induction n with
  | zero =>
    intro v2 v4 v5 v6 μ hv2 hv4 hv5 hv6 hf
    cases hf
  | succ n ih =>
    intro v2 v4 v5 v6 μ hv2 hv4 hv5 hv6 hf
    rw [f_X11_gangs__109_e] at hf
    refine V_in (fun ho0 _ => ?_)
    refine r_iload C rfl dX11_gangs__109 ?_
    refine r_aload_n C 0 rfl rfl dX11_gangs__111 ?_
    refine r_getf C 300 (by decide) rfl (fx_m rfl) (ly_300 cy _ _) rfl in_X11 32 (by decide) tw_927 (v := nu (μ 300 32)) rfl dX11_gangs__112 ?_
    refine r_icmp_ge C 163 hv6 (ho0 _ _) rfl dX11_gangs__115 (fun c1 => ?_) (fun c1 => ?_)
    · replace hf := if_t hf c1
      exact V_lw (w_X11_gangs__163 C hCF k24 hk24 v2 v4 v5 μ hv2 hv4 hv5 hf) (And.intro rfl (And.intro rfl (And.intro rfl (And.intro rfl trivial))))
    · replace hf := if_f hf c1
      refine r_iload C rfl dX11_gangs__118 ?_
      refine r_if_eq C 163 hv4 rfl dX11_gangs__120 (fun c2 => ?_) (fun c2 => ?_)
      · replace hf := if_t hf c2
        exact V_lw (w_X11_gangs__163 C hCF k24 hk24 v2 v4 v5 μ hv2 hv4 hv5 hf) (And.intro rfl (And.intro rfl (And.intro rfl (And.intro rfl trivial))))
      · replace hf := if_f hf c2
        refine r_aload_n C 0 rfl rfl dX11_gangs__123 ?_
        refine r_iload C rfl dX11_gangs__124 ?_
        obtain ⟨r3, μ4, hc5, hf⟩ := of_bd hf
        refine r_callVI C hCF (As := [nu v6]) 300 (by decide) rfl (fx_m rfl) (ly_300 cy _ _) rfl (c_X11_lays hv6 hc5) rfl (by decide) (by decide) ⟨Nat.le_refl 0, Nat.le_refl 0⟩ tw_1208 tw_1211 tw_10 tw_1210 ts_57 1 (by decide) rfl (Nat.le_of_ble_eq_true rfl) dX11_gangs__126 (fun hr7 => ?_)
        refine V_in (fun ho6 _ => ?_)
        refine r_istore C (lw := [some (rf 300), none, some (nu v2), none, some (nu r3), some (nu v5), some (nu v6)]) rfl (by decide) dX11_gangs__129 ?_
        refine r_aload_n C 0 rfl rfl dX11_gangs__131 ?_
        refine r_getf C 300 (by decide) rfl (fx_m rfl) (ly_300 cy _ _) rfl in_X11 38 (by decide) tw_933 (v := rf 324) rfl dX11_gangs__132 ?_
        refine r_iload C rfl dX11_gangs__135 ?_
        obtain ⟨g8, hf⟩ := of_g hf
        refine r_iald C 324 (by decide) rfl (fx_m rfl) 0 (cA := cy 0) (n := 5) (ly_324 cy _ _) rfl g8 (by decide) dX11_gangs__137 ?_
        refine r_iload C rfl dX11_gangs__138 ?_
        refine r_icmp_le C 153 (ho6 _ _) hv5 rfl dX11_gangs__140 (fun c9 => ?_) (fun c9 => ?_)
        · replace hf := if_t hf c9
          refine r_iload C rfl dX11_gangs__153 ?_
          refine r_istore C (lw := [some (rf 300), none, some (nu v2), none, some (nu r3), some (nu v5), some (nu v6)]) rfl (by decide) dX11_gangs__155 ?_
          refine r_iinc C rfl (lw := [some (rf 300), none, some (nu v2), none, some (nu r3), some (nu v5), some (nu (v6 + 1))]) rfl (by decide) dX11_gangs__157 ?_
          refine r_goto C 109 rfl dX11_gangs__160 ?_
          obtain ⟨g10, hf⟩ := of_g hf
          exact V_lw (ih v2 r3 v5 (v6 + 1) μ4 hv2 hr7 hv5 g10 hf) (And.intro rfl (And.intro rfl (And.intro rfl (And.intro rfl (And.intro rfl trivial)))))
        · replace hf := if_f hf c9
          refine r_aload_n C 0 rfl rfl dX11_gangs__143 ?_
          refine r_getf C 300 (by decide) rfl (fx_m rfl) (ly_300 cy _ _) rfl in_X11 38 (by decide) tw_933 (v := rf 324) rfl dX11_gangs__144 ?_
          refine r_iload C rfl dX11_gangs__147 ?_
          refine r_iald C 324 (by decide) rfl (fx_m rfl) 0 (cA := cy 0) (n := 5) (ly_324 cy _ _) rfl g8 (by decide) dX11_gangs__149 ?_
          refine r_goto C 155 rfl dX11_gangs__150 ?_
          refine r_istore C (lw := [some (rf 300), none, some (nu v2), none, some (nu r3), some (nu (μ4 324 v6.toNat)), some (nu v6)]) rfl (by decide) dX11_gangs__155 ?_
          refine r_iinc C rfl (lw := [some (rf 300), none, some (nu v2), none, some (nu r3), some (nu (μ4 324 v6.toNat)), some (nu (v6 + 1))]) rfl (by decide) dX11_gangs__157 ?_
          refine r_goto C 109 rfl dX11_gangs__160 ?_
          obtain ⟨g11, hf⟩ := of_g hf
          exact V_lw (ih v2 r3 (μ4 324 v6.toNat) (v6 + 1) μ4 hv2 hr7 (ho6 _ _) g11 hf) (And.intro rfl (And.intro rfl (And.intro rfl (And.intro rfl (And.intro rfl trivial)))))
set_option maxHeartbeats 4000000 in
set_option maxRecDepth 100000 in
theorem w_X11_gangs__77 {p : Program} {l : Launch} {e : Env} {s : State} {m : MethodId} {args : Array Value} {below : List Frame} {meth : Method} {c : Code} {D : va_G} {cy : Nat → ClassId} {A : Nat → Prop} {ids : List Nat} {ad : Nat → Nat} {r : Int} {μ' : Mem} (C : Cx p s m args meth c D (tyl cy) A 7 cX11_gangs_ yX11_gangs_.cls (some .int)) (hCF : CF ad A s) (k24 : Int → Int → Mem → Option (Int × Mem)) (hk24 : ∀ (v2 v3 : Int) (μ : Mem), inR v2 → inR v3 → k24 v2 v3 μ = some (r, μ') → V p l e (rmk 6) s m args below meth c 0 0 (MQ below (aI D (tyl cy) (lay cy) ids ad A r μ') args s 0 0 A) D A (lay cy) ids ad 7 μ 24 [some (rf 300), none, some (nu v2), some (nu v3), none, none, none] []) : ∀ n : Nat, ∀ (v2 v4 v5 : Int) (μ : Mem), inR v2 → inR v4 → inR v5 → f_X11_gangs__77  k24 n v2 v4 v5 μ = some (r, μ') → V p l e (rmk 6) s m args below meth c 0 0 (MQ below (aI D (tyl cy) (lay cy) ids ad A r μ') args s 0 0 A) D A (lay cy) ids ad 7 μ 77 [some (rf 300), none, some (nu v2), none, some (nu v4), some (nu v5), none] [] := by
  intro n
  induction n with
  | zero =>
    intro v2 v4 v5 μ hv2 hv4 hv5 hf
    cases hf
  | succ n ih =>
    intro v2 v4 v5 μ hv2 hv4 hv5 hf
    rw [f_X11_gangs__77_e] at hf
    refine V_in (fun ho0 _ => ?_)
    refine r_iload C rfl dX11_gangs__77 ?_
    refine r_aload_n C 0 rfl rfl dX11_gangs__79 ?_
    refine r_getf C 300 (by decide) rfl (fx_m rfl) (ly_300 cy _ _) rfl in_X11 2 (by decide) tw_897 (v := nu (μ 300 2)) rfl dX11_gangs__80 ?_
    refine r_icmp_ge C 103 hv5 (ho0 _ _) rfl dX11_gangs__83 (fun c1 => ?_) (fun c1 => ?_)
    · replace hf := if_t hf c1
      refine r_iconst C dX11_gangs__103 ?_
      refine r_istore C (lw := [some (rf 300), none, some (nu v2), none, some (nu v4), some (nu 0), none]) rfl (by decide) dX11_gangs__104 ?_
      refine r_iconst C dX11_gangs__106 ?_
      refine r_istore C (lw := [some (rf 300), none, some (nu v2), none, some (nu v4), some (nu 0), some (nu 0)]) rfl (by decide) dX11_gangs__107 ?_
      exact V_lw (w_X11_gangs__109 C hCF k24 hk24 8000 v2 v4 0 0 μ hv2 hv4 (inR_lit rfl) (inR_lit rfl) hf) (And.intro rfl (And.intro rfl (And.intro rfl (And.intro rfl (And.intro rfl trivial)))))
    · replace hf := if_f hf c1
      refine r_aload_n C 0 rfl rfl dX11_gangs__86 ?_
      refine r_getf C 300 (by decide) rfl (fx_m rfl) (ly_300 cy _ _) rfl in_X11 43 (by decide) tw_938 (v := rf 329) rfl dX11_gangs__87 ?_
      refine r_iload C rfl dX11_gangs__90 ?_
      refine r_aload_n C 0 rfl rfl dX11_gangs__92 ?_
      refine r_getf C 300 (by decide) rfl (fx_m rfl) (ly_300 cy _ _) rfl in_X11 1 (by decide) tw_896 (v := nu (μ 300 1)) rfl dX11_gangs__93 ?_
      obtain ⟨g2, hf⟩ := of_g hf
      refine r_iast C 329 (by decide) rfl (fx_m rfl) (by decide) 0 (cA := cy 0) (n := 6) (fun f => ly_329 cy _ f) rfl g2 (by decide) (ho0 _ _) dX11_gangs__96 (fun μ3 hμ5 => ?_)
      replace hf := of_lm hf hμ5
      refine V_in (fun ho4 _ => ?_)
      refine r_iinc C rfl (lw := [some (rf 300), none, some (nu v2), none, some (nu v4), some (nu (v5 + 1)), none]) rfl (by decide) dX11_gangs__97 ?_
      refine r_goto C 77 rfl dX11_gangs__100 ?_
      obtain ⟨g6, hf⟩ := of_g hf
      exact V_lw (ih v2 v4 (v5 + 1) μ3 hv2 hv4 g6 hf) (And.intro rfl (And.intro rfl (And.intro rfl (And.intro rfl trivial))))
set_option maxHeartbeats 4000000 in
set_option maxRecDepth 100000 in
theorem w_X11_gangs__34 {p : Program} {l : Launch} {e : Env} {s : State} {m : MethodId} {args : Array Value} {below : List Frame} {meth : Method} {c : Code} {D : va_G} {cy : Nat → ClassId} {A : Nat → Prop} {ids : List Nat} {ad : Nat → Nat} {r : Int} {μ' : Mem} (C : Cx p s m args meth c D (tyl cy) A 7 cX11_gangs_ yX11_gangs_.cls (some .int)) (hCF : CF ad A s) (k24 : Int → Int → Mem → Option (Int × Mem)) (hk24 : ∀ (v2 v3 : Int) (μ : Mem), inR v2 → inR v3 → k24 v2 v3 μ = some (r, μ') → V p l e (rmk 6) s m args below meth c 0 0 (MQ below (aI D (tyl cy) (lay cy) ids ad A r μ') args s 0 0 A) D A (lay cy) ids ad 7 μ 24 [some (rf 300), none, some (nu v2), some (nu v3), none, none, none] []) : ∀ n : Nat, ∀ (v2 v4 v5 : Int) (μ : Mem), inR v2 → inR v4 → inR v5 → f_X11_gangs__34  k24 n v2 v4 v5 μ = some (r, μ') → V p l e (rmk 6) s m args below meth c 0 0 (MQ below (aI D (tyl cy) (lay cy) ids ad A r μ') args s 0 0 A) D A (lay cy) ids ad 7 μ 34 [some (rf 300), none, some (nu v2), none, some (nu v4), some (nu v5), none] [] := by
  intro n
  induction n with
  | zero =>
    intro v2 v4 v5 μ hv2 hv4 hv5 hf
    cases hf
  | succ n ih =>
    intro v2 v4 v5 μ hv2 hv4 hv5 hf
    rw [f_X11_gangs__34_e] at hf
    refine V_in (fun ho0 _ => ?_)
    refine r_iload C rfl dX11_gangs__34 ?_
    refine r_aload_n C 0 rfl rfl dX11_gangs__36 ?_
    refine r_getf C 300 (by decide) rfl (fx_m rfl) (ly_300 cy _ _) rfl in_X11 32 (by decide) tw_927 (v := nu (μ 300 32)) rfl dX11_gangs__37 ?_
    refine r_icmp_ge C 74 hv5 (ho0 _ _) rfl dX11_gangs__40 (fun c1 => ?_) (fun c1 => ?_)
    · replace hf := if_t hf c1
      refine r_iconst C dX11_gangs__74 ?_
      refine r_istore C (lw := [some (rf 300), none, some (nu v2), none, some (nu v4), some (nu 0), none]) rfl (by decide) dX11_gangs__75 ?_
      exact V_lw (w_X11_gangs__77 C hCF k24 hk24 8000 v2 v4 0 μ hv2 hv4 (inR_lit rfl) hf) (And.intro rfl (And.intro rfl (And.intro rfl (And.intro rfl trivial))))
    · replace hf := if_f hf c1
      refine r_iload C rfl dX11_gangs__43 ?_
      refine r_if_eq C 74 hv4 rfl dX11_gangs__45 (fun c2 => ?_) (fun c2 => ?_)
      · replace hf := if_t hf c2
        refine r_iconst C dX11_gangs__74 ?_
        refine r_istore C (lw := [some (rf 300), none, some (nu v2), none, some (nu v4), some (nu 0), none]) rfl (by decide) dX11_gangs__75 ?_
        exact V_lw (w_X11_gangs__77 C hCF k24 hk24 8000 v2 v4 0 μ hv2 hv4 (inR_lit rfl) hf) (And.intro rfl (And.intro rfl (And.intro rfl (And.intro rfl trivial))))
      · replace hf := if_f hf c2
        refine r_aload_n C 0 rfl rfl dX11_gangs__48 ?_
        refine r_aload_n C 0 rfl rfl dX11_gangs__49 ?_
        refine r_getf C 300 (by decide) rfl (fx_m rfl) (ly_300 cy _ _) rfl in_X11 36 (by decide) tw_931 (v := rf 322) rfl dX11_gangs__50 ?_
        refine r_iload C rfl dX11_gangs__53 ?_
        obtain ⟨g3, hf⟩ := of_g hf
        refine r_iald C 322 (by decide) rfl (fx_m rfl) 0 (cA := cy 0) (n := 5) (ly_322 cy _ _) rfl g3 (by decide) dX11_gangs__55 ?_
        refine r_aload_n C 0 rfl rfl dX11_gangs__56 ?_
        refine r_getf C 300 (by decide) rfl (fx_m rfl) (ly_300 cy _ _) rfl in_X11 35 (by decide) tw_930 (v := rf 321) rfl dX11_gangs__57 ?_
        refine r_iload C rfl dX11_gangs__60 ?_
        refine r_iald C 321 (by decide) rfl (fx_m rfl) 0 (cA := cy 0) (n := 5) (ly_321 cy _ _) rfl g3 (by decide) dX11_gangs__62 ?_
        obtain ⟨r4, μ5, hc6, hf⟩ := of_bd hf
        refine r_callVI C hCF (As := [nu (μ 322 v5.toNat), nu (μ 321 v5.toNat)]) 300 (by decide) rfl (fx_m rfl) (ly_300 cy _ _) rfl (c_X11_can (ho0 _ _) (ho0 _ _) hc6) rfl (by decide) (by decide) ⟨Nat.le_refl 0, Nat.le_refl 0⟩ tw_1204 tw_1207 tw_10 tw_1206 ts_56 2 (by decide) rfl (Nat.le_of_ble_eq_true rfl) dX11_gangs__63 (fun hr8 => ?_)
        refine V_in (fun ho7 _ => ?_)
        refine r_istore C (lw := [some (rf 300), none, some (nu v2), none, some (nu r4), some (nu v5), none]) rfl (by decide) dX11_gangs__66 ?_
        refine r_iinc C rfl (lw := [some (rf 300), none, some (nu v2), none, some (nu r4), some (nu (v5 + 1)), none]) rfl (by decide) dX11_gangs__68 ?_
        refine r_goto C 34 rfl dX11_gangs__71 ?_
        obtain ⟨g9, hf⟩ := of_g hf
        exact V_lw (ih v2 r4 (v5 + 1) μ5 hv2 hr8 g9 hf) (And.intro rfl (And.intro rfl (And.intro rfl (And.intro rfl trivial))))
set_option maxHeartbeats 4000000 in
set_option maxRecDepth 100000 in
theorem w_X11_gangs__24 {p : Program} {l : Launch} {e : Env} {s : State} {m : MethodId} {args : Array Value} {below : List Frame} {meth : Method} {c : Code} {D : va_G} {cy : Nat → ClassId} {A : Nat → Prop} {ids : List Nat} {ad : Nat → Nat} {r : Int} {μ' : Mem} (C : Cx p s m args meth c D (tyl cy) A 7 cX11_gangs_ yX11_gangs_.cls (some .int)) (hCF : CF ad A s) : ∀ n : Nat, ∀ (v2 v3 : Int) (μ : Mem), inR v2 → inR v3 → f_X11_gangs__24   n v2 v3 μ = some (r, μ') → V p l e (rmk 6) s m args below meth c 0 0 (MQ below (aI D (tyl cy) (lay cy) ids ad A r μ') args s 0 0 A) D A (lay cy) ids ad 7 μ 24 [some (rf 300), none, some (nu v2), some (nu v3), none, none, none] [] := by
  intro n
  induction n with
  | zero =>
    intro v2 v3 μ hv2 hv3 hf
    cases hf
  | succ n ih =>
    intro v2 v3 μ hv2 hv3 hf
    rw [f_X11_gangs__24_e] at hf
    refine V_in (fun ho0 _ => ?_)
    refine r_iload_n C 3 rfl rfl dX11_gangs__24 ?_
    refine r_if_eq C 272 hv3 rfl dX11_gangs__25 (fun c1 => ?_) (fun c1 => ?_)
    · replace hf := if_t hf c1
      refine r_iload_n C 2 rfl rfl dX11_gangs__272 ?_
      obtain ⟨rfl, rfl⟩ := of_ret hf
      exact r_iret C rfl hv2 dX11_gangs__273
    · replace hf := if_f hf c1
      refine r_iconst C dX11_gangs__28 ?_
      refine r_istore C (lw := [some (rf 300), none, some (nu v2), some (nu v3), some (nu 1), none, none]) rfl (by decide) dX11_gangs__29 ?_
      refine r_iconst C dX11_gangs__31 ?_
      refine r_istore C (lw := [some (rf 300), none, some (nu v2), some (nu v3), some (nu 1), some (nu 0), none]) rfl (by decide) dX11_gangs__32 ?_
      exact V_lw (w_X11_gangs__34 C hCF (f_X11_gangs__24 n) ih 8000 v2 1 0 μ hv2 (inR_lit rfl) (inR_lit rfl) hf) (And.intro rfl (And.intro rfl (And.intro rfl (And.intro rfl trivial))))
set_option maxHeartbeats 4000000 in
set_option maxRecDepth 100000 in
theorem w_X11_gangs__4 {p : Program} {l : Launch} {e : Env} {s : State} {m : MethodId} {args : Array Value} {below : List Frame} {meth : Method} {c : Code} {D : va_G} {cy : Nat → ClassId} {A : Nat → Prop} {ids : List Nat} {ad : Nat → Nat} {r : Int} {μ' : Mem} (C : Cx p s m args meth c D (tyl cy) A 7 cX11_gangs_ yX11_gangs_.cls (some .int)) (hCF : CF ad A s) : ∀ n : Nat, ∀ (v2 v3 : Int) (μ : Mem), inR v2 → inR v3 → f_X11_gangs__4   n v2 v3 μ = some (r, μ') → V p l e (rmk 6) s m args below meth c 0 0 (MQ below (aI D (tyl cy) (lay cy) ids ad A r μ') args s 0 0 A) D A (lay cy) ids ad 7 μ 4 [some (rf 300), none, some (nu v2), some (nu v3), none, none, none] [] := by
  intro n
  induction n with
  | zero =>
    intro v2 v3 μ hv2 hv3 hf
    cases hf
  | succ n ih =>
    intro v2 v3 μ hv2 hv3 hf
    rw [f_X11_gangs__4_e] at hf
    refine V_in (fun ho0 _ => ?_)
    refine r_iload_n C 3 rfl rfl dX11_gangs__4 ?_
    refine r_iconst C dX11_gangs__5 ?_
    refine r_icmp_ge C 22 hv3 (inR_lit rfl) rfl dX11_gangs__6 (fun c1 => ?_) (fun c1 => ?_)
    · replace hf := if_t hf c1
      refine r_iconst C dX11_gangs__22 ?_
      refine r_istore_n C 3 (lw := [some (rf 300), none, some (nu v2), some (nu 1), none, none, none]) rfl rfl (by decide) dX11_gangs__23 ?_
      exact V_lw (w_X11_gangs__24 C hCF 8000 v2 1 μ hv2 (inR_lit rfl) hf) (And.intro rfl (And.intro rfl (And.intro rfl trivial)))
    · replace hf := if_f hf c1
      refine r_aload_n C 0 rfl rfl dX11_gangs__9 ?_
      refine r_getf C 300 (by decide) rfl (fx_m rfl) (ly_300 cy _ _) rfl in_X11 36 (by decide) tw_931 (v := rf 322) rfl dX11_gangs__10 ?_
      refine r_iload_n C 3 rfl rfl dX11_gangs__13 ?_
      refine r_iconst C dX11_gangs__14 ?_
      obtain ⟨g2, hf⟩ := of_g hf
      refine r_iast C 322 (by decide) rfl (fx_m rfl) (by decide) 0 (cA := cy 0) (n := 5) (fun f => ly_322 cy _ f) rfl g2 (by decide) (inR_lit rfl) dX11_gangs__15 (fun μ3 hμ5 => ?_)
      replace hf := of_lm hf hμ5
      refine V_in (fun ho4 _ => ?_)
      refine r_iinc C rfl (lw := [some (rf 300), none, some (nu v2), some (nu (v3 + 1)), none, none, none]) rfl (by decide) dX11_gangs__16 ?_
      refine r_goto C 4 rfl dX11_gangs__19 ?_
      obtain ⟨g6, hf⟩ := of_g hf
      exact V_lw (ih v2 (v3 + 1) μ3 hv2 g6 hf) (And.intro rfl (And.intro rfl (And.intro rfl trivial)))
set_option maxHeartbeats 4000000 in
set_option maxRecDepth 100000 in
theorem c_X11_gangs_ {l : Launch} {D : va_G} {cy : Nat → ClassId} {ids : List Nat} {ad : Nat → Nat} {μ μ' : Mem} {a1 r : Int} (h1 : inR a1) (hf : f_X11_gangs_ μ a1 = some (r, μ')) : KK aI l D (tyl cy) (lay cy) ids ad 6 yX11_gangs_ cX11_gangs_ 7 (some .int) [rf 300, nu a1] μ r μ' := by
  refine KK.of (by decide +kernel) (Nat.le_of_ble_eq_true rfl) ?_
  intro p e s m args below meth c A C hCF
  unfold f_X11_gangs_ at hf
  refine V_in (fun ho0 _ => ?_)
  refine r_iload_n C 1 rfl rfl dX11_gangs__0 ?_
  refine r_istore_n C 2 (lw := [some (rf 300), some (nu a1), some (nu a1), none, none, none, none]) rfl rfl (by decide) dX11_gangs__1 ?_
  refine r_iconst C dX11_gangs__2 ?_
  refine r_istore_n C 3 (lw := [some (rf 300), some (nu a1), some (nu a1), some (nu 0), none, none, none]) rfl rfl (by decide) dX11_gangs__3 ?_
  exact V_lw (w_X11_gangs__4 C hCF 8000 a1 0 μ h1 (inR_lit rfl) hf) (And.intro rfl (And.intro rfl (And.intro rfl trivial)))
set_option maxHeartbeats 4000000 in
set_option maxRecDepth 100000 in
theorem c_X11_planned {l : Launch} {D : va_G} {cy : Nat → ClassId} {ids : List Nat} {ad : Nat → Nat} {μ μ' : Mem} {a1 a2 r : Int} (h1 : inR a1) (h2 : inR a2) (hf : f_X11_planned μ a1 a2 = some (r, μ')) : KK aI l D (tyl cy) (lay cy) ids ad 4 yX11_planned cX11_planned 3 (some .int) [rf 300, nu a1, nu a2] μ r μ' := by
  refine KK.of (by decide +kernel) (Nat.le_of_ble_eq_true rfl) ?_
  intro p e s m args below meth c A C hCF
  unfold f_X11_planned at hf
  refine V_in (fun ho0 _ => ?_)
  refine r_iload_n C 1 rfl rfl dX11_planned_0 ?_
  refine r_iconst C dX11_planned_1 ?_
  refine r_aload_n C 0 rfl rfl dX11_planned_2 ?_
  refine r_getf C 300 (by decide) rfl (fx_m rfl) (ly_300 cy _ _) rfl in_X11 33 (by decide) tw_928 (v := nu (μ 300 33)) rfl dX11_planned_3 ?_
  refine r_iconst C dX11_planned_6 ?_
  refine r_isub C dX11_planned_7 ?_
  obtain ⟨g1, hf⟩ := of_g hf
  obtain ⟨r2, μ3, hc4, hf⟩ := of_bd hf
  refine r_callSI C hCF (As := [nu a1, nu 0, nu ((μ 300 33) - 1)]) (c_X11_in h1 (inR_lit rfl) g1 hc4) rfl (by decide) (by decide) ⟨Nat.le_refl 0, Nat.le_refl 0⟩ tw_1063 tw_1065 tw_10 tw_1064 3 (by decide) rfl (Nat.le_of_ble_eq_true rfl) dX11_planned_8 (fun hr6 => ?_)
  refine V_in (fun ho5 _ => ?_)
  refine r_if_ne C 16 hr6 rfl dX11_planned_11 (fun c7 => ?_) (fun c7 => ?_)
  · replace hf := if_f hf c7
    refine r_iload_n C 2 rfl rfl dX11_planned_16 ?_
    by_cases c8 : a2 = 0
    · replace hf := if_t hf c8
      refine r_swIn C 48 0 c8 (inR_lit rfl) (by decide) (by decide) rfl rfl dX11_planned_17 ?_
      refine r_aload_n C 0 rfl rfl dX11_planned_48 ?_
      refine r_getf C 300 (by decide) rfl (fx_m rfl) (ly_300 cy _ _) rfl in_X11 39 (by decide) tw_934 (v := rf 325) rfl dX11_planned_49 ?_
      refine r_iload_n C 1 rfl rfl dX11_planned_52 ?_
      obtain ⟨g9, hf⟩ := of_g hf
      refine r_iald C 325 (by decide) rfl (fx_m rfl) 0 (cA := cy 0) (n := 5) (ly_325 cy _ _) rfl g9 (by decide) dX11_planned_53 ?_
      obtain ⟨rfl, rfl⟩ := of_ret hf
      exact r_iret C rfl (ho5 _ _) dX11_planned_54
    replace hf := if_f hf c8
    by_cases c10 : a2 = 1
    · replace hf := if_t hf c10
      refine r_swIn C 55 1 c10 (inR_lit rfl) (by decide) (by decide) rfl rfl dX11_planned_17 ?_
      refine r_aload_n C 0 rfl rfl dX11_planned_55 ?_
      refine r_getf C 300 (by decide) rfl (fx_m rfl) (ly_300 cy _ _) rfl in_X11 40 (by decide) tw_935 (v := rf 326) rfl dX11_planned_56 ?_
      refine r_iload_n C 1 rfl rfl dX11_planned_59 ?_
      obtain ⟨g11, hf⟩ := of_g hf
      refine r_iald C 326 (by decide) rfl (fx_m rfl) 0 (cA := cy 0) (n := 5) (ly_326 cy _ _) rfl g11 (by decide) dX11_planned_60 ?_
      obtain ⟨rfl, rfl⟩ := of_ret hf
      exact r_iret C rfl (ho5 _ _) dX11_planned_61
    replace hf := if_f hf c10
    by_cases c12 : a2 = 2
    · replace hf := if_t hf c12
      refine r_swIn C 62 2 c12 (inR_lit rfl) (by decide) (by decide) rfl rfl dX11_planned_17 ?_
      refine r_aload_n C 0 rfl rfl dX11_planned_62 ?_
      refine r_getf C 300 (by decide) rfl (fx_m rfl) (ly_300 cy _ _) rfl in_X11 41 (by decide) tw_936 (v := rf 327) rfl dX11_planned_63 ?_
      refine r_iload_n C 1 rfl rfl dX11_planned_66 ?_
      obtain ⟨g13, hf⟩ := of_g hf
      refine r_iald C 327 (by decide) rfl (fx_m rfl) 0 (cA := cy 0) (n := 5) (ly_327 cy _ _) rfl g13 (by decide) dX11_planned_67 ?_
      obtain ⟨rfl, rfl⟩ := of_ret hf
      exact r_iret C rfl (ho5 _ _) dX11_planned_68
    replace hf := if_f hf c12
    by_cases c14 : a2 = 3
    · replace hf := if_t hf c14
      refine r_swIn C 69 3 c14 (inR_lit rfl) (by decide) (by decide) rfl rfl dX11_planned_17 ?_
      refine r_aload_n C 0 rfl rfl dX11_planned_69 ?_
      refine r_getf C 300 (by decide) rfl (fx_m rfl) (ly_300 cy _ _) rfl in_X11 42 (by decide) tw_937 (v := rf 328) rfl dX11_planned_70 ?_
      refine r_iload_n C 1 rfl rfl dX11_planned_73 ?_
      obtain ⟨g15, hf⟩ := of_g hf
      refine r_iald C 328 (by decide) rfl (fx_m rfl) 0 (cA := cy 0) (n := 5) (ly_328 cy _ _) rfl g15 (by decide) dX11_planned_74 ?_
      obtain ⟨rfl, rfl⟩ := of_ret hf
      exact r_iret C rfl (ho5 _ _) dX11_planned_75
    replace hf := if_f hf c14
    refine r_swOut C 76 h2 (by omega) rfl dX11_planned_17 ?_
    refine r_iconst C dX11_planned_76 ?_
    obtain ⟨rfl, rfl⟩ := of_ret hf
    exact r_iret C rfl (inR_lit rfl) dX11_planned_77
  · replace hf := if_t hf c7
    refine r_iconst C dX11_planned_14 ?_
    obtain ⟨rfl, rfl⟩ := of_ret hf
    exact r_iret C rfl (inR_lit rfl) dX11_planned_15
set_option maxHeartbeats 4000000 in
set_option maxRecDepth 100000 in
theorem c_X11_tally {l : Launch} {D : va_G} {cy : Nat → ClassId} {ids : List Nat} {ad : Nat → Nat} {μ μ' : Mem} {a1 a2 a3 a4 r : Int} (h1 : inR a1) (h2 : inR a2) (h3 : inR a3) (h4 : inR a4) (hf : f_X11_tally μ a1 a2 a3 a4 = some (r, μ')) : KK aI l D (tyl cy) (lay cy) ids ad 4 yX11_tally cX11_tally 5 (some .int) [rf 300, nu a1, nu a2, nu a3, nu a4] μ r μ' := by
  refine KK.of (by decide +kernel) (Nat.le_of_ble_eq_true rfl) ?_
  intro p e s m args below meth c A C hCF
  unfold f_X11_tally at hf
  refine V_in (fun ho0 _ => ?_)
  refine r_aload_n C 0 rfl rfl dX11_tally_0 ?_
  refine r_getf C 300 (by decide) rfl (fx_m rfl) (ly_300 cy _ _) rfl in_X11 45 (by decide) tw_940 (v := nu (μ 300 45)) rfl dX11_tally_1 ?_
  refine r_bipush C dX11_tally_4 rfl ?_
  refine r_icmp_eq C 51 (ho0 _ _) (inR_lit rfl) rfl dX11_tally_6 (fun c1 => ?_) (fun c1 => ?_)
  · replace hf := if_t hf c1
    refine r_iconst C dX11_tally_51 ?_
    obtain ⟨rfl, rfl⟩ := of_ret hf
    exact r_iret C rfl (inR_lit rfl) dX11_tally_52
  · replace hf := if_f hf c1
    refine r_iload_n C 1 rfl rfl dX11_tally_9 ?_
    refine r_iconst C dX11_tally_10 ?_
    refine r_iconst C dX11_tally_11 ?_
    obtain ⟨r2, μ3, hc4, hf⟩ := of_bd hf
    refine r_callSI C hCF (As := [nu a1, nu 0, nu 5]) (c_X11_in h1 (inR_lit rfl) (inR_lit rfl) hc4) rfl (by decide) (by decide) ⟨Nat.le_refl 0, Nat.le_refl 0⟩ tw_1063 tw_1065 tw_10 tw_1064 3 (by decide) rfl (Nat.le_of_ble_eq_true rfl) dX11_tally_12 (fun hr6 => ?_)
    refine V_in (fun ho5 _ => ?_)
    refine r_if_eq C 51 hr6 rfl dX11_tally_15 (fun c7 => ?_) (fun c7 => ?_)
    · replace hf := if_t hf c7
      refine r_iconst C dX11_tally_51 ?_
      obtain ⟨rfl, rfl⟩ := of_ret hf
      exact r_iret C rfl (inR_lit rfl) dX11_tally_52
    · replace hf := if_f hf c7
      refine r_iload_n C 2 rfl rfl dX11_tally_18 ?_
      refine r_iconst C dX11_tally_19 ?_
      refine r_sipush C dX11_tally_20 rfl ?_
      obtain ⟨r8, μ9, hc10, hf⟩ := of_bd hf
      refine r_callSI C hCF (As := [nu a2, nu 0, nu 3000]) (c_X11_in h2 (inR_lit rfl) (inR_lit rfl) hc10) rfl (by decide) (by decide) ⟨Nat.le_refl 0, Nat.le_refl 0⟩ tw_1063 tw_1065 tw_10 tw_1064 3 (by decide) rfl (Nat.le_of_ble_eq_true rfl) dX11_tally_23 (fun hr12 => ?_)
      refine V_in (fun ho11 _ => ?_)
      refine r_if_eq C 51 hr12 rfl dX11_tally_26 (fun c13 => ?_) (fun c13 => ?_)
      · replace hf := if_t hf c13
        refine r_iconst C dX11_tally_51 ?_
        obtain ⟨rfl, rfl⟩ := of_ret hf
        exact r_iret C rfl (inR_lit rfl) dX11_tally_52
      · replace hf := if_f hf c13
        refine r_iload_n C 3 rfl rfl dX11_tally_29 ?_
        refine r_iload_n C 2 rfl rfl dX11_tally_30 ?_
        refine r_sipush C dX11_tally_31 rfl ?_
        obtain ⟨r14, μ15, hc16, hf⟩ := of_bd hf
        refine r_callSI C hCF (As := [nu a3, nu a2, nu 3000]) (c_X11_in h3 h2 (inR_lit rfl) hc16) rfl (by decide) (by decide) ⟨Nat.le_refl 0, Nat.le_refl 0⟩ tw_1063 tw_1065 tw_10 tw_1064 3 (by decide) rfl (Nat.le_of_ble_eq_true rfl) dX11_tally_34 (fun hr18 => ?_)
        refine V_in (fun ho17 _ => ?_)
        refine r_if_eq C 51 hr18 rfl dX11_tally_37 (fun c19 => ?_) (fun c19 => ?_)
        · replace hf := if_t hf c19
          refine r_iconst C dX11_tally_51 ?_
          obtain ⟨rfl, rfl⟩ := of_ret hf
          exact r_iret C rfl (inR_lit rfl) dX11_tally_52
        · replace hf := if_f hf c19
          refine r_iload C rfl dX11_tally_40 ?_
          refine r_iconst C dX11_tally_42 ?_
          refine r_bipush C dX11_tally_43 rfl ?_
          obtain ⟨r20, μ21, hc22, hf⟩ := of_bd hf
          refine r_callSI C hCF (As := [nu a4, nu 0, nu 30]) (c_X11_in h4 (inR_lit rfl) (inR_lit rfl) hc22) rfl (by decide) (by decide) ⟨Nat.le_refl 0, Nat.le_refl 0⟩ tw_1063 tw_1065 tw_10 tw_1064 3 (by decide) rfl (Nat.le_of_ble_eq_true rfl) dX11_tally_45 (fun hr24 => ?_)
          refine V_in (fun ho23 _ => ?_)
          refine r_if_ne C 53 hr24 rfl dX11_tally_48 (fun c25 => ?_) (fun c25 => ?_)
          · replace hf := if_f hf c25
            refine r_aload_n C 0 rfl rfl dX11_tally_53 ?_
            refine r_getf C 300 (by decide) rfl (fx_m rfl) (ly_300 cy _ _) rfl in_X11 46 (by decide) tw_941 (v := rf 331) rfl dX11_tally_54 ?_
            refine r_aload_n C 0 rfl rfl dX11_tally_57 ?_
            refine r_getf C 300 (by decide) rfl (fx_m rfl) (ly_300 cy _ _) rfl in_X11 45 (by decide) tw_940 (v := nu (μ21 300 45)) rfl dX11_tally_58 ?_
            refine r_iload_n C 1 rfl rfl dX11_tally_61 ?_
            obtain ⟨g26, hf⟩ := of_g hf
            refine r_iast C 331 (by decide) rfl (fx_m rfl) (by decide) 0 (cA := cy 0) (n := 20) (fun f => ly_331 cy _ f) rfl g26 (by decide) h1 dX11_tally_62 (fun μ27 hμ29 => ?_)
            replace hf := of_lm hf hμ29
            refine V_in (fun ho28 _ => ?_)
            refine r_aload_n C 0 rfl rfl dX11_tally_63 ?_
            refine r_getf C 300 (by decide) rfl (fx_m rfl) (ly_300 cy _ _) rfl in_X11 47 (by decide) tw_942 (v := rf 332) rfl dX11_tally_64 ?_
            refine r_aload_n C 0 rfl rfl dX11_tally_67 ?_
            refine r_getf C 300 (by decide) rfl (fx_m rfl) (ly_300 cy _ _) rfl in_X11 45 (by decide) tw_940 (v := nu (μ27 300 45)) rfl dX11_tally_68 ?_
            refine r_iload_n C 2 rfl rfl dX11_tally_71 ?_
            obtain ⟨g30, hf⟩ := of_g hf
            refine r_iast C 332 (by decide) rfl (fx_m rfl) (by decide) 0 (cA := cy 0) (n := 20) (fun f => ly_332 cy _ f) rfl g30 (by decide) h2 dX11_tally_72 (fun μ31 hμ33 => ?_)
            replace hf := of_lm hf hμ33
            refine V_in (fun ho32 _ => ?_)
            refine r_aload_n C 0 rfl rfl dX11_tally_73 ?_
            refine r_getf C 300 (by decide) rfl (fx_m rfl) (ly_300 cy _ _) rfl in_X11 48 (by decide) tw_943 (v := rf 333) rfl dX11_tally_74 ?_
            refine r_aload_n C 0 rfl rfl dX11_tally_77 ?_
            refine r_getf C 300 (by decide) rfl (fx_m rfl) (ly_300 cy _ _) rfl in_X11 45 (by decide) tw_940 (v := nu (μ31 300 45)) rfl dX11_tally_78 ?_
            refine r_iload_n C 3 rfl rfl dX11_tally_81 ?_
            obtain ⟨g34, hf⟩ := of_g hf
            refine r_iast C 333 (by decide) rfl (fx_m rfl) (by decide) 0 (cA := cy 0) (n := 20) (fun f => ly_333 cy _ f) rfl g34 (by decide) h3 dX11_tally_82 (fun μ35 hμ37 => ?_)
            replace hf := of_lm hf hμ37
            refine V_in (fun ho36 _ => ?_)
            refine r_aload_n C 0 rfl rfl dX11_tally_83 ?_
            refine r_getf C 300 (by decide) rfl (fx_m rfl) (ly_300 cy _ _) rfl in_X11 49 (by decide) tw_944 (v := rf 334) rfl dX11_tally_84 ?_
            refine r_aload_n C 0 rfl rfl dX11_tally_87 ?_
            refine r_getf C 300 (by decide) rfl (fx_m rfl) (ly_300 cy _ _) rfl in_X11 45 (by decide) tw_940 (v := nu (μ35 300 45)) rfl dX11_tally_88 ?_
            refine r_iload C rfl dX11_tally_91 ?_
            obtain ⟨g38, hf⟩ := of_g hf
            refine r_iast C 334 (by decide) rfl (fx_m rfl) (by decide) 0 (cA := cy 0) (n := 20) (fun f => ly_334 cy _ f) rfl g38 (by decide) h4 dX11_tally_93 (fun μ39 hμ41 => ?_)
            replace hf := of_lm hf hμ41
            refine V_in (fun ho40 _ => ?_)
            refine r_aload_n C 0 rfl rfl dX11_tally_94 ?_
            refine r_dup C dX11_tally_95 ?_
            refine r_getf C 300 (by decide) rfl (fx_m rfl) (ly_300 cy _ _) rfl in_X11 45 (by decide) tw_940 (v := nu (μ39 300 45)) rfl dX11_tally_96 ?_
            refine r_iconst C dX11_tally_99 ?_
            refine r_iadd C dX11_tally_100 ?_
            obtain ⟨g42, hf⟩ := of_g hf
            refine r_putf C 300 (by decide) rfl (fx_m rfl) (by decide) (ly_300 cy _ _) 45 (ly_300 cy _ _) rfl (Nat.le_of_ble_eq_true rfl) g42 rfl in_X11 tyX11 tyX11_ok nmX11 (by decide) tw_940 rfl rfl dX11_tally_101 (fun μ43 hμ45 => ?_)
            replace hf := of_lm hf hμ45
            refine V_in (fun ho44 _ => ?_)
            refine r_aload_n C 0 rfl rfl dX11_tally_104 ?_
            refine r_getf C 300 (by decide) rfl (fx_m rfl) (ly_300 cy _ _) rfl in_X11 45 (by decide) tw_940 (v := nu (μ43 300 45)) rfl dX11_tally_105 ?_
            refine r_iconst C dX11_tally_108 ?_
            refine r_isub C dX11_tally_109 ?_
            obtain ⟨g46, hf⟩ := of_g hf
            obtain ⟨rfl, rfl⟩ := of_ret hf
            exact r_iret C rfl g46 dX11_tally_110
          · replace hf := if_t hf c25
            refine r_iconst C dX11_tally_51 ?_
            obtain ⟨rfl, rfl⟩ := of_ret hf
            exact r_iret C rfl (inR_lit rfl) dX11_tally_52
set_option maxHeartbeats 4000000 in
set_option maxRecDepth 100000 in
theorem w_X11_isTrue_20 {p : Program} {l : Launch} {e : Env} {s : State} {m : MethodId} {args : Array Value} {below : List Frame} {meth : Method} {c : Code} {D : va_G} {cy : Nat → ClassId} {A : Nat → Prop} {ids : List Nat} {ad : Nat → Nat} {r : Int} {μ' : Mem} (C : Cx p s m args meth c D (tyl cy) A 4 cX11_isTrue yX11_isTrue.cls (some .int)) (hCF : CF ad A s) : ∀ n : Nat, ∀ (v1 v2 v3 : Int) (μ : Mem), inR v1 → inR v2 → inR v3 → f_X11_isTrue_20   n v1 v2 v3 μ = some (r, μ') → V p l e (rmk 4) s m args below meth c 0 0 (MQ below (aI D (tyl cy) (lay cy) ids ad A r μ') args s 0 0 A) D A (lay cy) ids ad 4 μ 20 [some (rf 300), some (nu v1), some (nu v2), some (nu v3)] [] := by
  intro n
  induction n with
  | zero =>
    intro v1 v2 v3 μ hv1 hv2 hv3 hf
    cases hf
  | succ n ih =>
    intro v1 v2 v3 μ hv1 hv2 hv3 hf
    rw [f_X11_isTrue_20_e] at hf
    refine V_in (fun ho0 _ => ?_)
    refine r_iload_n C 3 rfl rfl dX11_isTrue_20 ?_
    refine r_aload_n C 0 rfl rfl dX11_isTrue_21 ?_
    refine r_getf C 300 (by decide) rfl (fx_m rfl) (ly_300 cy _ _) rfl in_X11 26 (by decide) tw_921 (v := nu (μ 300 26)) rfl dX11_isTrue_22 ?_
    refine r_icmp_ge C 91 hv3 (ho0 _ _) rfl dX11_isTrue_25 (fun c1 => ?_) (fun c1 => ?_)
    · replace hf := if_t hf c1
      refine r_iload_n C 2 rfl rfl dX11_isTrue_91 ?_
      refine r_aload_n C 0 rfl rfl dX11_isTrue_92 ?_
      refine r_getf C 300 (by decide) rfl (fx_m rfl) (ly_300 cy _ _) rfl in_X11 49 (by decide) tw_944 (v := rf 334) rfl dX11_isTrue_93 ?_
      refine r_iload_n C 1 rfl rfl dX11_isTrue_96 ?_
      obtain ⟨g2, hf⟩ := of_g hf
      refine r_iald C 334 (by decide) rfl (fx_m rfl) 0 (cA := cy 0) (n := 20) (ly_334 cy _ _) rfl g2 (by decide) dX11_isTrue_97 ?_
      refine r_icmp_ne C 105 hv2 (ho0 _ _) rfl dX11_isTrue_98 (fun c3 => ?_) (fun c3 => ?_)
      · replace hf := if_f hf c3
        refine r_iconst C dX11_isTrue_105 ?_
        obtain ⟨rfl, rfl⟩ := of_ret hf
        exact r_iret C rfl (inR_lit rfl) dX11_isTrue_106
      · replace hf := if_t hf c3
        refine r_iconst C dX11_isTrue_101 ?_
        refine r_goto C 106 rfl dX11_isTrue_102 ?_
        obtain ⟨rfl, rfl⟩ := of_ret hf
        exact r_iret C rfl (inR_lit rfl) dX11_isTrue_106
    · replace hf := if_f hf c1
      refine r_iload_n C 2 rfl rfl dX11_isTrue_28 ?_
      refine r_aload_n C 0 rfl rfl dX11_isTrue_29 ?_
      refine r_getf C 300 (by decide) rfl (fx_m rfl) (ly_300 cy _ _) rfl in_X11 29 (by decide) tw_924 (v := rf 317) rfl dX11_isTrue_30 ?_
      refine r_iload_n C 3 rfl rfl dX11_isTrue_33 ?_
      obtain ⟨g4, hf⟩ := of_g hf
      refine r_iald C 317 (by decide) rfl (fx_m rfl) 0 (cA := cy 0) (n := 30) (ly_317 cy _ _) rfl g4 (by decide) dX11_isTrue_34 ?_
      refine r_iconst C dX11_isTrue_35 ?_
      refine r_icmp_ne C 82 (ho0 _ _) (inR_lit rfl) rfl dX11_isTrue_36 (fun c5 => ?_) (fun c5 => ?_)
      · replace hf := if_f hf c5
        refine r_iconst C dX11_isTrue_82 ?_
        refine r_iadd C dX11_isTrue_83 ?_
        refine r_istore_n C 2 (lw := [some (rf 300), some (nu v1), some (nu (v2 + 0)), some (nu v3)]) rfl rfl (by decide) dX11_isTrue_84 ?_
        refine r_iinc C rfl (lw := [some (rf 300), some (nu v1), some (nu (v2 + 0)), some (nu (v3 + 1))]) rfl (by decide) dX11_isTrue_85 ?_
        refine r_goto C 20 rfl dX11_isTrue_88 ?_
        obtain ⟨g6, hf⟩ := of_g hf
        obtain ⟨g7, hf⟩ := of_g hf
        exact V_lw (ih v1 (v2 + 0) (v3 + 1) μ hv1 g6 g7 hf) (And.intro rfl (And.intro rfl (And.intro rfl (And.intro rfl trivial))))
      · replace hf := if_t hf c5
        refine r_aload_n C 0 rfl rfl dX11_isTrue_39 ?_
        refine r_getf C 300 (by decide) rfl (fx_m rfl) (ly_300 cy _ _) rfl in_X11 30 (by decide) tw_925 (v := rf 318) rfl dX11_isTrue_40 ?_
        refine r_iload_n C 3 rfl rfl dX11_isTrue_43 ?_
        refine r_iald C 318 (by decide) rfl (fx_m rfl) 0 (cA := cy 0) (n := 30) (ly_318 cy _ _) rfl g4 (by decide) dX11_isTrue_44 ?_
        refine r_aload_n C 0 rfl rfl dX11_isTrue_45 ?_
        refine r_getf C 300 (by decide) rfl (fx_m rfl) (ly_300 cy _ _) rfl in_X11 46 (by decide) tw_941 (v := rf 331) rfl dX11_isTrue_46 ?_
        refine r_iload_n C 1 rfl rfl dX11_isTrue_49 ?_
        obtain ⟨g8, hf⟩ := of_g hf
        refine r_iald C 331 (by decide) rfl (fx_m rfl) 0 (cA := cy 0) (n := 20) (ly_331 cy _ _) rfl g8 (by decide) dX11_isTrue_50 ?_
        refine r_icmp_ne C 82 (ho0 _ _) (ho0 _ _) rfl dX11_isTrue_51 (fun c9 => ?_) (fun c9 => ?_)
        · replace hf := if_f hf c9
          refine r_iconst C dX11_isTrue_82 ?_
          refine r_iadd C dX11_isTrue_83 ?_
          refine r_istore_n C 2 (lw := [some (rf 300), some (nu v1), some (nu (v2 + 0)), some (nu v3)]) rfl rfl (by decide) dX11_isTrue_84 ?_
          refine r_iinc C rfl (lw := [some (rf 300), some (nu v1), some (nu (v2 + 0)), some (nu (v3 + 1))]) rfl (by decide) dX11_isTrue_85 ?_
          refine r_goto C 20 rfl dX11_isTrue_88 ?_
          obtain ⟨g10, hf⟩ := of_g hf
          obtain ⟨g11, hf⟩ := of_g hf
          exact V_lw (ih v1 (v2 + 0) (v3 + 1) μ hv1 g10 g11 hf) (And.intro rfl (And.intro rfl (And.intro rfl (And.intro rfl trivial))))
        · replace hf := if_t hf c9
          refine r_aload_n C 0 rfl rfl dX11_isTrue_54 ?_
          refine r_getf C 300 (by decide) rfl (fx_m rfl) (ly_300 cy _ _) rfl in_X11 31 (by decide) tw_926 (v := rf 319) rfl dX11_isTrue_55 ?_
          refine r_iload_n C 3 rfl rfl dX11_isTrue_58 ?_
          refine r_iald C 319 (by decide) rfl (fx_m rfl) 0 (cA := cy 0) (n := 30) (ly_319 cy _ _) rfl g4 (by decide) dX11_isTrue_59 ?_
          refine r_aload_n C 0 rfl rfl dX11_isTrue_60 ?_
          refine r_getf C 300 (by decide) rfl (fx_m rfl) (ly_300 cy _ _) rfl in_X11 47 (by decide) tw_942 (v := rf 332) rfl dX11_isTrue_61 ?_
          refine r_iload_n C 1 rfl rfl dX11_isTrue_64 ?_
          refine r_iald C 332 (by decide) rfl (fx_m rfl) 0 (cA := cy 0) (n := 20) (ly_332 cy _ _) rfl g8 (by decide) dX11_isTrue_65 ?_
          refine r_aload_n C 0 rfl rfl dX11_isTrue_66 ?_
          refine r_getf C 300 (by decide) rfl (fx_m rfl) (ly_300 cy _ _) rfl in_X11 48 (by decide) tw_943 (v := rf 333) rfl dX11_isTrue_67 ?_
          refine r_iload_n C 1 rfl rfl dX11_isTrue_70 ?_
          refine r_iald C 333 (by decide) rfl (fx_m rfl) 0 (cA := cy 0) (n := 20) (ly_333 cy _ _) rfl g8 (by decide) dX11_isTrue_71 ?_
          obtain ⟨r12, μ13, hc14, hf⟩ := of_bd hf
          refine r_callSI C hCF (As := [nu (μ 319 v3.toNat), nu (μ 332 v1.toNat), nu (μ 333 v1.toNat)]) (c_X11_in (ho0 _ _) (ho0 _ _) (ho0 _ _) hc14) rfl (by decide) (by decide) ⟨Nat.le_refl 0, Nat.le_refl 0⟩ tw_1063 tw_1065 tw_10 tw_1064 3 (by decide) rfl (Nat.le_of_ble_eq_true rfl) dX11_isTrue_72 (fun hr16 => ?_)
          refine V_in (fun ho15 _ => ?_)
          refine r_if_eq C 82 hr16 rfl dX11_isTrue_75 (fun c17 => ?_) (fun c17 => ?_)
          · replace hf := if_t hf c17
            refine r_iconst C dX11_isTrue_82 ?_
            refine r_iadd C dX11_isTrue_83 ?_
            refine r_istore_n C 2 (lw := [some (rf 300), some (nu v1), some (nu (v2 + 0)), some (nu v3)]) rfl rfl (by decide) dX11_isTrue_84 ?_
            refine r_iinc C rfl (lw := [some (rf 300), some (nu v1), some (nu (v2 + 0)), some (nu (v3 + 1))]) rfl (by decide) dX11_isTrue_85 ?_
            refine r_goto C 20 rfl dX11_isTrue_88 ?_
            obtain ⟨g18, hf⟩ := of_g hf
            obtain ⟨g19, hf⟩ := of_g hf
            exact V_lw (ih v1 (v2 + 0) (v3 + 1) μ13 hv1 g18 g19 hf) (And.intro rfl (And.intro rfl (And.intro rfl (And.intro rfl trivial))))
          · replace hf := if_f hf c17
            refine r_iconst C dX11_isTrue_78 ?_
            refine r_goto C 83 rfl dX11_isTrue_79 ?_
            refine r_iadd C dX11_isTrue_83 ?_
            refine r_istore_n C 2 (lw := [some (rf 300), some (nu v1), some (nu (v2 + 1)), some (nu v3)]) rfl rfl (by decide) dX11_isTrue_84 ?_
            refine r_iinc C rfl (lw := [some (rf 300), some (nu v1), some (nu (v2 + 1)), some (nu (v3 + 1))]) rfl (by decide) dX11_isTrue_85 ?_
            refine r_goto C 20 rfl dX11_isTrue_88 ?_
            obtain ⟨g20, hf⟩ := of_g hf
            obtain ⟨g21, hf⟩ := of_g hf
            exact V_lw (ih v1 (v2 + 1) (v3 + 1) μ13 hv1 g20 g21 hf) (And.intro rfl (And.intro rfl (And.intro rfl (And.intro rfl trivial))))
set_option maxHeartbeats 4000000 in
set_option maxRecDepth 100000 in
theorem c_X11_isTrue {l : Launch} {D : va_G} {cy : Nat → ClassId} {ids : List Nat} {ad : Nat → Nat} {μ μ' : Mem} {a1 r : Int} (h1 : inR a1) (hf : f_X11_isTrue μ a1 = some (r, μ')) : KK aI l D (tyl cy) (lay cy) ids ad 4 yX11_isTrue cX11_isTrue 4 (some .int) [rf 300, nu a1] μ r μ' := by
  refine KK.of (by decide +kernel) (Nat.le_of_ble_eq_true rfl) ?_
  intro p e s m args below meth c A C hCF
  unfold f_X11_isTrue at hf
  refine V_in (fun ho0 _ => ?_)
  refine r_iload_n C 1 rfl rfl dX11_isTrue_0 ?_
  refine r_iconst C dX11_isTrue_1 ?_
  refine r_aload_n C 0 rfl rfl dX11_isTrue_2 ?_
  refine r_getf C 300 (by decide) rfl (fx_m rfl) (ly_300 cy _ _) rfl in_X11 45 (by decide) tw_940 (v := nu (μ 300 45)) rfl dX11_isTrue_3 ?_
  refine r_iconst C dX11_isTrue_6 ?_
  refine r_isub C dX11_isTrue_7 ?_
  obtain ⟨g1, hf⟩ := of_g hf
  obtain ⟨r2, μ3, hc4, hf⟩ := of_bd hf
  refine r_callSI C hCF (As := [nu a1, nu 0, nu ((μ 300 45) - 1)]) (c_X11_in h1 (inR_lit rfl) g1 hc4) rfl (by decide) (by decide) ⟨Nat.le_refl 0, Nat.le_refl 0⟩ tw_1063 tw_1065 tw_10 tw_1064 3 (by decide) rfl (Nat.le_of_ble_eq_true rfl) dX11_isTrue_8 (fun hr6 => ?_)
  refine V_in (fun ho5 _ => ?_)
  refine r_if_ne C 16 hr6 rfl dX11_isTrue_11 (fun c7 => ?_) (fun c7 => ?_)
  · replace hf := if_f hf c7
    refine r_iconst C dX11_isTrue_16 ?_
    refine r_istore_n C 2 (lw := [some (rf 300), some (nu a1), some (nu 0), none]) rfl rfl (by decide) dX11_isTrue_17 ?_
    refine r_iconst C dX11_isTrue_18 ?_
    refine r_istore_n C 3 (lw := [some (rf 300), some (nu a1), some (nu 0), some (nu 0)]) rfl rfl (by decide) dX11_isTrue_19 ?_
    exact V_lw (w_X11_isTrue_20 C hCF 64 a1 0 0 μ3 h1 (inR_lit rfl) (inR_lit rfl) hf) (And.intro rfl (And.intro rfl (And.intro rfl (And.intro rfl trivial))))
  · replace hf := if_t hf c7
    refine r_iconst C dX11_isTrue_14 ?_
    obtain ⟨rfl, rfl⟩ := of_ret hf
    exact r_iret C rfl (inR_lit rfl) dX11_isTrue_15
set_option maxHeartbeats 4000000 in
set_option maxRecDepth 100000 in
theorem w_X11_pointOf_2 {p : Program} {l : Launch} {e : Env} {s : State} {m : MethodId} {args : Array Value} {below : List Frame} {meth : Method} {c : Code} {D : va_G} {cy : Nat → ClassId} {A : Nat → Prop} {ids : List Nat} {ad : Nat → Nat} {r : Int} {μ' : Mem} (C : Cx p s m args meth c D (tyl cy) A 3 cX11_pointOf yX11_pointOf.cls (some .int)) (hCF : CF ad A s) : ∀ n : Nat, ∀ (v1 v2 : Int) (μ : Mem), inR v1 → inR v2 → f_X11_pointOf_2   n v1 v2 μ = some (r, μ') → V p l e (rmk 2) s m args below meth c 0 0 (MQ below (aI D (tyl cy) (lay cy) ids ad A r μ') args s 0 0 A) D A (lay cy) ids ad 3 μ 2 [some (rf 300), some (nu v1), some (nu v2)] [] := by
  intro n
  induction n with
  | zero =>
    intro v1 v2 μ hv1 hv2 hf
    cases hf
  | succ n ih =>
    intro v1 v2 μ hv1 hv2 hf
    rw [f_X11_pointOf_2_e] at hf
    refine V_in (fun ho0 _ => ?_)
    refine r_iload_n C 2 rfl rfl dX11_pointOf_2 ?_
    refine r_aload_n C 0 rfl rfl dX11_pointOf_3 ?_
    refine r_getf C 300 (by decide) rfl (fx_m rfl) (ly_300 cy _ _) rfl in_X11 51 (by decide) tw_946 (v := nu (μ 300 51)) rfl dX11_pointOf_4 ?_
    refine r_icmp_ge C 28 hv2 (ho0 _ _) rfl dX11_pointOf_7 (fun c1 => ?_) (fun c1 => ?_)
    · replace hf := if_t hf c1
      refine r_aload_n C 0 rfl rfl dX11_pointOf_28 ?_
      refine r_getf C 300 (by decide) rfl (fx_m rfl) (ly_300 cy _ _) rfl in_X11 52 (by decide) tw_947 (v := rf 336) rfl dX11_pointOf_29 ?_
      refine r_aload_n C 0 rfl rfl dX11_pointOf_32 ?_
      refine r_getf C 300 (by decide) rfl (fx_m rfl) (ly_300 cy _ _) rfl in_X11 51 (by decide) tw_946 (v := nu (μ 300 51)) rfl dX11_pointOf_33 ?_
      refine r_iload_n C 1 rfl rfl dX11_pointOf_36 ?_
      obtain ⟨g2, hf⟩ := of_g hf
      refine r_iast C 336 (by decide) rfl (fx_m rfl) (by decide) 0 (cA := cy 0) (n := 40) (fun f => ly_336 cy _ f) rfl g2 (by decide) hv1 dX11_pointOf_37 (fun μ3 hμ5 => ?_)
      replace hf := of_lm hf hμ5
      refine V_in (fun ho4 _ => ?_)
      refine r_aload_n C 0 rfl rfl dX11_pointOf_38 ?_
      refine r_dup C dX11_pointOf_39 ?_
      refine r_getf C 300 (by decide) rfl (fx_m rfl) (ly_300 cy _ _) rfl in_X11 51 (by decide) tw_946 (v := nu (μ3 300 51)) rfl dX11_pointOf_40 ?_
      refine r_iconst C dX11_pointOf_43 ?_
      refine r_iadd C dX11_pointOf_44 ?_
      obtain ⟨g6, hf⟩ := of_g hf
      refine r_putf C 300 (by decide) rfl (fx_m rfl) (by decide) (ly_300 cy _ _) 51 (ly_300 cy _ _) rfl (Nat.le_of_ble_eq_true rfl) g6 rfl in_X11 tyX11 tyX11_ok nmX11 (by decide) tw_946 rfl rfl dX11_pointOf_45 (fun μ7 hμ9 => ?_)
      replace hf := of_lm hf hμ9
      refine V_in (fun ho8 _ => ?_)
      refine r_aload_n C 0 rfl rfl dX11_pointOf_48 ?_
      refine r_getf C 300 (by decide) rfl (fx_m rfl) (ly_300 cy _ _) rfl in_X11 51 (by decide) tw_946 (v := nu (μ7 300 51)) rfl dX11_pointOf_49 ?_
      refine r_iconst C dX11_pointOf_52 ?_
      refine r_isub C dX11_pointOf_53 ?_
      obtain ⟨g10, hf⟩ := of_g hf
      obtain ⟨rfl, rfl⟩ := of_ret hf
      exact r_iret C rfl g10 dX11_pointOf_54
    · replace hf := if_f hf c1
      refine r_aload_n C 0 rfl rfl dX11_pointOf_10 ?_
      refine r_getf C 300 (by decide) rfl (fx_m rfl) (ly_300 cy _ _) rfl in_X11 52 (by decide) tw_947 (v := rf 336) rfl dX11_pointOf_11 ?_
      refine r_iload_n C 2 rfl rfl dX11_pointOf_14 ?_
      obtain ⟨g11, hf⟩ := of_g hf
      refine r_iald C 336 (by decide) rfl (fx_m rfl) 0 (cA := cy 0) (n := 40) (ly_336 cy _ _) rfl g11 (by decide) dX11_pointOf_15 ?_
      refine r_iload_n C 1 rfl rfl dX11_pointOf_16 ?_
      refine r_icmp_ne C 22 (ho0 _ _) hv1 rfl dX11_pointOf_17 (fun c12 => ?_) (fun c12 => ?_)
      · replace hf := if_f hf c12
        refine r_iinc C rfl (lw := [some (rf 300), some (nu v1), some (nu (v2 + 1))]) rfl (by decide) dX11_pointOf_22 ?_
        refine r_goto C 2 rfl dX11_pointOf_25 ?_
        obtain ⟨g13, hf⟩ := of_g hf
        exact V_lw (ih v1 (v2 + 1) μ hv1 g13 hf) (And.intro rfl (And.intro rfl (And.intro rfl trivial)))
      · replace hf := if_t hf c12
        refine r_iload_n C 2 rfl rfl dX11_pointOf_20 ?_
        obtain ⟨rfl, rfl⟩ := of_ret hf
        exact r_iret C rfl hv2 dX11_pointOf_21
set_option maxHeartbeats 4000000 in
set_option maxRecDepth 100000 in
theorem c_X11_pointOf {l : Launch} {D : va_G} {cy : Nat → ClassId} {ids : List Nat} {ad : Nat → Nat} {μ μ' : Mem} {a1 r : Int} (h1 : inR a1) (hf : f_X11_pointOf μ a1 = some (r, μ')) : KK aI l D (tyl cy) (lay cy) ids ad 2 yX11_pointOf cX11_pointOf 3 (some .int) [rf 300, nu a1] μ r μ' := by
  refine KK.of (by decide +kernel) (Nat.le_of_ble_eq_true rfl) ?_
  intro p e s m args below meth c A C hCF
  unfold f_X11_pointOf at hf
  refine V_in (fun ho0 _ => ?_)
  refine r_iconst C dX11_pointOf_0 ?_
  refine r_istore_n C 2 (lw := [some (rf 300), some (nu a1), some (nu 0)]) rfl rfl (by decide) dX11_pointOf_1 ?_
  exact V_lw (w_X11_pointOf_2 C hCF 64 a1 0 μ h1 (inR_lit rfl) hf) (And.intro rfl (And.intro rfl (And.intro rfl trivial)))
set_option maxHeartbeats 4000000 in
set_option maxRecDepth 100000 in
theorem w_X11_canBe_416 {p : Program} {l : Launch} {e : Env} {s : State} {m : MethodId} {args : Array Value} {below : List Frame} {meth : Method} {c : Code} {D : va_G} {cy : Nat → ClassId} {A : Nat → Prop} {ids : List Nat} {ad : Nat → Nat} {r : Int} {μ' : Mem} (C : Cx p s m args meth c D (tyl cy) A 6 cX11_canBe yX11_canBe.cls (some .boolean)) (hCF : CF ad A s) (k280 : Int → Mem → Option (Int × Mem)) (hk280 : ∀ (v2 : Int) (μ : Mem), inR v2 → k280 v2 μ = some (r, μ') → V p l e (rmk 4) s m args below meth c 0 0 (MQ below (aI D (tyl cy) (lay cy) ids ad A r μ') args s 0 0 A) D A (lay cy) ids ad 6 μ 280 [some (rf 300), none, some (nu v2), none, none, none] []) : ∀ n : Nat, ∀ (v2 v3 : Int) (μ : Mem), inR v2 → inR v3 → f_X11_canBe_416  k280 n v2 v3 μ = some (r, μ') → V p l e (rmk 4) s m args below meth c 0 0 (MQ below (aI D (tyl cy) (lay cy) ids ad A r μ') args s 0 0 A) D A (lay cy) ids ad 6 μ 416 [some (rf 300), none, some (nu v2), some (nu v3), none, none] [] := by
  intro n
  induction n with
  | zero =>
    intro v2 v3 μ hv2 hv3 hf
    cases hf
  | succ n ih =>
    intro v2 v3 μ hv2 hv3 hf
    rw [f_X11_canBe_416_e] at hf
    refine V_in (fun ho0 _ => ?_)
    refine r_iload_n C 3 rfl rfl dX11_canBe_416 ?_
    refine r_aload_n C 0 rfl rfl dX11_canBe_417 ?_
    refine r_getf C 300 (by decide) rfl (fx_m rfl) (ly_300 cy _ _) rfl in_X11 51 (by decide) tw_946 (v := nu (μ 300 51)) rfl dX11_canBe_418 ?_
    refine r_icmp_ge C 443 hv3 (ho0 _ _) rfl dX11_canBe_421 (fun c1 => ?_) (fun c1 => ?_)
    · replace hf := if_t hf c1
      refine r_iinc C rfl (lw := [some (rf 300), none, some (nu (v2 + 1)), some (nu v3), none, none]) rfl (by decide) dX11_canBe_443 ?_
      refine r_goto C 280 rfl dX11_canBe_446 ?_
      obtain ⟨g2, hf⟩ := of_g hf
      exact V_lw (hk280 (v2 + 1) μ g2 hf) (And.intro rfl (And.intro rfl trivial))
    · replace hf := if_f hf c1
      refine r_aload_n C 0 rfl rfl dX11_canBe_424 ?_
      refine r_getf C 300 (by decide) rfl (fx_m rfl) (ly_300 cy _ _) rfl in_X11 53 (by decide) tw_948 (v := rf 337) rfl dX11_canBe_425 ?_
      refine r_iload_n C 3 rfl rfl dX11_canBe_428 ?_
      obtain ⟨g3, hf⟩ := of_g hf
      refine r_aald C 337 (by decide) rfl (fx_m rfl) 5 (cA := cy 5) (n := 40) (ly_337 cy _ _) rfl rfl g3 (by decide) dX11_canBe_429 ?_
      refine r_iload_n C 3 rfl rfl dX11_canBe_430 ?_
      refine r_iald C _ (row0 (b := 338)) rfl (ba_r338 (rowz g3)) 0 (cA := cy 0) (n := 40) (ly_r338 cy _ (rowz g3) _) rfl g3 (by decide) dX11_canBe_431 ?_
      refine r_if_ge C 437 (ho0 _ _) rfl dX11_canBe_432 (fun c4 => ?_) (fun c4 => ?_)
      · replace hf := if_t hf c4
        refine r_iinc C rfl (lw := [some (rf 300), none, some (nu v2), some (nu (v3 + 1)), none, none]) rfl (by decide) dX11_canBe_437 ?_
        refine r_goto C 416 rfl dX11_canBe_440 ?_
        obtain ⟨g5, hf⟩ := of_g hf
        exact V_lw (ih v2 (v3 + 1) μ hv2 g5 hf) (And.intro rfl (And.intro rfl (And.intro rfl trivial)))
      · replace hf := if_f hf c4
        refine r_iconst C dX11_canBe_435 ?_
        obtain ⟨rfl, rfl⟩ := of_ret hf
        exact r_zret C rfl (by decide) dX11_canBe_436
set_option maxHeartbeats 4000000 in
set_option maxRecDepth 100000 in
theorem w_X11_canBe_363 {p : Program} {l : Launch} {e : Env} {s : State} {m : MethodId} {args : Array Value} {below : List Frame} {meth : Method} {c : Code} {D : va_G} {cy : Nat → ClassId} {A : Nat → Prop} {ids : List Nat} {ad : Nat → Nat} {r : Int} {μ' : Mem} (C : Cx p s m args meth c D (tyl cy) A 6 cX11_canBe yX11_canBe.cls (some .boolean)) (hCF : CF ad A s) (k280 : Int → Mem → Option (Int × Mem)) (hk280 : ∀ (v2 : Int) (μ : Mem), inR v2 → k280 v2 μ = some (r, μ') → V p l e (rmk 4) s m args below meth c 0 0 (MQ below (aI D (tyl cy) (lay cy) ids ad A r μ') args s 0 0 A) D A (lay cy) ids ad 6 μ 280 [some (rf 300), none, some (nu v2), none, none, none] []) (k290 : Int → Int → Mem → Option (Int × Mem)) (hk290 : ∀ (v2 v3 : Int) (μ : Mem), inR v2 → inR v3 → k290 v2 v3 μ = some (r, μ') → V p l e (rmk 4) s m args below meth c 0 0 (MQ below (aI D (tyl cy) (lay cy) ids ad A r μ') args s 0 0 A) D A (lay cy) ids ad 6 μ 290 [some (rf 300), none, some (nu v2), some (nu v3), none, none] []) (k301 : Int → Int → Int → Mem → Option (Int × Mem)) (hk301 : ∀ (v2 v3 v4 : Int) (μ : Mem), inR v2 → inR v3 → inR v4 → k301 v2 v3 v4 μ = some (r, μ') → V p l e (rmk 4) s m args below meth c 0 0 (MQ below (aI D (tyl cy) (lay cy) ids ad A r μ') args s 0 0 A) D A (lay cy) ids ad 6 μ 301 [some (rf 300), none, some (nu v2), some (nu v3), some (nu v4), none] []) : ∀ (v2 v3 v4 w0 : Int) (μ : Mem), inR v2 → inR v3 → inR v4 → inR w0 → f_X11_canBe_363  k280 k290 k301 v2 v3 v4 w0 μ = some (r, μ') → V p l e (rmk 4) s m args below meth c 0 0 (MQ below (aI D (tyl cy) (lay cy) ids ad A r μ') args s 0 0 A) D A (lay cy) ids ad 6 μ 363 [some (rf 300), none, some (nu v2), some (nu v3), some (nu v4), none] [nu w0] := by
  intro v2 v3 v4 w0 μ hv2 hv3 hv4 hw0 hf
  unfold f_X11_canBe_363 at hf
  refine V_in (fun ho0 _ => ?_)
  refine r_istore C (lw := [some (rf 300), none, some (nu v2), some (nu v3), some (nu v4), some (nu w0)]) rfl (by decide) dX11_canBe_363 ?_
  refine r_aload_n C 0 rfl rfl dX11_canBe_365 ?_
  refine r_getf C 300 (by decide) rfl (fx_m rfl) (ly_300 cy _ _) rfl in_X11 53 (by decide) tw_948 (v := rf 337) rfl dX11_canBe_366 ?_
  refine r_iload_n C 3 rfl rfl dX11_canBe_369 ?_
  obtain ⟨g1, hf⟩ := of_g hf
  refine r_aald C 337 (by decide) rfl (fx_m rfl) 5 (cA := cy 5) (n := 40) (ly_337 cy _ _) rfl rfl g1 (by decide) dX11_canBe_370 ?_
  refine r_iload C rfl dX11_canBe_371 ?_
  refine r_aload_n C 0 rfl rfl dX11_canBe_373 ?_
  refine r_getf C 300 (by decide) rfl (fx_m rfl) (ly_300 cy _ _) rfl in_X11 53 (by decide) tw_948 (v := rf 337) rfl dX11_canBe_374 ?_
  refine r_iload_n C 3 rfl rfl dX11_canBe_377 ?_
  refine r_aald C 337 (by decide) rfl (fx_m rfl) 5 (cA := cy 5) (n := 40) (ly_337 cy _ _) rfl rfl g1 (by decide) dX11_canBe_378 ?_
  refine r_iload C rfl dX11_canBe_379 ?_
  obtain ⟨g2, hf⟩ := of_g hf
  refine r_iald C _ (row0 (b := 338)) rfl (ba_r338 (rowz g1)) 0 (cA := cy 0) (n := 40) (ly_r338 cy _ (rowz g1) _) rfl g2 (by decide) dX11_canBe_381 ?_
  refine r_iload C rfl dX11_canBe_382 ?_
  refine r_icmp_ge C 399 (ho0 _ _) hw0 rfl dX11_canBe_384 (fun c3 => ?_) (fun c3 => ?_)
  · replace hf := if_t hf c3
    refine r_iload C rfl dX11_canBe_399 ?_
    refine r_iast C _ (row0 (b := 338)) rfl (ba_r338 (rowz g1)) (row9 (b := 338) (rowz g1) (by decide)) 0 (cA := cy 0) (n := 40) (fun f => ly_r338 cy _ (rowz g1) f) rfl g2 (by decide) hw0 dX11_canBe_401 (fun μ4 hμ6 => ?_)
    replace hf := of_lm hf hμ6
    refine V_in (fun ho5 _ => ?_)
    refine r_iinc C rfl (lw := [some (rf 300), none, some (nu v2), some (nu v3), some (nu (v4 + 1)), some (nu w0)]) rfl (by decide) dX11_canBe_402 ?_
    refine r_goto C 301 rfl dX11_canBe_405 ?_
    obtain ⟨g7, hf⟩ := of_g hf
    exact V_lw (hk301 v2 v3 (v4 + 1) μ4 hv2 hv3 g7 hf) (And.intro rfl (And.intro rfl (And.intro rfl (And.intro rfl trivial))))
  · replace hf := if_f hf c3
    refine r_aload_n C 0 rfl rfl dX11_canBe_387 ?_
    refine r_getf C 300 (by decide) rfl (fx_m rfl) (ly_300 cy _ _) rfl in_X11 53 (by decide) tw_948 (v := rf 337) rfl dX11_canBe_388 ?_
    refine r_iload_n C 3 rfl rfl dX11_canBe_391 ?_
    refine r_aald C 337 (by decide) rfl (fx_m rfl) 5 (cA := cy 5) (n := 40) (ly_337 cy _ _) rfl rfl g1 (by decide) dX11_canBe_392 ?_
    refine r_iload C rfl dX11_canBe_393 ?_
    refine r_iald C _ (row0 (b := 338)) rfl (ba_r338 (rowz g1)) 0 (cA := cy 0) (n := 40) (ly_r338 cy _ (rowz g1) _) rfl g2 (by decide) dX11_canBe_395 ?_
    refine r_goto C 401 rfl dX11_canBe_396 ?_
    refine r_iast C _ (row0 (b := 338)) rfl (ba_r338 (rowz g1)) (row9 (b := 338) (rowz g1) (by decide)) 0 (cA := cy 0) (n := 40) (fun f => ly_r338 cy _ (rowz g1) f) rfl g2 (by decide) (ho0 _ _) dX11_canBe_401 (fun μ8 hμ10 => ?_)
    replace hf := of_lm hf hμ10
    refine V_in (fun ho9 _ => ?_)
    refine r_iinc C rfl (lw := [some (rf 300), none, some (nu v2), some (nu v3), some (nu (v4 + 1)), some (nu w0)]) rfl (by decide) dX11_canBe_402 ?_
    refine r_goto C 301 rfl dX11_canBe_405 ?_
    obtain ⟨g11, hf⟩ := of_g hf
    exact V_lw (hk301 v2 v3 (v4 + 1) μ8 hv2 hv3 g11 hf) (And.intro rfl (And.intro rfl (And.intro rfl (And.intro rfl trivial))))
set_option maxHeartbeats 4000000 in
set_option maxRecDepth 100000 in
theorem w_X11_canBe_339 {p : Program} {l : Launch} {e : Env} {s : State} {m : MethodId} {args : Array Value} {below : List Frame} {meth : Method} {c : Code} {D : va_G} {cy : Nat → ClassId} {A : Nat → Prop} {ids : List Nat} {ad : Nat → Nat} {r : Int} {μ' : Mem} (C : Cx p s m args meth c D (tyl cy) A 6 cX11_canBe yX11_canBe.cls (some .boolean)) (hCF : CF ad A s) (k280 : Int → Mem → Option (Int × Mem)) (hk280 : ∀ (v2 : Int) (μ : Mem), inR v2 → k280 v2 μ = some (r, μ') → V p l e (rmk 4) s m args below meth c 0 0 (MQ below (aI D (tyl cy) (lay cy) ids ad A r μ') args s 0 0 A) D A (lay cy) ids ad 6 μ 280 [some (rf 300), none, some (nu v2), none, none, none] []) (k290 : Int → Int → Mem → Option (Int × Mem)) (hk290 : ∀ (v2 v3 : Int) (μ : Mem), inR v2 → inR v3 → k290 v2 v3 μ = some (r, μ') → V p l e (rmk 4) s m args below meth c 0 0 (MQ below (aI D (tyl cy) (lay cy) ids ad A r μ') args s 0 0 A) D A (lay cy) ids ad 6 μ 290 [some (rf 300), none, some (nu v2), some (nu v3), none, none] []) (k301 : Int → Int → Int → Mem → Option (Int × Mem)) (hk301 : ∀ (v2 v3 v4 : Int) (μ : Mem), inR v2 → inR v3 → inR v4 → k301 v2 v3 v4 μ = some (r, μ') → V p l e (rmk 4) s m args below meth c 0 0 (MQ below (aI D (tyl cy) (lay cy) ids ad A r μ') args s 0 0 A) D A (lay cy) ids ad 6 μ 301 [some (rf 300), none, some (nu v2), some (nu v3), some (nu v4), none] []) : ∀ (v2 v3 v4 : Int) (μ : Mem), inR v2 → inR v3 → inR v4 → f_X11_canBe_339  k280 k290 k301 v2 v3 v4 μ = some (r, μ') → V p l e (rmk 4) s m args below meth c 0 0 (MQ below (aI D (tyl cy) (lay cy) ids ad A r μ') args s 0 0 A) D A (lay cy) ids ad 6 μ 339 [some (rf 300), none, some (nu v2), some (nu v3), some (nu v4), none] [] := by
  intro v2 v3 v4 μ hv2 hv3 hv4 hf
  unfold f_X11_canBe_339 at hf
  refine V_in (fun ho0 _ => ?_)
  refine r_ldcw C (n := 268435456) tw_1248 rfl dX11_canBe_339 ?_
  refine r_goto C 363 rfl dX11_canBe_342 ?_
  exact V_lw (w_X11_canBe_363 C hCF k280 hk280 k290 hk290 k301 hk301 v2 v3 v4 268435456 μ hv2 hv3 hv4 (inR_lit rfl) hf) (And.intro rfl (And.intro rfl (And.intro rfl (And.intro rfl trivial))))
set_option maxHeartbeats 4000000 in
set_option maxRecDepth 100000 in
theorem w_X11_canBe_301 {p : Program} {l : Launch} {e : Env} {s : State} {m : MethodId} {args : Array Value} {below : List Frame} {meth : Method} {c : Code} {D : va_G} {cy : Nat → ClassId} {A : Nat → Prop} {ids : List Nat} {ad : Nat → Nat} {r : Int} {μ' : Mem} (C : Cx p s m args meth c D (tyl cy) A 6 cX11_canBe yX11_canBe.cls (some .boolean)) (hCF : CF ad A s) (k280 : Int → Mem → Option (Int × Mem)) (hk280 : ∀ (v2 : Int) (μ : Mem), inR v2 → k280 v2 μ = some (r, μ') → V p l e (rmk 4) s m args below meth c 0 0 (MQ below (aI D (tyl cy) (lay cy) ids ad A r μ') args s 0 0 A) D A (lay cy) ids ad 6 μ 280 [some (rf 300), none, some (nu v2), none, none, none] []) (k290 : Int → Int → Mem → Option (Int × Mem)) (hk290 : ∀ (v2 v3 : Int) (μ : Mem), inR v2 → inR v3 → k290 v2 v3 μ = some (r, μ') → V p l e (rmk 4) s m args below meth c 0 0 (MQ below (aI D (tyl cy) (lay cy) ids ad A r μ') args s 0 0 A) D A (lay cy) ids ad 6 μ 290 [some (rf 300), none, some (nu v2), some (nu v3), none, none] []) : ∀ n : Nat, ∀ (v2 v3 v4 : Int) (μ : Mem), inR v2 → inR v3 → inR v4 → f_X11_canBe_301  k280 k290 n v2 v3 v4 μ = some (r, μ') → V p l e (rmk 4) s m args below meth c 0 0 (MQ below (aI D (tyl cy) (lay cy) ids ad A r μ') args s 0 0 A) D A (lay cy) ids ad 6 μ 301 [some (rf 300), none, some (nu v2), some (nu v3), some (nu v4), none] [] := by
  intro n
  induction n with
  | zero =>
    intro v2 v3 v4 μ hv2 hv3 hv4 hf
    cases hf
  | succ n ih =>
    intro v2 v3 v4 μ hv2 hv3 hv4 hf
    rw [f_X11_canBe_301_e] at hf
    refine V_in (fun ho0 _ => ?_)
    refine r_iload C rfl dX11_canBe_301 ?_
    refine r_aload_n C 0 rfl rfl dX11_canBe_303 ?_
    refine r_getf C 300 (by decide) rfl (fx_m rfl) (ly_300 cy _ _) rfl in_X11 51 (by decide) tw_946 (v := nu (μ 300 51)) rfl dX11_canBe_304 ?_
    refine r_icmp_ge C 408 hv4 (ho0 _ _) rfl dX11_canBe_307 (fun c1 => ?_) (fun c1 => ?_)
    · replace hf := if_t hf c1
      refine r_iinc C rfl (lw := [some (rf 300), none, some (nu v2), some (nu (v3 + 1)), some (nu v4), none]) rfl (by decide) dX11_canBe_408 ?_
      refine r_goto C 290 rfl dX11_canBe_411 ?_
      obtain ⟨g2, hf⟩ := of_g hf
      exact V_lw (hk290 v2 (v3 + 1) μ hv2 g2 hf) (And.intro rfl (And.intro rfl (And.intro rfl trivial)))
    · replace hf := if_f hf c1
      refine r_aload_n C 0 rfl rfl dX11_canBe_310 ?_
      refine r_getf C 300 (by decide) rfl (fx_m rfl) (ly_300 cy _ _) rfl in_X11 53 (by decide) tw_948 (v := rf 337) rfl dX11_canBe_311 ?_
      refine r_iload_n C 3 rfl rfl dX11_canBe_314 ?_
      obtain ⟨g3, hf⟩ := of_g hf
      refine r_aald C 337 (by decide) rfl (fx_m rfl) 5 (cA := cy 5) (n := 40) (ly_337 cy _ _) rfl rfl g3 (by decide) dX11_canBe_315 ?_
      refine r_iload_n C 2 rfl rfl dX11_canBe_316 ?_
      obtain ⟨g4, hf⟩ := of_g hf
      refine r_iald C _ (row0 (b := 338)) rfl (ba_r338 (rowz g3)) 0 (cA := cy 0) (n := 40) (ly_r338 cy _ (rowz g3) _) rfl g4 (by decide) dX11_canBe_317 ?_
      refine r_ldcw C (n := 268435456) tw_1248 rfl dX11_canBe_318 ?_
      refine r_icmp_eq C 339 (ho0 _ _) (inR_lit rfl) rfl dX11_canBe_321 (fun c5 => ?_) (fun c5 => ?_)
      · replace hf := if_t hf c5
        exact V_lw (w_X11_canBe_339 C hCF k280 hk280 k290 hk290 (f_X11_canBe_301 k280 k290 n) ih v2 v3 v4 μ hv2 hv3 hv4 hf) (And.intro rfl (And.intro rfl (And.intro rfl (And.intro rfl trivial))))
      · replace hf := if_f hf c5
        refine r_aload_n C 0 rfl rfl dX11_canBe_324 ?_
        refine r_getf C 300 (by decide) rfl (fx_m rfl) (ly_300 cy _ _) rfl in_X11 53 (by decide) tw_948 (v := rf 337) rfl dX11_canBe_325 ?_
        refine r_iload_n C 2 rfl rfl dX11_canBe_328 ?_
        refine r_aald C 337 (by decide) rfl (fx_m rfl) 5 (cA := cy 5) (n := 40) (ly_337 cy _ _) rfl rfl g4 (by decide) dX11_canBe_329 ?_
        refine r_iload C rfl dX11_canBe_330 ?_
        obtain ⟨g6, hf⟩ := of_g hf
        refine r_iald C _ (row0 (b := 338)) rfl (ba_r338 (rowz g4)) 0 (cA := cy 0) (n := 40) (ly_r338 cy _ (rowz g4) _) rfl g6 (by decide) dX11_canBe_332 ?_
        refine r_ldcw C (n := 268435456) tw_1248 rfl dX11_canBe_333 ?_
        refine r_icmp_ne C 345 (ho0 _ _) (inR_lit rfl) rfl dX11_canBe_336 (fun c7 => ?_) (fun c7 => ?_)
        · replace hf := if_f hf c7
          refine r_aload_n C 0 rfl rfl dX11_canBe_345 ?_
          refine r_getf C 300 (by decide) rfl (fx_m rfl) (ly_300 cy _ _) rfl in_X11 53 (by decide) tw_948 (v := rf 337) rfl dX11_canBe_346 ?_
          refine r_iload_n C 3 rfl rfl dX11_canBe_349 ?_
          refine r_aald C 337 (by decide) rfl (fx_m rfl) 5 (cA := cy 5) (n := 40) (ly_337 cy _ _) rfl rfl g3 (by decide) dX11_canBe_350 ?_
          refine r_iload_n C 2 rfl rfl dX11_canBe_351 ?_
          refine r_iald C _ (row0 (b := 338)) rfl (ba_r338 (rowz g3)) 0 (cA := cy 0) (n := 40) (ly_r338 cy _ (rowz g3) _) rfl g4 (by decide) dX11_canBe_352 ?_
          refine r_aload_n C 0 rfl rfl dX11_canBe_353 ?_
          refine r_getf C 300 (by decide) rfl (fx_m rfl) (ly_300 cy _ _) rfl in_X11 53 (by decide) tw_948 (v := rf 337) rfl dX11_canBe_354 ?_
          refine r_iload_n C 2 rfl rfl dX11_canBe_357 ?_
          refine r_aald C 337 (by decide) rfl (fx_m rfl) 5 (cA := cy 5) (n := 40) (ly_337 cy _ _) rfl rfl g4 (by decide) dX11_canBe_358 ?_
          refine r_iload C rfl dX11_canBe_359 ?_
          refine r_iald C _ (row0 (b := 338)) rfl (ba_r338 (rowz g4)) 0 (cA := cy 0) (n := 40) (ly_r338 cy _ (rowz g4) _) rfl g6 (by decide) dX11_canBe_361 ?_
          refine r_iadd C dX11_canBe_362 ?_
          obtain ⟨g8, hf⟩ := of_g hf
          exact V_lw (w_X11_canBe_363 C hCF k280 hk280 k290 hk290 (f_X11_canBe_301 k280 k290 n) ih v2 v3 v4 ((μ (338 + (v3.toNat : Int)).toNat v2.toNat) + (μ (338 + (v2.toNat : Int)).toNat v4.toNat)) μ hv2 hv3 hv4 g8 hf) (And.intro rfl (And.intro rfl (And.intro rfl (And.intro rfl trivial))))
        · replace hf := if_t hf c7
          exact V_lw (w_X11_canBe_339 C hCF k280 hk280 k290 hk290 (f_X11_canBe_301 k280 k290 n) ih v2 v3 v4 μ hv2 hv3 hv4 hf) (And.intro rfl (And.intro rfl (And.intro rfl (And.intro rfl trivial))))
set_option maxHeartbeats 4000000 in
set_option maxRecDepth 100000 in
theorem w_X11_canBe_290 {p : Program} {l : Launch} {e : Env} {s : State} {m : MethodId} {args : Array Value} {below : List Frame} {meth : Method} {c : Code} {D : va_G} {cy : Nat → ClassId} {A : Nat → Prop} {ids : List Nat} {ad : Nat → Nat} {r : Int} {μ' : Mem} (C : Cx p s m args meth c D (tyl cy) A 6 cX11_canBe yX11_canBe.cls (some .boolean)) (hCF : CF ad A s) (k280 : Int → Mem → Option (Int × Mem)) (hk280 : ∀ (v2 : Int) (μ : Mem), inR v2 → k280 v2 μ = some (r, μ') → V p l e (rmk 4) s m args below meth c 0 0 (MQ below (aI D (tyl cy) (lay cy) ids ad A r μ') args s 0 0 A) D A (lay cy) ids ad 6 μ 280 [some (rf 300), none, some (nu v2), none, none, none] []) : ∀ n : Nat, ∀ (v2 v3 : Int) (μ : Mem), inR v2 → inR v3 → f_X11_canBe_290  k280 n v2 v3 μ = some (r, μ') → V p l e (rmk 4) s m args below meth c 0 0 (MQ below (aI D (tyl cy) (lay cy) ids ad A r μ') args s 0 0 A) D A (lay cy) ids ad 6 μ 290 [some (rf 300), none, some (nu v2), some (nu v3), none, none] [] := by
  intro n
  induction n with
  | zero =>
    intro v2 v3 μ hv2 hv3 hf
    cases hf
  | succ n ih =>
    intro v2 v3 μ hv2 hv3 hf
    rw [f_X11_canBe_290_e] at hf
    refine V_in (fun ho0 _ => ?_)
    refine r_iload_n C 3 rfl rfl dX11_canBe_290 ?_
    refine r_aload_n C 0 rfl rfl dX11_canBe_291 ?_
    refine r_getf C 300 (by decide) rfl (fx_m rfl) (ly_300 cy _ _) rfl in_X11 51 (by decide) tw_946 (v := nu (μ 300 51)) rfl dX11_canBe_292 ?_
    refine r_icmp_ge C 414 hv3 (ho0 _ _) rfl dX11_canBe_295 (fun c1 => ?_) (fun c1 => ?_)
    · replace hf := if_t hf c1
      refine r_iconst C dX11_canBe_414 ?_
      refine r_istore_n C 3 (lw := [some (rf 300), none, some (nu v2), some (nu 0), none, none]) rfl rfl (by decide) dX11_canBe_415 ?_
      exact V_lw (w_X11_canBe_416 C hCF k280 hk280 64 v2 0 μ hv2 (inR_lit rfl) hf) (And.intro rfl (And.intro rfl (And.intro rfl trivial)))
    · replace hf := if_f hf c1
      refine r_iconst C dX11_canBe_298 ?_
      refine r_istore C (lw := [some (rf 300), none, some (nu v2), some (nu v3), some (nu 0), none]) rfl (by decide) dX11_canBe_299 ?_
      exact V_lw (w_X11_canBe_301 C hCF k280 hk280 (f_X11_canBe_290 k280 n) ih 64 v2 v3 0 μ hv2 hv3 (inR_lit rfl) hf) (And.intro rfl (And.intro rfl (And.intro rfl (And.intro rfl trivial))))
set_option maxHeartbeats 4000000 in
set_option maxRecDepth 100000 in
theorem w_X11_canBe_280 {p : Program} {l : Launch} {e : Env} {s : State} {m : MethodId} {args : Array Value} {below : List Frame} {meth : Method} {c : Code} {D : va_G} {cy : Nat → ClassId} {A : Nat → Prop} {ids : List Nat} {ad : Nat → Nat} {r : Int} {μ' : Mem} (C : Cx p s m args meth c D (tyl cy) A 6 cX11_canBe yX11_canBe.cls (some .boolean)) (hCF : CF ad A s) : ∀ n : Nat, ∀ (v2 : Int) (μ : Mem), inR v2 → f_X11_canBe_280   n v2 μ = some (r, μ') → V p l e (rmk 4) s m args below meth c 0 0 (MQ below (aI D (tyl cy) (lay cy) ids ad A r μ') args s 0 0 A) D A (lay cy) ids ad 6 μ 280 [some (rf 300), none, some (nu v2), none, none, none] [] := by
  intro n
  induction n with
  | zero =>
    intro v2 μ hv2 hf
    cases hf
  | succ n ih =>
    intro v2 μ hv2 hf
    rw [f_X11_canBe_280_e] at hf
    refine V_in (fun ho0 _ => ?_)
    refine r_iload_n C 2 rfl rfl dX11_canBe_280 ?_
    refine r_aload_n C 0 rfl rfl dX11_canBe_281 ?_
    refine r_getf C 300 (by decide) rfl (fx_m rfl) (ly_300 cy _ _) rfl in_X11 51 (by decide) tw_946 (v := nu (μ 300 51)) rfl dX11_canBe_282 ?_
    refine r_icmp_ge C 449 hv2 (ho0 _ _) rfl dX11_canBe_285 (fun c1 => ?_) (fun c1 => ?_)
    · replace hf := if_t hf c1
      refine r_iconst C dX11_canBe_449 ?_
      obtain ⟨rfl, rfl⟩ := of_ret hf
      exact r_zret C rfl (by decide) dX11_canBe_450
    · replace hf := if_f hf c1
      refine r_iconst C dX11_canBe_288 ?_
      refine r_istore_n C 3 (lw := [some (rf 300), none, some (nu v2), some (nu 0), none, none]) rfl rfl (by decide) dX11_canBe_289 ?_
      exact V_lw (w_X11_canBe_290 C hCF (f_X11_canBe_280 n) ih 64 v2 0 μ hv2 (inR_lit rfl) hf) (And.intro rfl (And.intro rfl (And.intro rfl trivial)))
set_option maxHeartbeats 4000000 in
set_option maxRecDepth 100000 in
theorem w_X11_canBe_224 {p : Program} {l : Launch} {e : Env} {s : State} {m : MethodId} {args : Array Value} {below : List Frame} {meth : Method} {c : Code} {D : va_G} {cy : Nat → ClassId} {A : Nat → Prop} {ids : List Nat} {ad : Nat → Nat} {r : Int} {μ' : Mem} (C : Cx p s m args meth c D (tyl cy) A 6 cX11_canBe yX11_canBe.cls (some .boolean)) (hCF : CF ad A s) (k128 : Int → Int → Mem → Option (Int × Mem)) (hk128 : ∀ (v1 v2 : Int) (μ : Mem), inR v1 → inR v2 → k128 v1 v2 μ = some (r, μ') → V p l e (rmk 4) s m args below meth c 0 0 (MQ below (aI D (tyl cy) (lay cy) ids ad A r μ') args s 0 0 A) D A (lay cy) ids ad 6 μ 128 [some (rf 300), some (nu v1), some (nu v2), none, none, none] []) : ∀ (v1 v2 v3 v4 w0 w1 w2 : Int) (μ : Mem), inR v1 → inR v2 → inR v3 → inR v4 → inR w0 → inR w1 → f_X11_canBe_224  k128 v1 v2 v3 v4 w0 w1 w2 μ = some (r, μ') → V p l e (rmk 4) s m args below meth c 0 0 (MQ below (aI D (tyl cy) (lay cy) ids ad A r μ') args s 0 0 A) D A (lay cy) ids ad 6 μ 224 [some (rf 300), some (nu v1), some (nu v2), some (nu v3), some (nu v4), none] [nu w0, nu w1, rf w2] := by
  intro v1 v2 v3 v4 w0 w1 w2 μ hv1 hv2 hv3 hv4 hw0 hw1 hf
  unfold f_X11_canBe_224 at hf
  refine V_in (fun ho0 _ => ?_)
  obtain ⟨g1, hf⟩ := of_g hf
  obtain ⟨g2, hf⟩ := of_g hf
  refine r_iast C _ (rg0 g1) rfl (ba_g338 g1) (rg9 g1 (by decide)) 0 (cA := cy 0) (n := 40) (fun f => ly_g338 cy _ g1 f) rfl g2 (by decide) hw0 dX11_canBe_224 (fun μ3 hμ5 => ?_)
  replace hf := of_lm hf hμ5
  refine V_in (fun ho4 _ => ?_)
  refine r_aload_n C 0 rfl rfl dX11_canBe_225 ?_
  refine r_getf C 300 (by decide) rfl (fx_m rfl) (ly_300 cy _ _) rfl in_X11 53 (by decide) tw_948 (v := rf 337) rfl dX11_canBe_226 ?_
  refine r_iload C rfl dX11_canBe_229 ?_
  obtain ⟨g6, hf⟩ := of_g hf
  refine r_aald C 337 (by decide) rfl (fx_m rfl) 5 (cA := cy 5) (n := 40) (ly_337 cy _ _) rfl rfl g6 (by decide) dX11_canBe_231 ?_
  refine r_iload_n C 3 rfl rfl dX11_canBe_232 ?_
  refine r_aload_n C 0 rfl rfl dX11_canBe_233 ?_
  refine r_getf C 300 (by decide) rfl (fx_m rfl) (ly_300 cy _ _) rfl in_X11 53 (by decide) tw_948 (v := rf 337) rfl dX11_canBe_234 ?_
  refine r_iload C rfl dX11_canBe_237 ?_
  refine r_aald C 337 (by decide) rfl (fx_m rfl) 5 (cA := cy 5) (n := 40) (ly_337 cy _ _) rfl rfl g6 (by decide) dX11_canBe_239 ?_
  refine r_iload_n C 3 rfl rfl dX11_canBe_240 ?_
  obtain ⟨g7, hf⟩ := of_g hf
  refine r_iald C _ (row0 (b := 338)) rfl (ba_r338 (rowz g6)) 0 (cA := cy 0) (n := 40) (ly_r338 cy _ (rowz g6) _) rfl g7 (by decide) dX11_canBe_241 ?_
  refine r_aload_n C 0 rfl rfl dX11_canBe_242 ?_
  refine r_getf C 300 (by decide) rfl (fx_m rfl) (ly_300 cy _ _) rfl in_X11 49 (by decide) tw_944 (v := rf 334) rfl dX11_canBe_243 ?_
  refine r_iload_n C 2 rfl rfl dX11_canBe_246 ?_
  obtain ⟨g8, hf⟩ := of_g hf
  refine r_iald C 334 (by decide) rfl (fx_m rfl) 0 (cA := cy 0) (n := 20) (ly_334 cy _ _) rfl g8 (by decide) dX11_canBe_247 ?_
  refine r_ineg C dX11_canBe_248 ?_
  obtain ⟨g9, hf⟩ := of_g hf
  refine r_icmp_ge C 264 (ho4 _ _) g9 rfl dX11_canBe_249 (fun c10 => ?_) (fun c10 => ?_)
  · replace hf := if_t hf c10
    refine r_aload_n C 0 rfl rfl dX11_canBe_264 ?_
    refine r_getf C 300 (by decide) rfl (fx_m rfl) (ly_300 cy _ _) rfl in_X11 49 (by decide) tw_944 (v := rf 334) rfl dX11_canBe_265 ?_
    refine r_iload_n C 2 rfl rfl dX11_canBe_268 ?_
    refine r_iald C 334 (by decide) rfl (fx_m rfl) 0 (cA := cy 0) (n := 20) (ly_334 cy _ _) rfl g8 (by decide) dX11_canBe_269 ?_
    refine r_ineg C dX11_canBe_270 ?_
    refine r_iast C _ (row0 (b := 338)) rfl (ba_r338 (rowz g6)) (row9 (b := 338) (rowz g6) (by decide)) 0 (cA := cy 0) (n := 40) (fun f => ly_r338 cy _ (rowz g6) f) rfl g7 (by decide) g9 dX11_canBe_271 (fun μ11 hμ13 => ?_)
    replace hf := of_lm hf hμ13
    refine V_in (fun ho12 _ => ?_)
    refine r_iinc C rfl (lw := [some (rf 300), some (nu v1), some (nu (v2 + 1)), some (nu v3), some (nu v4), none]) rfl (by decide) dX11_canBe_272 ?_
    refine r_goto C 128 rfl dX11_canBe_275 ?_
    obtain ⟨g14, hf⟩ := of_g hf
    exact V_lw (hk128 v1 (v2 + 1) μ11 hv1 g14 hf) (And.intro rfl (And.intro rfl (And.intro rfl trivial)))
  · replace hf := if_f hf c10
    refine r_aload_n C 0 rfl rfl dX11_canBe_252 ?_
    refine r_getf C 300 (by decide) rfl (fx_m rfl) (ly_300 cy _ _) rfl in_X11 53 (by decide) tw_948 (v := rf 337) rfl dX11_canBe_253 ?_
    refine r_iload C rfl dX11_canBe_256 ?_
    refine r_aald C 337 (by decide) rfl (fx_m rfl) 5 (cA := cy 5) (n := 40) (ly_337 cy _ _) rfl rfl g6 (by decide) dX11_canBe_258 ?_
    refine r_iload_n C 3 rfl rfl dX11_canBe_259 ?_
    refine r_iald C _ (row0 (b := 338)) rfl (ba_r338 (rowz g6)) 0 (cA := cy 0) (n := 40) (ly_r338 cy _ (rowz g6) _) rfl g7 (by decide) dX11_canBe_260 ?_
    refine r_goto C 271 rfl dX11_canBe_261 ?_
    refine r_iast C _ (row0 (b := 338)) rfl (ba_r338 (rowz g6)) (row9 (b := 338) (rowz g6) (by decide)) 0 (cA := cy 0) (n := 40) (fun f => ly_r338 cy _ (rowz g6) f) rfl g7 (by decide) (ho4 _ _) dX11_canBe_271 (fun μ15 hμ17 => ?_)
    replace hf := of_lm hf hμ17
    refine V_in (fun ho16 _ => ?_)
    refine r_iinc C rfl (lw := [some (rf 300), some (nu v1), some (nu (v2 + 1)), some (nu v3), some (nu v4), none]) rfl (by decide) dX11_canBe_272 ?_
    refine r_goto C 128 rfl dX11_canBe_275 ?_
    obtain ⟨g18, hf⟩ := of_g hf
    exact V_lw (hk128 v1 (v2 + 1) μ15 hv1 g18 hf) (And.intro rfl (And.intro rfl (And.intro rfl trivial)))
set_option maxHeartbeats 4000000 in
set_option maxRecDepth 100000 in
theorem w_X11_canBe_128 {p : Program} {l : Launch} {e : Env} {s : State} {m : MethodId} {args : Array Value} {below : List Frame} {meth : Method} {c : Code} {D : va_G} {cy : Nat → ClassId} {A : Nat → Prop} {ids : List Nat} {ad : Nat → Nat} {r : Int} {μ' : Mem} (C : Cx p s m args meth c D (tyl cy) A 6 cX11_canBe yX11_canBe.cls (some .boolean)) (hCF : CF ad A s) : ∀ n : Nat, ∀ (v1 v2 : Int) (μ : Mem), inR v1 → inR v2 → f_X11_canBe_128   n v1 v2 μ = some (r, μ') → V p l e (rmk 4) s m args below meth c 0 0 (MQ below (aI D (tyl cy) (lay cy) ids ad A r μ') args s 0 0 A) D A (lay cy) ids ad 6 μ 128 [some (rf 300), some (nu v1), some (nu v2), none, none, none] [] := by
  intro n
  induction n with
  | zero =>
    intro v1 v2 μ hv1 hv2 hf
    cases hf
  | succ n ih =>
    intro v1 v2 μ hv1 hv2 hf
    rw [f_X11_canBe_128_e] at hf
    refine V_in (fun ho0 _ => ?_)
    refine r_iload_n C 2 rfl rfl dX11_canBe_128 ?_
    refine r_aload_n C 0 rfl rfl dX11_canBe_129 ?_
    refine r_getf C 300 (by decide) rfl (fx_m rfl) (ly_300 cy _ _) rfl in_X11 45 (by decide) tw_940 (v := nu (μ 300 45)) rfl dX11_canBe_130 ?_
    refine r_icmp_ge C 278 hv2 (ho0 _ _) rfl dX11_canBe_133 (fun c1 => ?_) (fun c1 => ?_)
    · replace hf := if_t hf c1
      refine r_iconst C dX11_canBe_278 ?_
      refine r_istore_n C 2 (lw := [some (rf 300), some (nu v1), some (nu 0), none, none, none]) rfl rfl (by decide) dX11_canBe_279 ?_
      exact V_lw (w_X11_canBe_280 C hCF 64 0 μ (inR_lit rfl) hf) (And.intro rfl (And.intro rfl trivial))
    · replace hf := if_f hf c1
      refine r_aload_n C 0 rfl rfl dX11_canBe_136 ?_
      refine r_getf C 300 (by decide) rfl (fx_m rfl) (ly_300 cy _ _) rfl in_X11 50 (by decide) tw_945 (v := rf 335) rfl dX11_canBe_137 ?_
      refine r_iload_n C 2 rfl rfl dX11_canBe_140 ?_
      obtain ⟨g2, hf⟩ := of_g hf
      refine r_zald C 335 (by decide) rfl (fx_m rfl) 2 (cA := cy 2) (n := 20) (ly_335 cy _ _) rfl g2 (by decide) dX11_canBe_141 ?_
      refine r_if_eq C 272 (ho0 _ _) rfl dX11_canBe_142 (fun c3 => ?_) (fun c3 => ?_)
      · replace hf := if_t hf c3
        refine r_iinc C rfl (lw := [some (rf 300), some (nu v1), some (nu (v2 + 1)), none, none, none]) rfl (by decide) dX11_canBe_272 ?_
        refine r_goto C 128 rfl dX11_canBe_275 ?_
        obtain ⟨g4, hf⟩ := of_g hf
        exact V_lw (ih v1 (v2 + 1) μ hv1 g4 hf) (And.intro rfl (And.intro rfl (And.intro rfl trivial)))
      · replace hf := if_f hf c3
        refine r_aload_n C 0 rfl rfl dX11_canBe_145 ?_
        refine r_getf C 300 (by decide) rfl (fx_m rfl) (ly_300 cy _ _) rfl in_X11 46 (by decide) tw_941 (v := rf 331) rfl dX11_canBe_146 ?_
        refine r_iload_n C 2 rfl rfl dX11_canBe_149 ?_
        refine r_iald C 331 (by decide) rfl (fx_m rfl) 0 (cA := cy 0) (n := 20) (ly_331 cy _ _) rfl g2 (by decide) dX11_canBe_150 ?_
        refine r_iload_n C 1 rfl rfl dX11_canBe_151 ?_
        refine r_icmp_ne C 272 (ho0 _ _) hv1 rfl dX11_canBe_152 (fun c5 => ?_) (fun c5 => ?_)
        · replace hf := if_f hf c5
          refine r_iinc C rfl (lw := [some (rf 300), some (nu v1), some (nu (v2 + 1)), none, none, none]) rfl (by decide) dX11_canBe_272 ?_
          refine r_goto C 128 rfl dX11_canBe_275 ?_
          obtain ⟨g6, hf⟩ := of_g hf
          exact V_lw (ih v1 (v2 + 1) μ hv1 g6 hf) (And.intro rfl (And.intro rfl (And.intro rfl trivial)))
        · replace hf := if_t hf c5
          refine r_aload_n C 0 rfl rfl dX11_canBe_155 ?_
          refine r_aload_n C 0 rfl rfl dX11_canBe_156 ?_
          refine r_getf C 300 (by decide) rfl (fx_m rfl) (ly_300 cy _ _) rfl in_X11 47 (by decide) tw_942 (v := rf 332) rfl dX11_canBe_157 ?_
          refine r_iload_n C 2 rfl rfl dX11_canBe_160 ?_
          refine r_iald C 332 (by decide) rfl (fx_m rfl) 0 (cA := cy 0) (n := 20) (ly_332 cy _ _) rfl g2 (by decide) dX11_canBe_161 ?_
          obtain ⟨r7, μ8, hc9, hf⟩ := of_bd hf
          refine r_callVI C hCF (As := [nu (μ 332 v2.toNat)]) 300 (by decide) rfl (fx_m rfl) (ly_300 cy _ _) rfl (c_X11_pointOf (ho0 _ _) hc9) rfl (by decide) (by decide) ⟨Nat.le_refl 0, Nat.le_refl 0⟩ tw_1244 tw_1247 tw_10 tw_1246 ts_62 1 (by decide) rfl (Nat.le_of_ble_eq_true rfl) dX11_canBe_162 (fun hr11 => ?_)
          refine V_in (fun ho10 _ => ?_)
          refine r_istore_n C 3 (lw := [some (rf 300), some (nu v1), some (nu v2), some (nu r7), none, none]) rfl rfl (by decide) dX11_canBe_165 ?_
          refine r_aload_n C 0 rfl rfl dX11_canBe_166 ?_
          refine r_aload_n C 0 rfl rfl dX11_canBe_167 ?_
          refine r_getf C 300 (by decide) rfl (fx_m rfl) (ly_300 cy _ _) rfl in_X11 48 (by decide) tw_943 (v := rf 333) rfl dX11_canBe_168 ?_
          refine r_iload_n C 2 rfl rfl dX11_canBe_171 ?_
          refine r_iald C 333 (by decide) rfl (fx_m rfl) 0 (cA := cy 0) (n := 20) (ly_333 cy _ _) rfl g2 (by decide) dX11_canBe_172 ?_
          refine r_iconst C dX11_canBe_173 ?_
          refine r_iadd C dX11_canBe_174 ?_
          obtain ⟨g12, hf⟩ := of_g hf
          obtain ⟨r13, μ14, hc15, hf⟩ := of_bd hf
          refine r_callVI C hCF (As := [nu ((μ8 333 v2.toNat) + 1)]) 300 (by decide) rfl (fx_m rfl) (ly_300 cy _ _) rfl (c_X11_pointOf g12 hc15) rfl (by decide) (by decide) ⟨Nat.le_refl 0, Nat.le_refl 0⟩ tw_1244 tw_1247 tw_10 tw_1246 ts_62 1 (by decide) rfl (Nat.le_of_ble_eq_true rfl) dX11_canBe_175 (fun hr17 => ?_)
          refine V_in (fun ho16 _ => ?_)
          refine r_istore C (lw := [some (rf 300), some (nu v1), some (nu v2), some (nu r7), some (nu r13), none]) rfl (by decide) dX11_canBe_178 ?_
          refine r_aload_n C 0 rfl rfl dX11_canBe_180 ?_
          refine r_getf C 300 (by decide) rfl (fx_m rfl) (ly_300 cy _ _) rfl in_X11 53 (by decide) tw_948 (v := rf 337) rfl dX11_canBe_181 ?_
          refine r_iload_n C 3 rfl rfl dX11_canBe_184 ?_
          obtain ⟨g18, hf⟩ := of_g hf
          refine r_aald C 337 (by decide) rfl (fx_m rfl) 5 (cA := cy 5) (n := 40) (ly_337 cy _ _) rfl rfl g18 (by decide) dX11_canBe_185 ?_
          refine r_iload C rfl dX11_canBe_186 ?_
          refine r_aload_n C 0 rfl rfl dX11_canBe_188 ?_
          refine r_getf C 300 (by decide) rfl (fx_m rfl) (ly_300 cy _ _) rfl in_X11 53 (by decide) tw_948 (v := rf 337) rfl dX11_canBe_189 ?_
          refine r_iload_n C 3 rfl rfl dX11_canBe_192 ?_
          refine r_aald C 337 (by decide) rfl (fx_m rfl) 5 (cA := cy 5) (n := 40) (ly_337 cy _ _) rfl rfl g18 (by decide) dX11_canBe_193 ?_
          refine r_iload C rfl dX11_canBe_194 ?_
          obtain ⟨g19, hf⟩ := of_g hf
          refine r_iald C _ (row0 (b := 338)) rfl (ba_r338 (rowz g18)) 0 (cA := cy 0) (n := 40) (ly_r338 cy _ (rowz g18) _) rfl g19 (by decide) dX11_canBe_196 ?_
          refine r_aload_n C 0 rfl rfl dX11_canBe_197 ?_
          refine r_getf C 300 (by decide) rfl (fx_m rfl) (ly_300 cy _ _) rfl in_X11 49 (by decide) tw_944 (v := rf 334) rfl dX11_canBe_198 ?_
          refine r_iload_n C 2 rfl rfl dX11_canBe_201 ?_
          refine r_iald C 334 (by decide) rfl (fx_m rfl) 0 (cA := cy 0) (n := 20) (ly_334 cy _ _) rfl g2 (by decide) dX11_canBe_202 ?_
          refine r_icmp_ge C 218 (ho16 _ _) (ho16 _ _) rfl dX11_canBe_203 (fun c20 => ?_) (fun c20 => ?_)
          · replace hf := if_t hf c20
            refine r_aload_n C 0 rfl rfl dX11_canBe_218 ?_
            refine r_getf C 300 (by decide) rfl (fx_m rfl) (ly_300 cy _ _) rfl in_X11 49 (by decide) tw_944 (v := rf 334) rfl dX11_canBe_219 ?_
            refine r_iload_n C 2 rfl rfl dX11_canBe_222 ?_
            refine r_iald C 334 (by decide) rfl (fx_m rfl) 0 (cA := cy 0) (n := 20) (ly_334 cy _ _) rfl g2 (by decide) dX11_canBe_223 ?_
            exact V_lw (w_X11_canBe_224 C hCF (f_X11_canBe_128 n) ih v1 v2 r7 r13 (μ14 334 v2.toNat) r13 (338 + (r7.toNat : Int)) μ14 hv1 hv2 hr11 hr17 (ho16 _ _) hr17 hf) (And.intro rfl (And.intro rfl (And.intro rfl (And.intro rfl (And.intro rfl trivial)))))
          · replace hf := if_f hf c20
            refine r_aload_n C 0 rfl rfl dX11_canBe_206 ?_
            refine r_getf C 300 (by decide) rfl (fx_m rfl) (ly_300 cy _ _) rfl in_X11 53 (by decide) tw_948 (v := rf 337) rfl dX11_canBe_207 ?_
            refine r_iload_n C 3 rfl rfl dX11_canBe_210 ?_
            refine r_aald C 337 (by decide) rfl (fx_m rfl) 5 (cA := cy 5) (n := 40) (ly_337 cy _ _) rfl rfl g18 (by decide) dX11_canBe_211 ?_
            refine r_iload C rfl dX11_canBe_212 ?_
            refine r_iald C _ (row0 (b := 338)) rfl (ba_r338 (rowz g18)) 0 (cA := cy 0) (n := 40) (ly_r338 cy _ (rowz g18) _) rfl g19 (by decide) dX11_canBe_214 ?_
            refine r_goto C 224 rfl dX11_canBe_215 ?_
            exact V_lw (w_X11_canBe_224 C hCF (f_X11_canBe_128 n) ih v1 v2 r7 r13 (μ14 (338 + (r7.toNat : Int)).toNat r13.toNat) r13 (338 + (r7.toNat : Int)) μ14 hv1 hv2 hr11 hr17 (ho16 _ _) hr17 hf) (And.intro rfl (And.intro rfl (And.intro rfl (And.intro rfl (And.intro rfl trivial)))))
set_option maxHeartbeats 4000000 in
set_option maxRecDepth 100000 in
theorem w_X11_canBe_76 {p : Program} {l : Launch} {e : Env} {s : State} {m : MethodId} {args : Array Value} {below : List Frame} {meth : Method} {c : Code} {D : va_G} {cy : Nat → ClassId} {A : Nat → Prop} {ids : List Nat} {ad : Nat → Nat} {r : Int} {μ' : Mem} (C : Cx p s m args meth c D (tyl cy) A 6 cX11_canBe yX11_canBe.cls (some .boolean)) (hCF : CF ad A s) (k66 : Int → Int → Mem → Option (Int × Mem)) (hk66 : ∀ (v1 v2 : Int) (μ : Mem), inR v1 → inR v2 → k66 v1 v2 μ = some (r, μ') → V p l e (rmk 4) s m args below meth c 0 0 (MQ below (aI D (tyl cy) (lay cy) ids ad A r μ') args s 0 0 A) D A (lay cy) ids ad 6 μ 66 [some (rf 300), some (nu v1), some (nu v2), none, none, none] []) : ∀ n : Nat, ∀ (v1 v2 v3 : Int) (μ : Mem), inR v1 → inR v2 → inR v3 → f_X11_canBe_76  k66 n v1 v2 v3 μ = some (r, μ') → V p l e (rmk 4) s m args below meth c 0 0 (MQ below (aI D (tyl cy) (lay cy) ids ad A r μ') args s 0 0 A) D A (lay cy) ids ad 6 μ 76 [some (rf 300), some (nu v1), some (nu v2), some (nu v3), none, none] [] := by
  intro n
  induction n with
  | zero =>
    intro v1 v2 v3 μ hv1 hv2 hv3 hf
    cases hf
  | succ n ih =>
    intro v1 v2 v3 μ hv1 hv2 hv3 hf
    rw [f_X11_canBe_76_e] at hf
    refine V_in (fun ho0 _ => ?_)
    refine r_iload_n C 3 rfl rfl dX11_canBe_76 ?_
    refine r_aload_n C 0 rfl rfl dX11_canBe_77 ?_
    refine r_getf C 300 (by decide) rfl (fx_m rfl) (ly_300 cy _ _) rfl in_X11 51 (by decide) tw_946 (v := nu (μ 300 51)) rfl dX11_canBe_78 ?_
    refine r_icmp_ge C 120 hv3 (ho0 _ _) rfl dX11_canBe_81 (fun c1 => ?_) (fun c1 => ?_)
    · replace hf := if_t hf c1
      refine r_iinc C rfl (lw := [some (rf 300), some (nu v1), some (nu (v2 + 1)), some (nu v3), none, none]) rfl (by decide) dX11_canBe_120 ?_
      refine r_goto C 66 rfl dX11_canBe_123 ?_
      obtain ⟨g2, hf⟩ := of_g hf
      exact V_lw (hk66 v1 (v2 + 1) μ hv1 g2 hf) (And.intro rfl (And.intro rfl (And.intro rfl trivial)))
    · replace hf := if_f hf c1
      refine r_aload_n C 0 rfl rfl dX11_canBe_84 ?_
      refine r_getf C 300 (by decide) rfl (fx_m rfl) (ly_300 cy _ _) rfl in_X11 53 (by decide) tw_948 (v := rf 337) rfl dX11_canBe_85 ?_
      refine r_iload_n C 2 rfl rfl dX11_canBe_88 ?_
      obtain ⟨g3, hf⟩ := of_g hf
      refine r_aald C 337 (by decide) rfl (fx_m rfl) 5 (cA := cy 5) (n := 40) (ly_337 cy _ _) rfl rfl g3 (by decide) dX11_canBe_89 ?_
      refine r_iload_n C 3 rfl rfl dX11_canBe_90 ?_
      refine r_aload_n C 0 rfl rfl dX11_canBe_91 ?_
      refine r_getf C 300 (by decide) rfl (fx_m rfl) (ly_300 cy _ _) rfl in_X11 52 (by decide) tw_947 (v := rf 336) rfl dX11_canBe_92 ?_
      refine r_iload_n C 3 rfl rfl dX11_canBe_95 ?_
      obtain ⟨g4, hf⟩ := of_g hf
      refine r_iald C 336 (by decide) rfl (fx_m rfl) 0 (cA := cy 0) (n := 40) (ly_336 cy _ _) rfl g4 (by decide) dX11_canBe_96 ?_
      refine r_aload_n C 0 rfl rfl dX11_canBe_97 ?_
      refine r_getf C 300 (by decide) rfl (fx_m rfl) (ly_300 cy _ _) rfl in_X11 52 (by decide) tw_947 (v := rf 336) rfl dX11_canBe_98 ?_
      refine r_iload_n C 2 rfl rfl dX11_canBe_101 ?_
      refine r_iald C 336 (by decide) rfl (fx_m rfl) 0 (cA := cy 0) (n := 40) (ly_336 cy _ _) rfl g3 (by decide) dX11_canBe_102 ?_
      refine r_icmp_gt C 110 (ho0 _ _) (ho0 _ _) rfl dX11_canBe_103 (fun c5 => ?_) (fun c5 => ?_)
      · replace hf := if_t hf c5
        refine r_ldcw C (n := 268435456) tw_1248 rfl dX11_canBe_110 ?_
        refine r_iast C _ (row0 (b := 338)) rfl (ba_r338 (rowz g3)) (row9 (b := 338) (rowz g3) (by decide)) 0 (cA := cy 0) (n := 40) (fun f => ly_r338 cy _ (rowz g3) f) rfl g4 (by decide) (inR_lit rfl) dX11_canBe_113 (fun μ6 hμ8 => ?_)
        replace hf := of_lm hf hμ8
        refine V_in (fun ho7 _ => ?_)
        refine r_iinc C rfl (lw := [some (rf 300), some (nu v1), some (nu v2), some (nu (v3 + 1)), none, none]) rfl (by decide) dX11_canBe_114 ?_
        refine r_goto C 76 rfl dX11_canBe_117 ?_
        obtain ⟨g9, hf⟩ := of_g hf
        exact V_lw (ih v1 v2 (v3 + 1) μ6 hv1 hv2 g9 hf) (And.intro rfl (And.intro rfl (And.intro rfl (And.intro rfl trivial))))
      · replace hf := if_f hf c5
        refine r_iconst C dX11_canBe_106 ?_
        refine r_goto C 113 rfl dX11_canBe_107 ?_
        refine r_iast C _ (row0 (b := 338)) rfl (ba_r338 (rowz g3)) (row9 (b := 338) (rowz g3) (by decide)) 0 (cA := cy 0) (n := 40) (fun f => ly_r338 cy _ (rowz g3) f) rfl g4 (by decide) (inR_lit rfl) dX11_canBe_113 (fun μ10 hμ12 => ?_)
        replace hf := of_lm hf hμ12
        refine V_in (fun ho11 _ => ?_)
        refine r_iinc C rfl (lw := [some (rf 300), some (nu v1), some (nu v2), some (nu (v3 + 1)), none, none]) rfl (by decide) dX11_canBe_114 ?_
        refine r_goto C 76 rfl dX11_canBe_117 ?_
        obtain ⟨g13, hf⟩ := of_g hf
        exact V_lw (ih v1 v2 (v3 + 1) μ10 hv1 hv2 g13 hf) (And.intro rfl (And.intro rfl (And.intro rfl (And.intro rfl trivial))))
set_option maxHeartbeats 4000000 in
set_option maxRecDepth 100000 in
theorem w_X11_canBe_66 {p : Program} {l : Launch} {e : Env} {s : State} {m : MethodId} {args : Array Value} {below : List Frame} {meth : Method} {c : Code} {D : va_G} {cy : Nat → ClassId} {A : Nat → Prop} {ids : List Nat} {ad : Nat → Nat} {r : Int} {μ' : Mem} (C : Cx p s m args meth c D (tyl cy) A 6 cX11_canBe yX11_canBe.cls (some .boolean)) (hCF : CF ad A s) : ∀ n : Nat, ∀ (v1 v2 : Int) (μ : Mem), inR v1 → inR v2 → f_X11_canBe_66   n v1 v2 μ = some (r, μ') → V p l e (rmk 4) s m args below meth c 0 0 (MQ below (aI D (tyl cy) (lay cy) ids ad A r μ') args s 0 0 A) D A (lay cy) ids ad 6 μ 66 [some (rf 300), some (nu v1), some (nu v2), none, none, none] [] := by
  intro n
  induction n with
  | zero =>
    intro v1 v2 μ hv1 hv2 hf
    cases hf
  | succ n ih =>
    intro v1 v2 μ hv1 hv2 hf
    rw [f_X11_canBe_66_e] at hf
    refine V_in (fun ho0 _ => ?_)
    refine r_iload_n C 2 rfl rfl dX11_canBe_66 ?_
    refine r_aload_n C 0 rfl rfl dX11_canBe_67 ?_
    refine r_getf C 300 (by decide) rfl (fx_m rfl) (ly_300 cy _ _) rfl in_X11 51 (by decide) tw_946 (v := nu (μ 300 51)) rfl dX11_canBe_68 ?_
    refine r_icmp_ge C 126 hv2 (ho0 _ _) rfl dX11_canBe_71 (fun c1 => ?_) (fun c1 => ?_)
    · replace hf := if_t hf c1
      refine r_iconst C dX11_canBe_126 ?_
      refine r_istore_n C 2 (lw := [some (rf 300), some (nu v1), some (nu 0), none, none, none]) rfl rfl (by decide) dX11_canBe_127 ?_
      exact V_lw (w_X11_canBe_128 C hCF 64 v1 0 μ hv1 (inR_lit rfl) hf) (And.intro rfl (And.intro rfl (And.intro rfl trivial)))
    · replace hf := if_f hf c1
      refine r_iconst C dX11_canBe_74 ?_
      refine r_istore_n C 3 (lw := [some (rf 300), some (nu v1), some (nu v2), some (nu 0), none, none]) rfl rfl (by decide) dX11_canBe_75 ?_
      exact V_lw (w_X11_canBe_76 C hCF (f_X11_canBe_66 n) ih 64 v1 v2 0 μ hv1 hv2 (inR_lit rfl) hf) (And.intro rfl (And.intro rfl (And.intro rfl (And.intro rfl trivial))))
set_option maxHeartbeats 4000000 in
set_option maxRecDepth 100000 in
theorem w_X11_canBe_7 {p : Program} {l : Launch} {e : Env} {s : State} {m : MethodId} {args : Array Value} {below : List Frame} {meth : Method} {c : Code} {D : va_G} {cy : Nat → ClassId} {A : Nat → Prop} {ids : List Nat} {ad : Nat → Nat} {r : Int} {μ' : Mem} (C : Cx p s m args meth c D (tyl cy) A 6 cX11_canBe yX11_canBe.cls (some .boolean)) (hCF : CF ad A s) : ∀ n : Nat, ∀ (v1 v2 : Int) (μ : Mem), inR v1 → inR v2 → f_X11_canBe_7   n v1 v2 μ = some (r, μ') → V p l e (rmk 4) s m args below meth c 0 0 (MQ below (aI D (tyl cy) (lay cy) ids ad A r μ') args s 0 0 A) D A (lay cy) ids ad 6 μ 7 [some (rf 300), some (nu v1), some (nu v2), none, none, none] [] := by
  intro n
  induction n with
  | zero =>
    intro v1 v2 μ hv1 hv2 hf
    cases hf
  | succ n ih =>
    intro v1 v2 μ hv1 hv2 hf
    rw [f_X11_canBe_7_e] at hf
    refine V_in (fun ho0 _ => ?_)
    refine r_iload_n C 2 rfl rfl dX11_canBe_7 ?_
    refine r_aload_n C 0 rfl rfl dX11_canBe_8 ?_
    refine r_getf C 300 (by decide) rfl (fx_m rfl) (ly_300 cy _ _) rfl in_X11 45 (by decide) tw_940 (v := nu (μ 300 45)) rfl dX11_canBe_9 ?_
    refine r_icmp_ge C 64 hv2 (ho0 _ _) rfl dX11_canBe_12 (fun c1 => ?_) (fun c1 => ?_)
    · replace hf := if_t hf c1
      refine r_iconst C dX11_canBe_64 ?_
      refine r_istore_n C 2 (lw := [some (rf 300), some (nu v1), some (nu 0), none, none, none]) rfl rfl (by decide) dX11_canBe_65 ?_
      exact V_lw (w_X11_canBe_66 C hCF 64 v1 0 μ hv1 (inR_lit rfl) hf) (And.intro rfl (And.intro rfl (And.intro rfl trivial)))
    · replace hf := if_f hf c1
      refine r_aload_n C 0 rfl rfl dX11_canBe_15 ?_
      refine r_getf C 300 (by decide) rfl (fx_m rfl) (ly_300 cy _ _) rfl in_X11 50 (by decide) tw_945 (v := rf 335) rfl dX11_canBe_16 ?_
      refine r_iload_n C 2 rfl rfl dX11_canBe_19 ?_
      obtain ⟨g2, hf⟩ := of_g hf
      refine r_zald C 335 (by decide) rfl (fx_m rfl) 2 (cA := cy 2) (n := 20) (ly_335 cy _ _) rfl g2 (by decide) dX11_canBe_20 ?_
      refine r_if_eq C 58 (ho0 _ _) rfl dX11_canBe_21 (fun c3 => ?_) (fun c3 => ?_)
      · replace hf := if_t hf c3
        refine r_iinc C rfl (lw := [some (rf 300), some (nu v1), some (nu (v2 + 1)), none, none, none]) rfl (by decide) dX11_canBe_58 ?_
        refine r_goto C 7 rfl dX11_canBe_61 ?_
        obtain ⟨g4, hf⟩ := of_g hf
        exact V_lw (ih v1 (v2 + 1) μ hv1 g4 hf) (And.intro rfl (And.intro rfl (And.intro rfl trivial)))
      · replace hf := if_f hf c3
        refine r_aload_n C 0 rfl rfl dX11_canBe_24 ?_
        refine r_getf C 300 (by decide) rfl (fx_m rfl) (ly_300 cy _ _) rfl in_X11 46 (by decide) tw_941 (v := rf 331) rfl dX11_canBe_25 ?_
        refine r_iload_n C 2 rfl rfl dX11_canBe_28 ?_
        refine r_iald C 331 (by decide) rfl (fx_m rfl) 0 (cA := cy 0) (n := 20) (ly_331 cy _ _) rfl g2 (by decide) dX11_canBe_29 ?_
        refine r_iload_n C 1 rfl rfl dX11_canBe_30 ?_
        refine r_icmp_ne C 58 (ho0 _ _) hv1 rfl dX11_canBe_31 (fun c5 => ?_) (fun c5 => ?_)
        · replace hf := if_f hf c5
          refine r_iinc C rfl (lw := [some (rf 300), some (nu v1), some (nu (v2 + 1)), none, none, none]) rfl (by decide) dX11_canBe_58 ?_
          refine r_goto C 7 rfl dX11_canBe_61 ?_
          obtain ⟨g6, hf⟩ := of_g hf
          exact V_lw (ih v1 (v2 + 1) μ hv1 g6 hf) (And.intro rfl (And.intro rfl (And.intro rfl trivial)))
        · replace hf := if_t hf c5
          refine r_aload_n C 0 rfl rfl dX11_canBe_34 ?_
          refine r_aload_n C 0 rfl rfl dX11_canBe_35 ?_
          refine r_getf C 300 (by decide) rfl (fx_m rfl) (ly_300 cy _ _) rfl in_X11 47 (by decide) tw_942 (v := rf 332) rfl dX11_canBe_36 ?_
          refine r_iload_n C 2 rfl rfl dX11_canBe_39 ?_
          refine r_iald C 332 (by decide) rfl (fx_m rfl) 0 (cA := cy 0) (n := 20) (ly_332 cy _ _) rfl g2 (by decide) dX11_canBe_40 ?_
          obtain ⟨r7, μ8, hc9, hf⟩ := of_bd hf
          refine r_callVI C hCF (As := [nu (μ 332 v2.toNat)]) 300 (by decide) rfl (fx_m rfl) (ly_300 cy _ _) rfl (c_X11_pointOf (ho0 _ _) hc9) rfl (by decide) (by decide) ⟨Nat.le_refl 0, Nat.le_refl 0⟩ tw_1244 tw_1247 tw_10 tw_1246 ts_62 1 (by decide) rfl (Nat.le_of_ble_eq_true rfl) dX11_canBe_41 (fun hr11 => ?_)
          refine V_in (fun ho10 _ => ?_)
          refine r_pop C dX11_canBe_44 ?_
          refine r_aload_n C 0 rfl rfl dX11_canBe_45 ?_
          refine r_aload_n C 0 rfl rfl dX11_canBe_46 ?_
          refine r_getf C 300 (by decide) rfl (fx_m rfl) (ly_300 cy _ _) rfl in_X11 48 (by decide) tw_943 (v := rf 333) rfl dX11_canBe_47 ?_
          refine r_iload_n C 2 rfl rfl dX11_canBe_50 ?_
          refine r_iald C 333 (by decide) rfl (fx_m rfl) 0 (cA := cy 0) (n := 20) (ly_333 cy _ _) rfl g2 (by decide) dX11_canBe_51 ?_
          refine r_iconst C dX11_canBe_52 ?_
          refine r_iadd C dX11_canBe_53 ?_
          obtain ⟨g12, hf⟩ := of_g hf
          obtain ⟨r13, μ14, hc15, hf⟩ := of_bd hf
          refine r_callVI C hCF (As := [nu ((μ8 333 v2.toNat) + 1)]) 300 (by decide) rfl (fx_m rfl) (ly_300 cy _ _) rfl (c_X11_pointOf g12 hc15) rfl (by decide) (by decide) ⟨Nat.le_refl 0, Nat.le_refl 0⟩ tw_1244 tw_1247 tw_10 tw_1246 ts_62 1 (by decide) rfl (Nat.le_of_ble_eq_true rfl) dX11_canBe_54 (fun hr17 => ?_)
          refine V_in (fun ho16 _ => ?_)
          refine r_pop C dX11_canBe_57 ?_
          refine r_iinc C rfl (lw := [some (rf 300), some (nu v1), some (nu (v2 + 1)), none, none, none]) rfl (by decide) dX11_canBe_58 ?_
          refine r_goto C 7 rfl dX11_canBe_61 ?_
          obtain ⟨g18, hf⟩ := of_g hf
          exact V_lw (ih v1 (v2 + 1) μ14 hv1 g18 hf) (And.intro rfl (And.intro rfl (And.intro rfl trivial)))
set_option maxHeartbeats 4000000 in
set_option maxRecDepth 100000 in
theorem c_X11_canBe {l : Launch} {D : va_G} {cy : Nat → ClassId} {ids : List Nat} {ad : Nat → Nat} {μ μ' : Mem} {a1 r : Int} (h1 : inR a1) (hf : f_X11_canBe μ a1 = some (r, μ')) : KK aI l D (tyl cy) (lay cy) ids ad 4 yX11_canBe cX11_canBe 6 (some .boolean) [rf 300, nu a1] μ r μ' := by
  refine KK.of (by decide +kernel) (Nat.le_of_ble_eq_true rfl) ?_
  intro p e s m args below meth c A C hCF
  unfold f_X11_canBe at hf
  refine V_in (fun ho0 _ => ?_)
  refine r_aload_n C 0 rfl rfl dX11_canBe_0 ?_
  refine r_iconst C dX11_canBe_1 ?_
  refine r_putf C 300 (by decide) rfl (fx_m rfl) (by decide) (ly_300 cy _ _) 51 (ly_300 cy _ _) rfl (Nat.le_of_ble_eq_true rfl) (inR_lit rfl) rfl in_X11 tyX11 tyX11_ok nmX11 (by decide) tw_946 rfl rfl dX11_canBe_2 (fun μ1 hμ3 => ?_)
  replace hf := of_lm hf hμ3
  refine V_in (fun ho2 _ => ?_)
  refine r_iconst C dX11_canBe_5 ?_
  refine r_istore_n C 2 (lw := [some (rf 300), some (nu a1), some (nu 0), none, none, none]) rfl rfl (by decide) dX11_canBe_6 ?_
  exact V_lw (w_X11_canBe_7 C hCF 64 a1 0 μ1 h1 (inR_lit rfl) hf) (And.intro rfl (And.intro rfl (And.intro rfl trivial)))
set_option maxHeartbeats 4000000 in
set_option maxRecDepth 100000 in
theorem w_X11_canBe__4 {p : Program} {l : Launch} {e : Env} {s : State} {m : MethodId} {args : Array Value} {below : List Frame} {meth : Method} {c : Code} {D : va_G} {cy : Nat → ClassId} {A : Nat → Prop} {ids : List Nat} {ad : Nat → Nat} {r : Int} {μ' : Mem} (C : Cx p s m args meth c D (tyl cy) A 3 cX11_canBe_ yX11_canBe_.cls (some .boolean)) (hCF : CF ad A s) : ∀ n : Nat, ∀ (v1 v2 : Int) (μ : Mem), inR v1 → inR v2 → f_X11_canBe__4   n v1 v2 μ = some (r, μ') → V p l e (rmk 6) s m args below meth c 0 0 (MQ below (aI D (tyl cy) (lay cy) ids ad A r μ') args s 0 0 A) D A (lay cy) ids ad 3 μ 4 [some (rf 300), some (nu v1), some (nu v2)] [] := by
  intro n
  induction n with
  | zero =>
    intro v1 v2 μ hv1 hv2 hf
    cases hf
  | succ n ih =>
    intro v1 v2 μ hv1 hv2 hf
    rw [f_X11_canBe__4_e] at hf
    refine V_in (fun ho0 _ => ?_)
    refine r_iload_n C 2 rfl rfl dX11_canBe__4 ?_
    refine r_bipush C dX11_canBe__5 rfl ?_
    refine r_icmp_ge C 26 hv2 (inR_lit rfl) rfl dX11_canBe__7 (fun c1 => ?_) (fun c1 => ?_)
    · replace hf := if_t hf c1
      refine r_iload_n C 1 rfl rfl dX11_canBe__26 ?_
      obtain ⟨g2, hf⟩ := of_g hf
      obtain ⟨rfl, rfl⟩ := of_ret hf
      exact r_zret C rfl g2 dX11_canBe__27
    · replace hf := if_f hf c1
      refine r_iload_n C 1 rfl rfl dX11_canBe__10 ?_
      refine r_if_eq C 26 hv1 rfl dX11_canBe__11 (fun c3 => ?_) (fun c3 => ?_)
      · replace hf := if_t hf c3
        refine r_iload_n C 1 rfl rfl dX11_canBe__26 ?_
        obtain ⟨g4, hf⟩ := of_g hf
        obtain ⟨rfl, rfl⟩ := of_ret hf
        exact r_zret C rfl g4 dX11_canBe__27
      · replace hf := if_f hf c3
        refine r_aload_n C 0 rfl rfl dX11_canBe__14 ?_
        refine r_iload_n C 2 rfl rfl dX11_canBe__15 ?_
        obtain ⟨r5, μ6, hc7, hf⟩ := of_bd hf
        refine r_callVI C hCF (As := [nu v2]) 300 (by decide) rfl (fx_m rfl) (ly_300 cy _ _) rfl (c_X11_canBe hv2 hc7) rfl (by decide) (by decide) ⟨Nat.le_refl 0, Nat.le_refl 0⟩ tw_1240 tw_1243 tw_10 tw_1242 ts_61 1 (by decide) rfl (Nat.le_of_ble_eq_true rfl) dX11_canBe__16 (fun hr9 => ?_)
        refine V_in (fun ho8 _ => ?_)
        refine r_istore_n C 1 (lw := [some (rf 300), some (nu r5), some (nu v2)]) rfl rfl (by decide) dX11_canBe__19 ?_
        refine r_iinc C rfl (lw := [some (rf 300), some (nu r5), some (nu (v2 + 1))]) rfl (by decide) dX11_canBe__20 ?_
        refine r_goto C 4 rfl dX11_canBe__23 ?_
        obtain ⟨g10, hf⟩ := of_g hf
        exact V_lw (ih r5 (v2 + 1) μ6 hr9 g10 hf) (And.intro rfl (And.intro rfl (And.intro rfl trivial)))
set_option maxHeartbeats 4000000 in
set_option maxRecDepth 100000 in
theorem c_X11_canBe_ {l : Launch} {D : va_G} {cy : Nat → ClassId} {ids : List Nat} {ad : Nat → Nat} {μ μ' : Mem} { r : Int}  (hf : f_X11_canBe_ μ  = some (r, μ')) : KK aI l D (tyl cy) (lay cy) ids ad 6 yX11_canBe_ cX11_canBe_ 3 (some .boolean) [rf 300] μ r μ' := by
  refine KK.of (by decide +kernel) (Nat.le_of_ble_eq_true rfl) ?_
  intro p e s m args below meth c A C hCF
  unfold f_X11_canBe_ at hf
  refine V_in (fun ho0 _ => ?_)
  refine r_iconst C dX11_canBe__0 ?_
  refine r_istore_n C 1 (lw := [some (rf 300), some (nu 1), none]) rfl rfl (by decide) dX11_canBe__1 ?_
  refine r_iconst C dX11_canBe__2 ?_
  refine r_istore_n C 2 (lw := [some (rf 300), some (nu 1), some (nu 0)]) rfl rfl (by decide) dX11_canBe__3 ?_
  exact V_lw (w_X11_canBe__4 C hCF 64 1 0 μ (inR_lit rfl) (inR_lit rfl) hf) (And.intro rfl (And.intro rfl (And.intro rfl trivial)))
set_option maxHeartbeats 4000000 in
set_option maxRecDepth 100000 in
theorem w_X11_quarrel_54 {p : Program} {l : Launch} {e : Env} {s : State} {m : MethodId} {args : Array Value} {below : List Frame} {meth : Method} {c : Code} {D : va_G} {cy : Nat → ClassId} {A : Nat → Prop} {ids : List Nat} {ad : Nat → Nat} {r : Int} {μ' : Mem} (C : Cx p s m args meth c D (tyl cy) A 3 cX11_quarrel yX11_quarrel.cls (some .int)) (hCF : CF ad A s) : ∀ n : Nat, ∀ (v1 v2 : Int) (μ : Mem), inR v1 → inR v2 → f_X11_quarrel_54   n v1 v2 μ = some (r, μ') → V p l e (rmk 8) s m args below meth c 0 0 (MQ below (aI D (tyl cy) (lay cy) ids ad A r μ') args s 0 0 A) D A (lay cy) ids ad 3 μ 54 [some (rf 300), some (nu v1), some (nu v2)] [] := by
  intro n
  induction n with
  | zero =>
    intro v1 v2 μ hv1 hv2 hf
    cases hf
  | succ n ih =>
    intro v1 v2 μ hv1 hv2 hf
    rw [f_X11_quarrel_54_e] at hf
    refine V_in (fun ho0 _ => ?_)
    refine r_iload_n C 2 rfl rfl dX11_quarrel_54 ?_
    refine r_if_lt C 91 hv2 rfl dX11_quarrel_55 (fun c1 => ?_) (fun c1 => ?_)
    · replace hf := if_t hf c1
      refine r_iload_n C 1 rfl rfl dX11_quarrel_91 ?_
      obtain ⟨rfl, rfl⟩ := of_ret hf
      exact r_iret C rfl hv1 dX11_quarrel_92
    · replace hf := if_f hf c1
      refine r_aload_n C 0 rfl rfl dX11_quarrel_58 ?_
      refine r_getf C 300 (by decide) rfl (fx_m rfl) (ly_300 cy _ _) rfl in_X11 50 (by decide) tw_945 (v := rf 335) rfl dX11_quarrel_59 ?_
      refine r_iload_n C 2 rfl rfl dX11_quarrel_62 ?_
      refine r_iconst C dX11_quarrel_63 ?_
      obtain ⟨g2, hf⟩ := of_g hf
      refine r_zast C 335 (by decide) rfl (fx_m rfl) (by decide) 2 (cA := cy 2) (n := 20) (fun f => ly_335 cy _ f) rfl g2 (by decide) (zI_rng _) dX11_quarrel_64 (fun μ3 hμ5 => ?_)
      replace hf := of_lm hf hμ5
      refine V_in (fun ho4 _ => ?_)
      refine r_aload_n C 0 rfl rfl dX11_quarrel_65 ?_
      obtain ⟨r6, μ7, hc8, hf⟩ := of_bd hf
      refine r_callVI C hCF (As := []) 300 (by decide) rfl (fx_m rfl) (ly_300 cy _ _) rfl (c_X11_canBe_ hc8) rfl (by decide) (by decide) ⟨Nat.le_refl 0, Nat.le_refl 0⟩ tw_1236 tw_1239 tw_10 tw_1238 ts_60 0 (by decide) rfl (Nat.le_of_ble_eq_true rfl) dX11_quarrel_66 (fun hr10 => ?_)
      refine V_in (fun ho9 _ => ?_)
      refine r_if_eq C 82 hr10 rfl dX11_quarrel_69 (fun c11 => ?_) (fun c11 => ?_)
      · replace hf := if_t hf c11
        refine r_iinc C rfl (lw := [some (rf 300), some (nu (v1 + (-1))), some (nu v2)]) rfl (by decide) dX11_quarrel_82 ?_
        refine r_iinc C rfl (lw := [some (rf 300), some (nu (v1 + (-1))), some (nu (v2 + (-1)))]) rfl (by decide) dX11_quarrel_85 ?_
        refine r_goto C 54 rfl dX11_quarrel_88 ?_
        obtain ⟨g12, hf⟩ := of_g hf
        obtain ⟨g13, hf⟩ := of_g hf
        exact V_lw (ih (v1 + (-1)) (v2 + (-1)) μ7 g12 g13 hf) (And.intro rfl (And.intro rfl (And.intro rfl trivial)))
      · replace hf := if_f hf c11
        refine r_aload_n C 0 rfl rfl dX11_quarrel_72 ?_
        refine r_getf C 300 (by decide) rfl (fx_m rfl) (ly_300 cy _ _) rfl in_X11 50 (by decide) tw_945 (v := rf 335) rfl dX11_quarrel_73 ?_
        refine r_iload_n C 2 rfl rfl dX11_quarrel_76 ?_
        refine r_iconst C dX11_quarrel_77 ?_
        refine r_zast C 335 (by decide) rfl (fx_m rfl) (by decide) 2 (cA := cy 2) (n := 20) (fun f => ly_335 cy _ f) rfl g2 (by decide) (zI_rng _) dX11_quarrel_78 (fun μ14 hμ16 => ?_)
        replace hf := of_lm hf hμ16
        refine V_in (fun ho15 _ => ?_)
        refine r_goto C 85 rfl dX11_quarrel_79 ?_
        refine r_iinc C rfl (lw := [some (rf 300), some (nu v1), some (nu (v2 + (-1)))]) rfl (by decide) dX11_quarrel_85 ?_
        refine r_goto C 54 rfl dX11_quarrel_88 ?_
        obtain ⟨g17, hf⟩ := of_g hf
        exact V_lw (ih v1 (v2 + (-1)) μ14 hv1 g17 hf) (And.intro rfl (And.intro rfl (And.intro rfl trivial)))
set_option maxHeartbeats 4000000 in
set_option maxRecDepth 100000 in
theorem w_X11_quarrel_2 {p : Program} {l : Launch} {e : Env} {s : State} {m : MethodId} {args : Array Value} {below : List Frame} {meth : Method} {c : Code} {D : va_G} {cy : Nat → ClassId} {A : Nat → Prop} {ids : List Nat} {ad : Nat → Nat} {r : Int} {μ' : Mem} (C : Cx p s m args meth c D (tyl cy) A 3 cX11_quarrel yX11_quarrel.cls (some .int)) (hCF : CF ad A s) : ∀ n : Nat, ∀ (v1 : Int) (μ : Mem), inR v1 → f_X11_quarrel_2   n v1 μ = some (r, μ') → V p l e (rmk 8) s m args below meth c 0 0 (MQ below (aI D (tyl cy) (lay cy) ids ad A r μ') args s 0 0 A) D A (lay cy) ids ad 3 μ 2 [some (rf 300), some (nu v1), none] [] := by
  intro n
  induction n with
  | zero =>
    intro v1 μ hv1 hf
    cases hf
  | succ n ih =>
    intro v1 μ hv1 hf
    rw [f_X11_quarrel_2_e] at hf
    refine V_in (fun ho0 _ => ?_)
    refine r_iload_n C 1 rfl rfl dX11_quarrel_2 ?_
    refine r_bipush C dX11_quarrel_3 rfl ?_
    refine r_icmp_ge C 33 hv1 (inR_lit rfl) rfl dX11_quarrel_5 (fun c1 => ?_) (fun c1 => ?_)
    · replace hf := if_t hf c1
      refine r_aload_n C 0 rfl rfl dX11_quarrel_33 ?_
      obtain ⟨r2, μ3, hc4, hf⟩ := of_bd hf
      refine r_callVI C hCF (As := []) 300 (by decide) rfl (fx_m rfl) (ly_300 cy _ _) rfl (c_X11_canBe_ hc4) rfl (by decide) (by decide) ⟨Nat.le_refl 0, Nat.le_refl 0⟩ tw_1236 tw_1239 tw_10 tw_1238 ts_60 0 (by decide) rfl (Nat.le_of_ble_eq_true rfl) dX11_quarrel_34 (fun hr6 => ?_)
      refine V_in (fun ho5 _ => ?_)
      refine r_if_eq C 42 hr6 rfl dX11_quarrel_37 (fun c7 => ?_) (fun c7 => ?_)
      · replace hf := if_t hf c7
        refine r_aload_n C 0 rfl rfl dX11_quarrel_42 ?_
        refine r_getf C 300 (by decide) rfl (fx_m rfl) (ly_300 cy _ _) rfl in_X11 45 (by decide) tw_940 (v := nu (μ3 300 45)) rfl dX11_quarrel_43 ?_
        refine r_istore_n C 1 (lw := [some (rf 300), some (nu (μ3 300 45)), none]) rfl rfl (by decide) dX11_quarrel_46 ?_
        refine r_aload_n C 0 rfl rfl dX11_quarrel_47 ?_
        refine r_getf C 300 (by decide) rfl (fx_m rfl) (ly_300 cy _ _) rfl in_X11 45 (by decide) tw_940 (v := nu (μ3 300 45)) rfl dX11_quarrel_48 ?_
        refine r_iconst C dX11_quarrel_51 ?_
        refine r_isub C dX11_quarrel_52 ?_
        refine r_istore_n C 2 (lw := [some (rf 300), some (nu (μ3 300 45)), some (nu ((μ3 300 45) - 1))]) rfl rfl (by decide) dX11_quarrel_53 ?_
        obtain ⟨g8, hf⟩ := of_g hf
        exact V_lw (w_X11_quarrel_54 C hCF 64 (μ3 300 45) ((μ3 300 45) - 1) μ3 (ho5 _ _) g8 hf) (And.intro rfl (And.intro rfl (And.intro rfl trivial)))
      · replace hf := if_f hf c7
        refine r_iconst C dX11_quarrel_40 ?_
        obtain ⟨rfl, rfl⟩ := of_ret hf
        exact r_iret C rfl (inR_lit rfl) dX11_quarrel_41
    · replace hf := if_f hf c1
      refine r_aload_n C 0 rfl rfl dX11_quarrel_8 ?_
      refine r_getf C 300 (by decide) rfl (fx_m rfl) (ly_300 cy _ _) rfl in_X11 50 (by decide) tw_945 (v := rf 335) rfl dX11_quarrel_9 ?_
      refine r_iload_n C 1 rfl rfl dX11_quarrel_12 ?_
      refine r_iload_n C 1 rfl rfl dX11_quarrel_13 ?_
      refine r_aload_n C 0 rfl rfl dX11_quarrel_14 ?_
      refine r_getf C 300 (by decide) rfl (fx_m rfl) (ly_300 cy _ _) rfl in_X11 45 (by decide) tw_940 (v := nu (μ 300 45)) rfl dX11_quarrel_15 ?_
      refine r_icmp_ge C 25 hv1 (ho0 _ _) rfl dX11_quarrel_18 (fun c9 => ?_) (fun c9 => ?_)
      · replace hf := if_t hf c9
        refine r_iconst C dX11_quarrel_25 ?_
        obtain ⟨g10, hf⟩ := of_g hf
        refine r_zast C 335 (by decide) rfl (fx_m rfl) (by decide) 2 (cA := cy 2) (n := 20) (fun f => ly_335 cy _ f) rfl g10 (by decide) (zI_rng _) dX11_quarrel_26 (fun μ11 hμ13 => ?_)
        replace hf := of_lm hf hμ13
        refine V_in (fun ho12 _ => ?_)
        refine r_iinc C rfl (lw := [some (rf 300), some (nu (v1 + 1)), none]) rfl (by decide) dX11_quarrel_27 ?_
        refine r_goto C 2 rfl dX11_quarrel_30 ?_
        obtain ⟨g14, hf⟩ := of_g hf
        exact V_lw (ih (v1 + 1) μ11 g14 hf) (And.intro rfl (And.intro rfl trivial))
      · replace hf := if_f hf c9
        refine r_iconst C dX11_quarrel_21 ?_
        refine r_goto C 26 rfl dX11_quarrel_22 ?_
        obtain ⟨g15, hf⟩ := of_g hf
        refine r_zast C 335 (by decide) rfl (fx_m rfl) (by decide) 2 (cA := cy 2) (n := 20) (fun f => ly_335 cy _ f) rfl g15 (by decide) (zI_rng _) dX11_quarrel_26 (fun μ16 hμ18 => ?_)
        replace hf := of_lm hf hμ18
        refine V_in (fun ho17 _ => ?_)
        refine r_iinc C rfl (lw := [some (rf 300), some (nu (v1 + 1)), none]) rfl (by decide) dX11_quarrel_27 ?_
        refine r_goto C 2 rfl dX11_quarrel_30 ?_
        obtain ⟨g19, hf⟩ := of_g hf
        exact V_lw (ih (v1 + 1) μ16 g19 hf) (And.intro rfl (And.intro rfl trivial))
set_option maxHeartbeats 4000000 in
set_option maxRecDepth 100000 in
theorem c_X11_quarrel {l : Launch} {D : va_G} {cy : Nat → ClassId} {ids : List Nat} {ad : Nat → Nat} {μ μ' : Mem} { r : Int}  (hf : f_X11_quarrel μ  = some (r, μ')) : KK aI l D (tyl cy) (lay cy) ids ad 8 yX11_quarrel cX11_quarrel 3 (some .int) [rf 300] μ r μ' := by
  refine KK.of (by decide +kernel) (Nat.le_of_ble_eq_true rfl) ?_
  intro p e s m args below meth c A C hCF
  unfold f_X11_quarrel at hf
  refine V_in (fun ho0 _ => ?_)
  refine r_iconst C dX11_quarrel_0 ?_
  refine r_istore_n C 1 (lw := [some (rf 300), some (nu 0), none]) rfl rfl (by decide) dX11_quarrel_1 ?_
  exact V_lw (w_X11_quarrel_2 C hCF 64 0 μ (inR_lit rfl) hf) (And.intro rfl (And.intro rfl trivial))
set_option maxHeartbeats 4000000 in
set_option maxRecDepth 100000 in
theorem w_X11_quarrels_10 {p : Program} {l : Launch} {e : Env} {s : State} {m : MethodId} {args : Array Value} {below : List Frame} {meth : Method} {c : Code} {D : va_G} {cy : Nat → ClassId} {A : Nat → Prop} {ids : List Nat} {ad : Nat → Nat} {r : Int} {μ' : Mem} (C : Cx p s m args meth c D (tyl cy) A 5 cX11_quarrels yX11_quarrels.cls (some .int)) (hCF : CF ad A s) : ∀ n : Nat, ∀ (v1 v2 v3 v4 : Int) (μ : Mem), inR v1 → inR v2 → inR v3 → inR v4 → f_X11_quarrels_10   n v1 v2 v3 v4 μ = some (r, μ') → V p l e (rmk 10) s m args below meth c 0 0 (MQ below (aI D (tyl cy) (lay cy) ids ad A r μ') args s 0 0 A) D A (lay cy) ids ad 5 μ 10 [some (rf 300), some (nu v1), some (nu v2), some (nu v3), some (nu v4)] [] := by
  intro n
  induction n with
  | zero =>
    intro v1 v2 v3 v4 μ hv1 hv2 hv3 hv4 hf
    cases hf
  | succ n ih =>
    intro v1 v2 v3 v4 μ hv1 hv2 hv3 hv4 hf
    rw [f_X11_quarrels_10_e] at hf
    refine V_in (fun ho0 _ => ?_)
    refine r_iload C rfl dX11_quarrels_10 ?_
    refine r_aload_n C 0 rfl rfl dX11_quarrels_12 ?_
    refine r_getf C 300 (by decide) rfl (fx_m rfl) (ly_300 cy _ _) rfl in_X11 45 (by decide) tw_940 (v := nu (μ 300 45)) rfl dX11_quarrels_13 ?_
    refine r_icmp_ge C 56 hv4 (ho0 _ _) rfl dX11_quarrels_16 (fun c1 => ?_) (fun c1 => ?_)
    · replace hf := if_t hf c1
      refine r_iconst C dX11_quarrels_56 ?_
      obtain ⟨rfl, rfl⟩ := of_ret hf
      exact r_iret C rfl (inR_lit rfl) dX11_quarrels_57
    · replace hf := if_f hf c1
      refine r_iload_n C 1 rfl rfl dX11_quarrels_19 ?_
      refine r_iconst C dX11_quarrels_20 ?_
      refine r_iload_n C 2 rfl rfl dX11_quarrels_21 ?_
      refine r_iconst C dX11_quarrels_22 ?_
      refine r_isub C dX11_quarrels_23 ?_
      obtain ⟨g2, hf⟩ := of_g hf
      obtain ⟨r3, μ4, hc5, hf⟩ := of_bd hf
      refine r_callSI C hCF (As := [nu v1, nu 0, nu (v2 - 1)]) (c_X11_in hv1 (inR_lit rfl) g2 hc5) rfl (by decide) (by decide) ⟨Nat.le_refl 0, Nat.le_refl 0⟩ tw_1063 tw_1065 tw_10 tw_1064 3 (by decide) rfl (Nat.le_of_ble_eq_true rfl) dX11_quarrels_24 (fun hr7 => ?_)
      refine V_in (fun ho6 _ => ?_)
      refine r_if_eq C 56 hr7 rfl dX11_quarrels_27 (fun c8 => ?_) (fun c8 => ?_)
      · replace hf := if_t hf c8
        refine r_iconst C dX11_quarrels_56 ?_
        obtain ⟨rfl, rfl⟩ := of_ret hf
        exact r_iret C rfl (inR_lit rfl) dX11_quarrels_57
      · replace hf := if_f hf c8
        refine r_aload_n C 0 rfl rfl dX11_quarrels_30 ?_
        refine r_getf C 300 (by decide) rfl (fx_m rfl) (ly_300 cy _ _) rfl in_X11 50 (by decide) tw_945 (v := rf 335) rfl dX11_quarrels_31 ?_
        refine r_iload C rfl dX11_quarrels_34 ?_
        obtain ⟨g9, hf⟩ := of_g hf
        refine r_zald C 335 (by decide) rfl (fx_m rfl) 2 (cA := cy 2) (n := 20) (ly_335 cy _ _) rfl g9 (by decide) dX11_quarrels_36 ?_
        refine r_if_eq C 50 (ho6 _ _) rfl dX11_quarrels_37 (fun c10 => ?_) (fun c10 => ?_)
        · replace hf := if_t hf c10
          refine r_iinc C rfl (lw := [some (rf 300), some (nu v1), some (nu v2), some (nu v3), some (nu (v4 + 1))]) rfl (by decide) dX11_quarrels_50 ?_
          refine r_goto C 10 rfl dX11_quarrels_53 ?_
          obtain ⟨g11, hf⟩ := of_g hf
          exact V_lw (ih v1 v2 v3 (v4 + 1) μ4 hv1 hv2 hv3 g11 hf) (And.intro rfl (And.intro rfl (And.intro rfl (And.intro rfl (And.intro rfl trivial)))))
        · replace hf := if_f hf c10
          refine r_iload_n C 3 rfl rfl dX11_quarrels_40 ?_
          refine r_if_ne C 47 hv3 rfl dX11_quarrels_41 (fun c12 => ?_) (fun c12 => ?_)
          · replace hf := if_f hf c12
            refine r_iinc C rfl (lw := [some (rf 300), some (nu v1), some (nu v2), some (nu (v3 + (-1))), some (nu v4)]) rfl (by decide) dX11_quarrels_47 ?_
            refine r_iinc C rfl (lw := [some (rf 300), some (nu v1), some (nu v2), some (nu (v3 + (-1))), some (nu (v4 + 1))]) rfl (by decide) dX11_quarrels_50 ?_
            refine r_goto C 10 rfl dX11_quarrels_53 ?_
            obtain ⟨g13, hf⟩ := of_g hf
            obtain ⟨g14, hf⟩ := of_g hf
            exact V_lw (ih v1 v2 (v3 + (-1)) (v4 + 1) μ4 hv1 hv2 g13 g14 hf) (And.intro rfl (And.intro rfl (And.intro rfl (And.intro rfl (And.intro rfl trivial)))))
          · replace hf := if_t hf c12
            refine r_iload C rfl dX11_quarrels_44 ?_
            obtain ⟨rfl, rfl⟩ := of_ret hf
            exact r_iret C rfl hv4 dX11_quarrels_46
set_option maxHeartbeats 4000000 in
set_option maxRecDepth 100000 in
theorem c_X11_quarrels {l : Launch} {D : va_G} {cy : Nat → ClassId} {ids : List Nat} {ad : Nat → Nat} {μ μ' : Mem} {a1 r : Int} (h1 : inR a1) (hf : f_X11_quarrels μ a1 = some (r, μ')) : KK aI l D (tyl cy) (lay cy) ids ad 10 yX11_quarrels cX11_quarrels 5 (some .int) [rf 300, nu a1] μ r μ' := by
  refine KK.of (by decide +kernel) (Nat.le_of_ble_eq_true rfl) ?_
  intro p e s m args below meth c A C hCF
  unfold f_X11_quarrels at hf
  refine V_in (fun ho0 _ => ?_)
  refine r_aload_n C 0 rfl rfl dX11_quarrels_0 ?_
  obtain ⟨r1, μ2, hc3, hf⟩ := of_bd hf
  refine r_callVI C hCF (As := []) 300 (by decide) rfl (fx_m rfl) (ly_300 cy _ _) rfl (c_X11_quarrel hc3) rfl (by decide) (by decide) ⟨Nat.le_refl 0, Nat.le_refl 0⟩ tw_1253 tw_1235 tw_10 tw_1233 tw_1234 0 (by decide) rfl (Nat.le_of_ble_eq_true rfl) dX11_quarrels_1 (fun hr5 => ?_)
  refine V_in (fun ho4 _ => ?_)
  refine r_istore_n C 2 (lw := [some (rf 300), some (nu a1), some (nu r1), none, none]) rfl rfl (by decide) dX11_quarrels_4 ?_
  refine r_iload_n C 1 rfl rfl dX11_quarrels_5 ?_
  refine r_istore_n C 3 (lw := [some (rf 300), some (nu a1), some (nu r1), some (nu a1), none]) rfl rfl (by decide) dX11_quarrels_6 ?_
  refine r_iconst C dX11_quarrels_7 ?_
  refine r_istore C (lw := [some (rf 300), some (nu a1), some (nu r1), some (nu a1), some (nu 0)]) rfl (by decide) dX11_quarrels_8 ?_
  exact V_lw (w_X11_quarrels_10 C hCF 64 a1 r1 a1 0 μ2 h1 hr5 h1 (inR_lit rfl) hf) (And.intro rfl (And.intro rfl (And.intro rfl (And.intro rfl (And.intro rfl trivial)))))
set_option maxHeartbeats 4000000 in
set_option maxRecDepth 100000 in
theorem w_X11_count_115 {p : Program} {l : Launch} {e : Env} {s : State} {m : MethodId} {args : Array Value} {below : List Frame} {meth : Method} {c : Code} {D : va_G} {cy : Nat → ClassId} {A : Nat → Prop} {ids : List Nat} {ad : Nat → Nat} {r : Int} {μ' : Mem} (C : Cx p s m args meth c D (tyl cy) A 4 cX11_count yX11_count.cls (some .int)) (hCF : CF ad A s) : ∀ n : Nat, ∀ (v1 v2 v3 : Int) (μ : Mem), inR v1 → inR v2 → inR v3 → f_X11_count_115   n v1 v2 v3 μ = some (r, μ') → V p l e (rmk 4) s m args below meth c 0 0 (MQ below (aI D (tyl cy) (lay cy) ids ad A r μ') args s 0 0 A) D A (lay cy) ids ad 4 μ 115 [some (rf 300), some (nu v1), some (nu v2), some (nu v3)] [] := by
  intro n
  induction n with
  | zero =>
    intro v1 v2 v3 μ hv1 hv2 hv3 hf
    cases hf
  | succ n ih =>
    intro v1 v2 v3 μ hv1 hv2 hv3 hf
    rw [f_X11_count_115_e] at hf
    refine V_in (fun ho0 _ => ?_)
    refine r_iload_n C 3 rfl rfl dX11_count_115 ?_
    refine r_aload_n C 0 rfl rfl dX11_count_116 ?_
    refine r_getf C 300 (by decide) rfl (fx_m rfl) (ly_300 cy _ _) rfl in_X11 26 (by decide) tw_921 (v := nu (μ 300 26)) rfl dX11_count_117 ?_
    refine r_icmp_ge C 147 hv3 (ho0 _ _) rfl dX11_count_120 (fun c1 => ?_) (fun c1 => ?_)
    · replace hf := if_t hf c1
      refine r_iload_n C 2 rfl rfl dX11_count_147 ?_
      obtain ⟨rfl, rfl⟩ := of_ret hf
      exact r_iret C rfl hv2 dX11_count_148
    · replace hf := if_f hf c1
      refine r_iload_n C 2 rfl rfl dX11_count_123 ?_
      refine r_aload_n C 0 rfl rfl dX11_count_124 ?_
      refine r_getf C 300 (by decide) rfl (fx_m rfl) (ly_300 cy _ _) rfl in_X11 29 (by decide) tw_924 (v := rf 317) rfl dX11_count_125 ?_
      refine r_iload_n C 3 rfl rfl dX11_count_128 ?_
      obtain ⟨g2, hf⟩ := of_g hf
      refine r_iald C 317 (by decide) rfl (fx_m rfl) 0 (cA := cy 0) (n := 30) (ly_317 cy _ _) rfl g2 (by decide) dX11_count_129 ?_
      refine r_iload_n C 1 rfl rfl dX11_count_130 ?_
      refine r_icmp_ne C 138 (ho0 _ _) hv1 rfl dX11_count_131 (fun c3 => ?_) (fun c3 => ?_)
      · replace hf := if_f hf c3
        refine r_iconst C dX11_count_138 ?_
        refine r_iadd C dX11_count_139 ?_
        refine r_istore_n C 2 (lw := [some (rf 300), some (nu v1), some (nu (v2 + 0)), some (nu v3)]) rfl rfl (by decide) dX11_count_140 ?_
        refine r_iinc C rfl (lw := [some (rf 300), some (nu v1), some (nu (v2 + 0)), some (nu (v3 + 1))]) rfl (by decide) dX11_count_141 ?_
        refine r_goto C 115 rfl dX11_count_144 ?_
        obtain ⟨g4, hf⟩ := of_g hf
        obtain ⟨g5, hf⟩ := of_g hf
        exact V_lw (ih v1 (v2 + 0) (v3 + 1) μ hv1 g4 g5 hf) (And.intro rfl (And.intro rfl (And.intro rfl (And.intro rfl trivial))))
      · replace hf := if_t hf c3
        refine r_iconst C dX11_count_134 ?_
        refine r_goto C 139 rfl dX11_count_135 ?_
        refine r_iadd C dX11_count_139 ?_
        refine r_istore_n C 2 (lw := [some (rf 300), some (nu v1), some (nu (v2 + 1)), some (nu v3)]) rfl rfl (by decide) dX11_count_140 ?_
        refine r_iinc C rfl (lw := [some (rf 300), some (nu v1), some (nu (v2 + 1)), some (nu (v3 + 1))]) rfl (by decide) dX11_count_141 ?_
        refine r_goto C 115 rfl dX11_count_144 ?_
        obtain ⟨g6, hf⟩ := of_g hf
        obtain ⟨g7, hf⟩ := of_g hf
        exact V_lw (ih v1 (v2 + 1) (v3 + 1) μ hv1 g6 g7 hf) (And.intro rfl (And.intro rfl (And.intro rfl (And.intro rfl trivial))))
set_option maxHeartbeats 4000000 in
set_option maxRecDepth 100000 in
theorem c_X11_count {l : Launch} {D : va_G} {cy : Nat → ClassId} {ids : List Nat} {ad : Nat → Nat} {μ μ' : Mem} {a1 r : Int} (h1 : inR a1) (hf : f_X11_count μ a1 = some (r, μ')) : KK aI l D (tyl cy) (lay cy) ids ad 4 yX11_count cX11_count 4 (some .int) [rf 300, nu a1] μ r μ' := by
  refine KK.of (by decide +kernel) (Nat.le_of_ble_eq_true rfl) ?_
  intro p e s m args below meth c A C hCF
  unfold f_X11_count at hf
  refine V_in (fun ho0 _ => ?_)
  refine r_iconst C dX11_count_0 ?_
  refine r_istore_n C 2 (lw := [some (rf 300), some (nu a1), some (nu 0), none]) rfl rfl (by decide) dX11_count_1 ?_
  refine r_iload_n C 1 rfl rfl dX11_count_2 ?_
  refine r_bipush C dX11_count_3 rfl ?_
  refine r_bipush C dX11_count_5 rfl ?_
  obtain ⟨r1, μ2, hc3, hf⟩ := of_bd hf
  refine r_callSI C hCF (As := [nu a1, nu 20, nu 28]) (c_X11_in h1 (inR_lit rfl) (inR_lit rfl) hc3) rfl (by decide) (by decide) ⟨Nat.le_refl 0, Nat.le_refl 0⟩ tw_1063 tw_1065 tw_10 tw_1064 3 (by decide) rfl (Nat.le_of_ble_eq_true rfl) dX11_count_7 (fun hr5 => ?_)
  refine V_in (fun ho4 _ => ?_)
  refine r_if_eq C 23 hr5 rfl dX11_count_10 (fun c6 => ?_) (fun c6 => ?_)
  · replace hf := if_t hf c6
    refine r_iload_n C 1 rfl rfl dX11_count_23 ?_
    by_cases c7 : a1 = 0
    · replace hf := if_t hf c7
      refine r_swIn C 88 0 c7 (inR_lit rfl) (by decide) (by decide) rfl rfl dX11_count_24 ?_
      refine r_aload_n C 0 rfl rfl dX11_count_88 ?_
      refine r_getf C 300 (by decide) rfl (fx_m rfl) (ly_300 cy _ _) rfl in_X11 1 (by decide) tw_896 (v := nu (μ2 300 1)) rfl dX11_count_89 ?_
      obtain ⟨rfl, rfl⟩ := of_ret hf
      exact r_iret C rfl (ho4 _ _) dX11_count_92
    replace hf := if_f hf c7
    by_cases c8 : a1 = 1
    · replace hf := if_t hf c8
      refine r_swIn C 93 1 c8 (inR_lit rfl) (by decide) (by decide) rfl rfl dX11_count_24 ?_
      refine r_aload_n C 0 rfl rfl dX11_count_93 ?_
      refine r_getf C 300 (by decide) rfl (fx_m rfl) (ly_300 cy _ _) rfl in_X11 2 (by decide) tw_897 (v := nu (μ2 300 2)) rfl dX11_count_94 ?_
      obtain ⟨rfl, rfl⟩ := of_ret hf
      exact r_iret C rfl (ho4 _ _) dX11_count_97
    replace hf := if_f hf c8
    by_cases c9 : a1 = 2
    · replace hf := if_t hf c9
      refine r_swIn C 98 2 c9 (inR_lit rfl) (by decide) (by decide) rfl rfl dX11_count_24 ?_
      refine r_aload_n C 0 rfl rfl dX11_count_98 ?_
      refine r_getf C 300 (by decide) rfl (fx_m rfl) (ly_300 cy _ _) rfl in_X11 26 (by decide) tw_921 (v := nu (μ2 300 26)) rfl dX11_count_99 ?_
      obtain ⟨rfl, rfl⟩ := of_ret hf
      exact r_iret C rfl (ho4 _ _) dX11_count_102
    replace hf := if_f hf c9
    by_cases c10 : a1 = 3
    · replace hf := if_t hf c10
      refine r_swIn C 103 3 c10 (inR_lit rfl) (by decide) (by decide) rfl rfl dX11_count_24 ?_
      refine r_aload_n C 0 rfl rfl dX11_count_103 ?_
      refine r_getf C 300 (by decide) rfl (fx_m rfl) (ly_300 cy _ _) rfl in_X11 15 (by decide) tw_910 (v := nu (μ2 300 15)) rfl dX11_count_104 ?_
      obtain ⟨rfl, rfl⟩ := of_ret hf
      exact r_iret C rfl (ho4 _ _) dX11_count_107
    replace hf := if_f hf c10
    by_cases c11 : a1 = 4
    · replace hf := if_t hf c11
      refine r_swIn C 108 4 c11 (inR_lit rfl) (by decide) (by decide) rfl rfl dX11_count_24 ?_
      refine r_aload_n C 0 rfl rfl dX11_count_108 ?_
      refine r_getf C 300 (by decide) rfl (fx_m rfl) (ly_300 cy _ _) rfl in_X11 17 (by decide) tw_912 (v := nu (μ2 300 17)) rfl dX11_count_109 ?_
      obtain ⟨rfl, rfl⟩ := of_ret hf
      exact r_iret C rfl (ho4 _ _) dX11_count_112
    replace hf := if_f hf c11
    by_cases c12 : a1 = 5
    · replace hf := if_t hf c12
      refine r_swIn C 113 5 c12 (inR_lit rfl) (by decide) (by decide) rfl rfl dX11_count_24 ?_
      refine r_iconst C dX11_count_113 ?_
      refine r_istore_n C 3 (lw := [some (rf 300), some (nu a1), some (nu 0), some (nu 0)]) rfl rfl (by decide) dX11_count_114 ?_
      exact V_lw (w_X11_count_115 C hCF 64 a1 0 0 μ2 h1 (inR_lit rfl) (inR_lit rfl) hf) (And.intro rfl (And.intro rfl (And.intro rfl (And.intro rfl trivial))))
    replace hf := if_f hf c12
    by_cases c13 : a1 = 6
    · replace hf := if_t hf c13
      refine r_swIn C 113 6 c13 (inR_lit rfl) (by decide) (by decide) rfl rfl dX11_count_24 ?_
      refine r_iconst C dX11_count_113 ?_
      refine r_istore_n C 3 (lw := [some (rf 300), some (nu a1), some (nu 0), some (nu 0)]) rfl rfl (by decide) dX11_count_114 ?_
      exact V_lw (w_X11_count_115 C hCF 64 a1 0 0 μ2 h1 (inR_lit rfl) (inR_lit rfl) hf) (And.intro rfl (And.intro rfl (And.intro rfl (And.intro rfl trivial))))
    replace hf := if_f hf c13
    by_cases c14 : a1 = 7
    · replace hf := if_t hf c14
      refine r_swIn C 149 7 c14 (inR_lit rfl) (by decide) (by decide) rfl rfl dX11_count_24 ?_
      refine r_aload_n C 0 rfl rfl dX11_count_149 ?_
      refine r_getf C 300 (by decide) rfl (fx_m rfl) (ly_300 cy _ _) rfl in_X11 3 (by decide) tw_898 (v := nu (μ2 300 3)) rfl dX11_count_150 ?_
      obtain ⟨rfl, rfl⟩ := of_ret hf
      exact r_iret C rfl (ho4 _ _) dX11_count_153
    replace hf := if_f hf c14
    by_cases c15 : a1 = 8
    · replace hf := if_t hf c15
      refine r_swIn C 154 8 c15 (inR_lit rfl) (by decide) (by decide) rfl rfl dX11_count_24 ?_
      refine r_aload_n C 0 rfl rfl dX11_count_154 ?_
      refine r_getf C 300 (by decide) rfl (fx_m rfl) (ly_300 cy _ _) rfl in_X11 4 (by decide) tw_899 (v := nu (μ2 300 4)) rfl dX11_count_155 ?_
      obtain ⟨rfl, rfl⟩ := of_ret hf
      exact r_iret C rfl (ho4 _ _) dX11_count_158
    replace hf := if_f hf c15
    by_cases c16 : a1 = 9
    · replace hf := if_t hf c16
      refine r_swIn C 159 9 c16 (inR_lit rfl) (by decide) (by decide) rfl rfl dX11_count_24 ?_
      refine r_aload_n C 0 rfl rfl dX11_count_159 ?_
      refine r_getf C 300 (by decide) rfl (fx_m rfl) (ly_300 cy _ _) rfl in_X11 19 (by decide) tw_914 (v := nu (μ2 300 19)) rfl dX11_count_160 ?_
      obtain ⟨rfl, rfl⟩ := of_ret hf
      exact r_iret C rfl (ho4 _ _) dX11_count_163
    replace hf := if_f hf c16
    by_cases c17 : a1 = 10
    · replace hf := if_t hf c17
      refine r_swIn C 164 10 c17 (inR_lit rfl) (by decide) (by decide) rfl rfl dX11_count_24 ?_
      refine r_aload_n C 0 rfl rfl dX11_count_164 ?_
      refine r_getf C 300 (by decide) rfl (fx_m rfl) (ly_300 cy _ _) rfl in_X11 45 (by decide) tw_940 (v := nu (μ2 300 45)) rfl dX11_count_165 ?_
      obtain ⟨rfl, rfl⟩ := of_ret hf
      exact r_iret C rfl (ho4 _ _) dX11_count_168
    replace hf := if_f hf c17
    by_cases c18 : a1 = 11
    · replace hf := if_t hf c18
      refine r_swIn C 169 11 c18 (inR_lit rfl) (by decide) (by decide) rfl rfl dX11_count_24 ?_
      refine r_aload_n C 0 rfl rfl dX11_count_169 ?_
      refine r_getf C 300 (by decide) rfl (fx_m rfl) (ly_300 cy _ _) rfl in_X11 16 (by decide) tw_911 (v := nu (μ2 300 16)) rfl dX11_count_170 ?_
      obtain ⟨rfl, rfl⟩ := of_ret hf
      exact r_iret C rfl (ho4 _ _) dX11_count_173
    replace hf := if_f hf c18
    refine r_swOut C 174 h1 (by omega) rfl dX11_count_24 ?_
    refine r_iconst C dX11_count_174 ?_
    obtain ⟨rfl, rfl⟩ := of_ret hf
    exact r_iret C rfl (inR_lit rfl) dX11_count_175
  · replace hf := if_f hf c6
    refine r_aload_n C 0 rfl rfl dX11_count_13 ?_
    refine r_getf C 300 (by decide) rfl (fx_m rfl) (ly_300 cy _ _) rfl in_X11 23 (by decide) tw_918 (v := rf 312) rfl dX11_count_14 ?_
    refine r_iload_n C 1 rfl rfl dX11_count_17 ?_
    refine r_bipush C dX11_count_18 rfl ?_
    refine r_isub C dX11_count_20 ?_
    obtain ⟨g19, hf⟩ := of_g hf
    refine r_iald C 312 (by decide) rfl (fx_m rfl) 0 (cA := cy 0) (n := 9) (ly_312 cy _ _) rfl g19 (by decide) dX11_count_21 ?_
    obtain ⟨rfl, rfl⟩ := of_ret hf
    exact r_iret C rfl (ho4 _ _) dX11_count_22
