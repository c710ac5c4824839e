set_option maxHeartbeats 4000000 in
set_option maxRecDepth 100000 in
theorem c_X11_in {l : Launch} {D : va_G} {cy : Nat → ClassId} {ids : List Nat} {ad : Nat → Nat} {μ μ' : Mem} {a1 a2 a3 r : Int} (h1 : inR a1) (h2 : inR a2) (h3 : inR a3) (hf : f_X11_in μ a1 a2 a3 = some (r, μ')) : KK aI l D (tyl cy) (lay cy) ids ad 2 yX11_in cX11_in 3 (some .boolean) [nu a1, nu a2, nu a3] μ r μ' := by
  refine KK.of (by decide +kernel) (Nat.le_of_ble_eq_true rfl) ?_
  intro p e s m args below meth c A C hCF
  unfold f_X11_in at hf
  refine V_in (fun ho0 _ => ?_)
  refine r_iload_n C 0 rfl rfl dX11_in_0 ?_
  refine r_iload_n C 1 rfl rfl dX11_in_1 ?_
  refine r_icmp_lt C 14 h1 h2 rfl dX11_in_2 (fun c1 => ?_) (fun c1 => ?_)
  · replace hf := if_t hf c1
    refine r_iconst C dX11_in_14 ?_
    obtain ⟨rfl, rfl⟩ := of_ret hf
    exact r_zret C rfl (by decide) dX11_in_15
  · replace hf := if_f hf c1
    refine r_iload_n C 0 rfl rfl dX11_in_5 ?_
    refine r_iload_n C 2 rfl rfl dX11_in_6 ?_
    refine r_icmp_gt C 14 h1 h3 rfl dX11_in_7 (fun c2 => ?_) (fun c2 => ?_)
    · replace hf := if_t hf c2
      refine r_iconst C dX11_in_14 ?_
      obtain ⟨rfl, rfl⟩ := of_ret hf
      exact r_zret C rfl (by decide) dX11_in_15
    · replace hf := if_f hf c2
      refine r_iconst C dX11_in_10 ?_
      refine r_goto C 15 rfl dX11_in_11 ?_
      obtain ⟨rfl, rfl⟩ := of_ret hf
      exact r_zret C rfl (by decide) dX11_in_15
set_option maxHeartbeats 4000000 in
set_option maxRecDepth 100000 in
theorem c_X11_isEnd {l : Launch} {D : va_G} {cy : Nat → ClassId} {ids : List Nat} {ad : Nat → Nat} {μ μ' : Mem} { r : Int}  (hf : f_X11_isEnd μ  = some (r, μ')) : KK aI l D (tyl cy) (lay cy) ids ad 2 yX11_isEnd cX11_isEnd 1 (some .boolean) [rf 300] μ r μ' := by
  refine KK.of (by decide +kernel) (Nat.le_of_ble_eq_true rfl) ?_
  intro p e s m args below meth c A C hCF
  unfold f_X11_isEnd at hf
  refine V_in (fun ho0 _ => ?_)
  refine r_aload_n C 0 rfl rfl dX11_isEnd_0 ?_
  refine r_getf C 300 (by decide) rfl (fx_m rfl) (ly_300 cy _ _) rfl in_X11 1 (by decide) tw_896 (v := nu (μ 300 1)) rfl dX11_isEnd_1 ?_
  refine r_sipush C dX11_isEnd_4 rfl ?_
  refine r_icmp_le C 14 (ho0 _ _) (inR_lit rfl) rfl dX11_isEnd_7 (fun c1 => ?_) (fun c1 => ?_)
  · replace hf := if_t hf c1
    refine r_iconst C dX11_isEnd_14 ?_
    obtain ⟨rfl, rfl⟩ := of_ret hf
    exact r_zret C rfl (by decide) dX11_isEnd_15
  · replace hf := if_f hf c1
    refine r_iconst C dX11_isEnd_10 ?_
    refine r_goto C 15 rfl dX11_isEnd_11 ?_
    obtain ⟨rfl, rfl⟩ := of_ret hf
    exact r_zret C rfl (by decide) dX11_isEnd_15
set_option maxHeartbeats 4000000 in
set_option maxRecDepth 100000 in
theorem c_X11_gang {l : Launch} {D : va_G} {cy : Nat → ClassId} {ids : List Nat} {ad : Nat → Nat} {μ μ' : Mem} {a1 r : Int} (h1 : inR a1) (hf : f_X11_gang μ a1 = some (r, μ')) : KK aI l D (tyl cy) (lay cy) ids ad 4 yX11_gang cX11_gang 2 (some .int) [rf 300, nu a1] μ r μ' := by
  refine KK.of (by decide +kernel) (Nat.le_of_ble_eq_true rfl) ?_
  intro p e s m args below meth c A C hCF
  unfold f_X11_gang at hf
  refine V_in (fun ho0 _ => ?_)
  refine r_aload_n C 0 rfl rfl dX11_gang_0 ?_
  refine r_getf C 300 (by decide) rfl (fx_m rfl) (ly_300 cy _ _) rfl in_X11 2 (by decide) tw_897 (v := nu (μ 300 2)) rfl dX11_gang_1 ?_
  refine r_bipush C dX11_gang_4 rfl ?_
  refine r_icmp_eq C 20 (ho0 _ _) (inR_lit rfl) rfl dX11_gang_6 (fun c1 => ?_) (fun c1 => ?_)
  · replace hf := if_t hf c1
    refine r_iconst C dX11_gang_20 ?_
    obtain ⟨rfl, rfl⟩ := of_ret hf
    exact r_iret C rfl (inR_lit rfl) dX11_gang_21
  · replace hf := if_f hf c1
    refine r_iload_n C 1 rfl rfl dX11_gang_9 ?_
    refine r_iconst C dX11_gang_10 ?_
    refine r_sipush C dX11_gang_11 rfl ?_
    obtain ⟨r2, μ3, hc4, hf⟩ := of_bd hf
    refine r_callSI C hCF (As := [nu a1, nu 1, nu 200]) (c_X11_in h1 (inR_lit rfl) (inR_lit rfl) hc4) rfl (by decide) (by decide) ⟨Nat.le_refl 0, Nat.le_refl 0⟩ tw_1063 tw_1065 tw_10 tw_1064 3 (by decide) rfl (Nat.le_of_ble_eq_true rfl) dX11_gang_14 (fun hr6 => ?_)
    refine V_in (fun ho5 _ => ?_)
    refine r_if_ne C 22 hr6 rfl dX11_gang_17 (fun c7 => ?_) (fun c7 => ?_)
    · replace hf := if_f hf c7
      refine r_aload_n C 0 rfl rfl dX11_gang_22 ?_
      refine r_getf C 300 (by decide) rfl (fx_m rfl) (ly_300 cy _ _) rfl in_X11 5 (by decide) tw_900 (v := rf 301) rfl dX11_gang_23 ?_
      refine r_aload_n C 0 rfl rfl dX11_gang_26 ?_
      refine r_getf C 300 (by decide) rfl (fx_m rfl) (ly_300 cy _ _) rfl in_X11 2 (by decide) tw_897 (v := nu (μ3 300 2)) rfl dX11_gang_27 ?_
      refine r_iload_n C 1 rfl rfl dX11_gang_30 ?_
      obtain ⟨g8, hf⟩ := of_g hf
      refine r_iast C 301 (by decide) rfl (fx_m rfl) (by decide) 0 (cA := cy 0) (n := 6) (fun f => ly_301 cy _ f) rfl g8 (by decide) h1 dX11_gang_31 (fun μ9 hμ11 => ?_)
      replace hf := of_lm hf hμ11
      refine V_in (fun ho10 _ => ?_)
      refine r_aload_n C 0 rfl rfl dX11_gang_32 ?_
      refine r_dup C dX11_gang_33 ?_
      refine r_getf C 300 (by decide) rfl (fx_m rfl) (ly_300 cy _ _) rfl in_X11 2 (by decide) tw_897 (v := nu (μ9 300 2)) rfl dX11_gang_34 ?_
      refine r_iconst C dX11_gang_37 ?_
      refine r_iadd C dX11_gang_38 ?_
      obtain ⟨g12, hf⟩ := of_g hf
      refine r_putf C 300 (by decide) rfl (fx_m rfl) (by decide) (ly_300 cy _ _) 2 (ly_300 cy _ _) rfl (Nat.le_of_ble_eq_true rfl) g12 rfl in_X11 tyX11 tyX11_ok nmX11 (by decide) tw_897 rfl rfl dX11_gang_39 (fun μ13 hμ15 => ?_)
      replace hf := of_lm hf hμ15
      refine V_in (fun ho14 _ => ?_)
      refine r_aload_n C 0 rfl rfl dX11_gang_42 ?_
      refine r_getf C 300 (by decide) rfl (fx_m rfl) (ly_300 cy _ _) rfl in_X11 2 (by decide) tw_897 (v := nu (μ13 300 2)) rfl dX11_gang_43 ?_
      refine r_iconst C dX11_gang_46 ?_
      refine r_isub C dX11_gang_47 ?_
      obtain ⟨g16, hf⟩ := of_g hf
      obtain ⟨rfl, rfl⟩ := of_ret hf
      exact r_iret C rfl g16 dX11_gang_48
    · replace hf := if_t hf c7
      refine r_iconst C dX11_gang_20 ?_
      obtain ⟨rfl, rfl⟩ := of_ret hf
      exact r_iret C rfl (inR_lit rfl) dX11_gang_21
set_option maxHeartbeats 4000000 in
set_option maxRecDepth 100000 in
theorem c_X11_boat {l : Launch} {D : va_G} {cy : Nat → ClassId} {ids : List Nat} {ad : Nat → Nat} {μ μ' : Mem} {a1 a2 r : Int} (h1 : inR a1) (h2 : inR a2) (hf : f_X11_boat μ a1 a2 = some (r, μ')) : KK aI l D (tyl cy) (lay cy) ids ad 4 yX11_boat cX11_boat 3 (some .int) [rf 300, nu a1, nu a2] μ r μ' := by
  refine KK.of (by decide +kernel) (Nat.le_of_ble_eq_true rfl) ?_
  intro p e s m args below meth c A C hCF
  unfold f_X11_boat at hf
  refine V_in (fun ho0 _ => ?_)
  refine r_aload_n C 0 rfl rfl dX11_boat_0 ?_
  refine r_getf C 300 (by decide) rfl (fx_m rfl) (ly_300 cy _ _) rfl in_X11 3 (by decide) tw_898 (v := nu (μ 300 3)) rfl dX11_boat_1 ?_
  refine r_bipush C dX11_boat_4 rfl ?_
  refine r_icmp_eq C 33 (ho0 _ _) (inR_lit rfl) rfl dX11_boat_6 (fun c1 => ?_) (fun c1 => ?_)
  · replace hf := if_t hf c1
    refine r_iconst C dX11_boat_33 ?_
    obtain ⟨rfl, rfl⟩ := of_ret hf
    exact r_iret C rfl (inR_lit rfl) dX11_boat_34
  · replace hf := if_f hf c1
    refine r_iload_n C 1 rfl rfl dX11_boat_9 ?_
    refine r_aload_n C 0 rfl rfl dX11_boat_10 ?_
    refine r_getf C 300 (by decide) rfl (fx_m rfl) (ly_300 cy _ _) rfl in_X11 1 (by decide) tw_896 (v := nu (μ 300 1)) rfl dX11_boat_11 ?_
    refine r_sipush C dX11_boat_14 rfl ?_
    obtain ⟨r2, μ3, hc4, hf⟩ := of_bd hf
    refine r_callSI C hCF (As := [nu a1, nu (μ 300 1), nu 3000]) (c_X11_in h1 (ho0 _ _) (inR_lit rfl) hc4) rfl (by decide) (by decide) ⟨Nat.le_refl 0, Nat.le_refl 0⟩ tw_1063 tw_1065 tw_10 tw_1064 3 (by decide) rfl (Nat.le_of_ble_eq_true rfl) dX11_boat_17 (fun hr6 => ?_)
    refine V_in (fun ho5 _ => ?_)
    refine r_if_eq C 33 hr6 rfl dX11_boat_20 (fun c7 => ?_) (fun c7 => ?_)
    · replace hf := if_t hf c7
      refine r_iconst C dX11_boat_33 ?_
      obtain ⟨rfl, rfl⟩ := of_ret hf
      exact r_iret C rfl (inR_lit rfl) dX11_boat_34
    · replace hf := if_f hf c7
      refine r_iload_n C 2 rfl rfl dX11_boat_23 ?_
      refine r_iconst C dX11_boat_24 ?_
      refine r_ldc C (n := 1000000) tw_1070 rfl dX11_boat_25 ?_
      obtain ⟨r8, μ9, hc10, hf⟩ := of_bd hf
      refine r_callSI C hCF (As := [nu a2, nu 1, nu 1000000]) (c_X11_in h2 (inR_lit rfl) (inR_lit rfl) hc10) rfl (by decide) (by decide) ⟨Nat.le_refl 0, Nat.le_refl 0⟩ tw_1063 tw_1065 tw_10 tw_1064 3 (by decide) rfl (Nat.le_of_ble_eq_true rfl) dX11_boat_27 (fun hr12 => ?_)
      refine V_in (fun ho11 _ => ?_)
      refine r_if_ne C 35 hr12 rfl dX11_boat_30 (fun c13 => ?_) (fun c13 => ?_)
      · replace hf := if_f hf c13
        refine r_aload_n C 0 rfl rfl dX11_boat_35 ?_
        refine r_getf C 300 (by decide) rfl (fx_m rfl) (ly_300 cy _ _) rfl in_X11 10 (by decide) tw_905 (v := rf 306) rfl dX11_boat_36 ?_
        refine r_aload_n C 0 rfl rfl dX11_boat_39 ?_
        refine r_getf C 300 (by decide) rfl (fx_m rfl) (ly_300 cy _ _) rfl in_X11 3 (by decide) tw_898 (v := nu (μ9 300 3)) rfl dX11_boat_40 ?_
        refine r_iload_n C 1 rfl rfl dX11_boat_43 ?_
        obtain ⟨g14, hf⟩ := of_g hf
        refine r_iast C 306 (by decide) rfl (fx_m rfl) (by decide) 0 (cA := cy 0) (n := 40) (fun f => ly_306 cy _ f) rfl g14 (by decide) h1 dX11_boat_44 (fun μ15 hμ17 => ?_)
        replace hf := of_lm hf hμ17
        refine V_in (fun ho16 _ => ?_)
        refine r_aload_n C 0 rfl rfl dX11_boat_45 ?_
        refine r_getf C 300 (by decide) rfl (fx_m rfl) (ly_300 cy _ _) rfl in_X11 11 (by decide) tw_906 (v := rf 307) rfl dX11_boat_46 ?_
        refine r_aload_n C 0 rfl rfl dX11_boat_49 ?_
        refine r_getf C 300 (by decide) rfl (fx_m rfl) (ly_300 cy _ _) rfl in_X11 3 (by decide) tw_898 (v := nu (μ15 300 3)) rfl dX11_boat_50 ?_
        refine r_iload_n C 2 rfl rfl dX11_boat_53 ?_
        obtain ⟨g18, hf⟩ := of_g hf
        refine r_iast C 307 (by decide) rfl (fx_m rfl) (by decide) 0 (cA := cy 0) (n := 40) (fun f => ly_307 cy _ f) rfl g18 (by decide) h2 dX11_boat_54 (fun μ19 hμ21 => ?_)
        replace hf := of_lm hf hμ21
        refine V_in (fun ho20 _ => ?_)
        refine r_aload_n C 0 rfl rfl dX11_boat_55 ?_
        refine r_dup C dX11_boat_56 ?_
        refine r_getf C 300 (by decide) rfl (fx_m rfl) (ly_300 cy _ _) rfl in_X11 3 (by decide) tw_898 (v := nu (μ19 300 3)) rfl dX11_boat_57 ?_
        refine r_iconst C dX11_boat_60 ?_
        refine r_iadd C dX11_boat_61 ?_
        obtain ⟨g22, hf⟩ := of_g hf
        refine r_putf C 300 (by decide) rfl (fx_m rfl) (by decide) (ly_300 cy _ _) 3 (ly_300 cy _ _) rfl (Nat.le_of_ble_eq_true rfl) g22 rfl in_X11 tyX11 tyX11_ok nmX11 (by decide) tw_898 rfl rfl dX11_boat_62 (fun μ23 hμ25 => ?_)
        replace hf := of_lm hf hμ25
        refine V_in (fun ho24 _ => ?_)
        refine r_aload_n C 0 rfl rfl dX11_boat_65 ?_
        refine r_getf C 300 (by decide) rfl (fx_m rfl) (ly_300 cy _ _) rfl in_X11 3 (by decide) tw_898 (v := nu (μ23 300 3)) rfl dX11_boat_66 ?_
        obtain ⟨rfl, rfl⟩ := of_ret hf
        exact r_iret C rfl (ho24 _ _) dX11_boat_69
      · replace hf := if_t hf c13
        refine r_iconst C dX11_boat_33 ?_
        obtain ⟨rfl, rfl⟩ := of_ret hf
        exact r_iret C rfl (inR_lit rfl) dX11_boat_34
set_option maxHeartbeats 4000000 in
set_option maxRecDepth 100000 in
theorem c_X11_spell {l : Launch} {D : va_G} {cy : Nat → ClassId} {ids : List Nat} {ad : Nat → Nat} {μ μ' : Mem} {a1 a2 a3 r : Int} (h1 : inR a1) (h2 : inR a2) (h3 : inR a3) (hf : f_X11_spell μ a1 a2 a3 = some (r, μ')) : KK aI l D (tyl cy) (lay cy) ids ad 4 yX11_spell cX11_spell 4 (some .int) [rf 300, nu a1, nu a2, nu a3] μ r μ' := by
  refine KK.of (by decide +kernel) (Nat.le_of_ble_eq_true rfl) ?_
  intro p e s m args below meth c A C hCF
  unfold f_X11_spell at hf
  refine V_in (fun ho0 _ => ?_)
  refine r_aload_n C 0 rfl rfl dX11_spell_0 ?_
  refine r_getf C 300 (by decide) rfl (fx_m rfl) (ly_300 cy _ _) rfl in_X11 4 (by decide) tw_899 (v := nu (μ 300 4)) rfl dX11_spell_1 ?_
  refine r_bipush C dX11_spell_4 rfl ?_
  refine r_icmp_eq C 40 (ho0 _ _) (inR_lit rfl) rfl dX11_spell_6 (fun c1 => ?_) (fun c1 => ?_)
  · replace hf := if_t hf c1
    refine r_iconst C dX11_spell_40 ?_
    obtain ⟨rfl, rfl⟩ := of_ret hf
    exact r_iret C rfl (inR_lit rfl) dX11_spell_41
  · replace hf := if_f hf c1
    refine r_iload_n C 1 rfl rfl dX11_spell_9 ?_
    refine r_iconst C dX11_spell_10 ?_
    refine r_iconst C dX11_spell_11 ?_
    obtain ⟨r2, μ3, hc4, hf⟩ := of_bd hf
    refine r_callSI C hCF (As := [nu a1, nu 0, nu 2]) (c_X11_in h1 (inR_lit rfl) (inR_lit rfl) hc4) rfl (by decide) (by decide) ⟨Nat.le_refl 0, Nat.le_refl 0⟩ tw_1063 tw_1065 tw_10 tw_1064 3 (by decide) rfl (Nat.le_of_ble_eq_true rfl) dX11_spell_12 (fun hr6 => ?_)
    refine V_in (fun ho5 _ => ?_)
    refine r_if_eq C 40 hr6 rfl dX11_spell_15 (fun c7 => ?_) (fun c7 => ?_)
    · replace hf := if_t hf c7
      refine r_iconst C dX11_spell_40 ?_
      obtain ⟨rfl, rfl⟩ := of_ret hf
      exact r_iret C rfl (inR_lit rfl) dX11_spell_41
    · replace hf := if_f hf c7
      refine r_iload_n C 2 rfl rfl dX11_spell_18 ?_
      refine r_iconst C dX11_spell_19 ?_
      refine r_sipush C dX11_spell_20 rfl ?_
      obtain ⟨r8, μ9, hc10, hf⟩ := of_bd hf
      refine r_callSI C hCF (As := [nu a2, nu 0, nu 3000]) (c_X11_in h2 (inR_lit rfl) (inR_lit rfl) hc10) rfl (by decide) (by decide) ⟨Nat.le_refl 0, Nat.le_refl 0⟩ tw_1063 tw_1065 tw_10 tw_1064 3 (by decide) rfl (Nat.le_of_ble_eq_true rfl) dX11_spell_23 (fun hr12 => ?_)
      refine V_in (fun ho11 _ => ?_)
      refine r_if_eq C 40 hr12 rfl dX11_spell_26 (fun c13 => ?_) (fun c13 => ?_)
      · replace hf := if_t hf c13
        refine r_iconst C dX11_spell_40 ?_
        obtain ⟨rfl, rfl⟩ := of_ret hf
        exact r_iret C rfl (inR_lit rfl) dX11_spell_41
      · replace hf := if_f hf c13
        refine r_iload_n C 3 rfl rfl dX11_spell_29 ?_
        refine r_iload_n C 2 rfl rfl dX11_spell_30 ?_
        refine r_sipush C dX11_spell_31 rfl ?_
        obtain ⟨r14, μ15, hc16, hf⟩ := of_bd hf
        refine r_callSI C hCF (As := [nu a3, nu a2, nu 3000]) (c_X11_in h3 h2 (inR_lit rfl) hc16) rfl (by decide) (by decide) ⟨Nat.le_refl 0, Nat.le_refl 0⟩ tw_1063 tw_1065 tw_10 tw_1064 3 (by decide) rfl (Nat.le_of_ble_eq_true rfl) dX11_spell_34 (fun hr18 => ?_)
        refine V_in (fun ho17 _ => ?_)
        refine r_if_ne C 42 hr18 rfl dX11_spell_37 (fun c19 => ?_) (fun c19 => ?_)
        · replace hf := if_f hf c19
          refine r_aload_n C 0 rfl rfl dX11_spell_42 ?_
          refine r_getf C 300 (by decide) rfl (fx_m rfl) (ly_300 cy _ _) rfl in_X11 12 (by decide) tw_907 (v := rf 308) rfl dX11_spell_43 ?_
          refine r_aload_n C 0 rfl rfl dX11_spell_46 ?_
          refine r_getf C 300 (by decide) rfl (fx_m rfl) (ly_300 cy _ _) rfl in_X11 4 (by decide) tw_899 (v := nu (μ15 300 4)) rfl dX11_spell_47 ?_
          refine r_iload_n C 1 rfl rfl dX11_spell_50 ?_
          obtain ⟨g20, hf⟩ := of_g hf
          refine r_iast C 308 (by decide) rfl (fx_m rfl) (by decide) 0 (cA := cy 0) (n := 40) (fun f => ly_308 cy _ f) rfl g20 (by decide) h1 dX11_spell_51 (fun μ21 hμ23 => ?_)
          replace hf := of_lm hf hμ23
          refine V_in (fun ho22 _ => ?_)
          refine r_aload_n C 0 rfl rfl dX11_spell_52 ?_
          refine r_getf C 300 (by decide) rfl (fx_m rfl) (ly_300 cy _ _) rfl in_X11 13 (by decide) tw_908 (v := rf 309) rfl dX11_spell_53 ?_
          refine r_aload_n C 0 rfl rfl dX11_spell_56 ?_
          refine r_getf C 300 (by decide) rfl (fx_m rfl) (ly_300 cy _ _) rfl in_X11 4 (by decide) tw_899 (v := nu (μ21 300 4)) rfl dX11_spell_57 ?_
          refine r_iload_n C 2 rfl rfl dX11_spell_60 ?_
          obtain ⟨g24, hf⟩ := of_g hf
          refine r_iast C 309 (by decide) rfl (fx_m rfl) (by decide) 0 (cA := cy 0) (n := 40) (fun f => ly_309 cy _ f) rfl g24 (by decide) h2 dX11_spell_61 (fun μ25 hμ27 => ?_)
          replace hf := of_lm hf hμ27
          refine V_in (fun ho26 _ => ?_)
          refine r_aload_n C 0 rfl rfl dX11_spell_62 ?_
          refine r_getf C 300 (by decide) rfl (fx_m rfl) (ly_300 cy _ _) rfl in_X11 14 (by decide) tw_909 (v := rf 310) rfl dX11_spell_63 ?_
          refine r_aload_n C 0 rfl rfl dX11_spell_66 ?_
          refine r_getf C 300 (by decide) rfl (fx_m rfl) (ly_300 cy _ _) rfl in_X11 4 (by decide) tw_899 (v := nu (μ25 300 4)) rfl dX11_spell_67 ?_
          refine r_iload_n C 3 rfl rfl dX11_spell_70 ?_
          obtain ⟨g28, hf⟩ := of_g hf
          refine r_iast C 310 (by decide) rfl (fx_m rfl) (by decide) 0 (cA := cy 0) (n := 40) (fun f => ly_310 cy _ f) rfl g28 (by decide) h3 dX11_spell_71 (fun μ29 hμ31 => ?_)
          replace hf := of_lm hf hμ31
          refine V_in (fun ho30 _ => ?_)
          refine r_aload_n C 0 rfl rfl dX11_spell_72 ?_
          refine r_dup C dX11_spell_73 ?_
          refine r_getf C 300 (by decide) rfl (fx_m rfl) (ly_300 cy _ _) rfl in_X11 4 (by decide) tw_899 (v := nu (μ29 300 4)) rfl dX11_spell_74 ?_
          refine r_iconst C dX11_spell_77 ?_
          refine r_iadd C dX11_spell_78 ?_
          obtain ⟨g32, hf⟩ := of_g hf
          refine r_putf C 300 (by decide) rfl (fx_m rfl) (by decide) (ly_300 cy _ _) 4 (ly_300 cy _ _) rfl (Nat.le_of_ble_eq_true rfl) g32 rfl in_X11 tyX11 tyX11_ok nmX11 (by decide) tw_899 rfl rfl dX11_spell_79 (fun μ33 hμ35 => ?_)
          replace hf := of_lm hf hμ35
          refine V_in (fun ho34 _ => ?_)
          refine r_aload_n C 0 rfl rfl dX11_spell_82 ?_
          refine r_getf C 300 (by decide) rfl (fx_m rfl) (ly_300 cy _ _) rfl in_X11 4 (by decide) tw_899 (v := nu (μ33 300 4)) rfl dX11_spell_83 ?_
          obtain ⟨rfl, rfl⟩ := of_ret hf
          exact r_iret C rfl (ho34 _ _) dX11_spell_86
        · replace hf := if_t hf c19
          refine r_iconst C dX11_spell_40 ?_
          obtain ⟨rfl, rfl⟩ := of_ret hf
          exact r_iret C rfl (inR_lit rfl) dX11_spell_41
set_option maxHeartbeats 4000000 in
set_option maxRecDepth 100000 in
theorem w_X11_is_5 {p : Program} {l : Launch} {e : Env} {s : State} {m : MethodId} {args : Array Value} {below : List Frame} {meth : Method} {c : Code} {D : va_G} {cy : Nat → ClassId} {A : Nat → Prop} {ids : List Nat} {ad : Nat → Nat} {r : Int} {μ' : Mem} (C : Cx p s m args meth c D (tyl cy) A 5 cX11_is yX11_is.cls (some .boolean)) (hCF : CF ad A s) : ∀ n : Nat, ∀ (v1 v2 v3 v4 : Int) (μ : Mem), inR v1 → inR v2 → inR v3 → inR v4 → f_X11_is_5   n v1 v2 v3 v4 μ = some (r, μ') → V p l e (rmk 4) s m args below meth c 0 0 (MQ below (aI D (tyl cy) (lay cy) ids ad A r μ') args s 0 0 A) D A (lay cy) ids ad 5 μ 5 [some (rf 300), some (nu v1), some (nu v2), some (nu v3), some (nu v4)] [] := by
  intro n
  induction n with
  | zero =>
    intro v1 v2 v3 v4 μ hv1 hv2 hv3 hv4 hf
    cases hf
  | succ n ih =>
    intro v1 v2 v3 v4 μ hv1 hv2 hv3 hv4 hf
    rw [f_X11_is_5_e] at hf
    refine V_in (fun ho0 _ => ?_)
    refine r_iload C rfl dX11_is_5 ?_
    refine r_aload_n C 0 rfl rfl dX11_is_7 ?_
    refine r_getf C 300 (by decide) rfl (fx_m rfl) (ly_300 cy _ _) rfl in_X11 4 (by decide) tw_899 (v := nu (μ 300 4)) rfl dX11_is_8 ?_
    refine r_icmp_ge C 62 hv4 (ho0 _ _) rfl dX11_is_11 (fun c1 => ?_) (fun c1 => ?_)
    · replace hf := if_t hf c1
      refine r_iload_n C 3 rfl rfl dX11_is_62 ?_
      obtain ⟨g2, hf⟩ := of_g hf
      obtain ⟨rfl, rfl⟩ := of_ret hf
      exact r_zret C rfl g2 dX11_is_63
    · replace hf := if_f hf c1
      refine r_iload_n C 3 rfl rfl dX11_is_14 ?_
      refine r_if_ne C 50 hv3 rfl dX11_is_15 (fun c3 => ?_) (fun c3 => ?_)
      · replace hf := if_f hf c3
        refine r_iconst C dX11_is_50 ?_
        refine r_goto C 55 rfl dX11_is_51 ?_
        refine r_istore_n C 3 (lw := [some (rf 300), some (nu v1), some (nu v2), some (nu 1), some (nu v4)]) rfl rfl (by decide) dX11_is_55 ?_
        refine r_iinc C rfl (lw := [some (rf 300), some (nu v1), some (nu v2), some (nu 1), some (nu (v4 + 1))]) rfl (by decide) dX11_is_56 ?_
        refine r_goto C 5 rfl dX11_is_59 ?_
        obtain ⟨g4, hf⟩ := of_g hf
        exact V_lw (ih v1 v2 1 (v4 + 1) μ hv1 hv2 (inR_lit rfl) g4 hf) (And.intro rfl (And.intro rfl (And.intro rfl (And.intro rfl (And.intro rfl trivial)))))
      · replace hf := if_t hf c3
        refine r_aload_n C 0 rfl rfl dX11_is_18 ?_
        refine r_getf C 300 (by decide) rfl (fx_m rfl) (ly_300 cy _ _) rfl in_X11 12 (by decide) tw_907 (v := rf 308) rfl dX11_is_19 ?_
        refine r_iload C rfl dX11_is_22 ?_
        obtain ⟨g5, hf⟩ := of_g hf
        refine r_iald C 308 (by decide) rfl (fx_m rfl) 0 (cA := cy 0) (n := 40) (ly_308 cy _ _) rfl g5 (by decide) dX11_is_24 ?_
        refine r_iload_n C 1 rfl rfl dX11_is_25 ?_
        refine r_icmp_ne C 54 (ho0 _ _) hv1 rfl dX11_is_26 (fun c6 => ?_) (fun c6 => ?_)
        · replace hf := if_f hf c6
          refine r_iconst C dX11_is_54 ?_
          refine r_istore_n C 3 (lw := [some (rf 300), some (nu v1), some (nu v2), some (nu 0), some (nu v4)]) rfl rfl (by decide) dX11_is_55 ?_
          refine r_iinc C rfl (lw := [some (rf 300), some (nu v1), some (nu v2), some (nu 0), some (nu (v4 + 1))]) rfl (by decide) dX11_is_56 ?_
          refine r_goto C 5 rfl dX11_is_59 ?_
          obtain ⟨g7, hf⟩ := of_g hf
          exact V_lw (ih v1 v2 0 (v4 + 1) μ hv1 hv2 (inR_lit rfl) g7 hf) (And.intro rfl (And.intro rfl (And.intro rfl (And.intro rfl (And.intro rfl trivial)))))
        · replace hf := if_t hf c6
          refine r_iload_n C 2 rfl rfl dX11_is_29 ?_
          refine r_aload_n C 0 rfl rfl dX11_is_30 ?_
          refine r_getf C 300 (by decide) rfl (fx_m rfl) (ly_300 cy _ _) rfl in_X11 13 (by decide) tw_908 (v := rf 309) rfl dX11_is_31 ?_
          refine r_iload C rfl dX11_is_34 ?_
          refine r_iald C 309 (by decide) rfl (fx_m rfl) 0 (cA := cy 0) (n := 40) (ly_309 cy _ _) rfl g5 (by decide) dX11_is_36 ?_
          refine r_aload_n C 0 rfl rfl dX11_is_37 ?_
          refine r_getf C 300 (by decide) rfl (fx_m rfl) (ly_300 cy _ _) rfl in_X11 14 (by decide) tw_909 (v := rf 310) rfl dX11_is_38 ?_
          refine r_iload C rfl dX11_is_41 ?_
          refine r_iald C 310 (by decide) rfl (fx_m rfl) 0 (cA := cy 0) (n := 40) (ly_310 cy _ _) rfl g5 (by decide) dX11_is_43 ?_
          obtain ⟨r8, μ9, hc10, hf⟩ := of_bd hf
          refine r_callSI C hCF (As := [nu v2, nu (μ 309 v4.toNat), nu (μ 310 v4.toNat)]) (c_X11_in hv2 (ho0 _ _) (ho0 _ _) hc10) rfl (by decide) (by decide) ⟨Nat.le_refl 0, Nat.le_refl 0⟩ tw_1063 tw_1065 tw_10 tw_1064 3 (by decide) rfl (Nat.le_of_ble_eq_true rfl) dX11_is_44 (fun hr12 => ?_)
          refine V_in (fun ho11 _ => ?_)
          refine r_if_eq C 54 hr12 rfl dX11_is_47 (fun c13 => ?_) (fun c13 => ?_)
          · replace hf := if_t hf c13
            refine r_iconst C dX11_is_54 ?_
            refine r_istore_n C 3 (lw := [some (rf 300), some (nu v1), some (nu v2), some (nu 0), some (nu v4)]) rfl rfl (by decide) dX11_is_55 ?_
            refine r_iinc C rfl (lw := [some (rf 300), some (nu v1), some (nu v2), some (nu 0), some (nu (v4 + 1))]) rfl (by decide) dX11_is_56 ?_
            refine r_goto C 5 rfl dX11_is_59 ?_
            obtain ⟨g14, hf⟩ := of_g hf
            exact V_lw (ih v1 v2 0 (v4 + 1) μ9 hv1 hv2 (inR_lit rfl) g14 hf) (And.intro rfl (And.intro rfl (And.intro rfl (And.intro rfl (And.intro rfl trivial)))))
          · replace hf := if_f hf c13
            refine r_iconst C dX11_is_50 ?_
            refine r_goto C 55 rfl dX11_is_51 ?_
            refine r_istore_n C 3 (lw := [some (rf 300), some (nu v1), some (nu v2), some (nu 1), some (nu v4)]) rfl rfl (by decide) dX11_is_55 ?_
            refine r_iinc C rfl (lw := [some (rf 300), some (nu v1), some (nu v2), some (nu 1), some (nu (v4 + 1))]) rfl (by decide) dX11_is_56 ?_
            refine r_goto C 5 rfl dX11_is_59 ?_
            obtain ⟨g15, hf⟩ := of_g hf
            exact V_lw (ih v1 v2 1 (v4 + 1) μ9 hv1 hv2 (inR_lit rfl) g15 hf) (And.intro rfl (And.intro rfl (And.intro rfl (And.intro rfl (And.intro rfl trivial)))))
set_option maxHeartbeats 4000000 in
set_option maxRecDepth 100000 in
theorem c_X11_is {l : Launch} {D : va_G} {cy : Nat → ClassId} {ids : List Nat} {ad : Nat → Nat} {μ μ' : Mem} {a1 a2 r : Int} (h1 : inR a1) (h2 : inR a2) (hf : f_X11_is μ a1 a2 = some (r, μ')) : KK aI l D (tyl cy) (lay cy) ids ad 4 yX11_is cX11_is 5 (some .boolean) [rf 300, nu a1, nu a2] μ r μ' := by
  refine KK.of (by decide +kernel) (Nat.le_of_ble_eq_true rfl) ?_
  intro p e s m args below meth c A C hCF
  unfold f_X11_is at hf
  refine V_in (fun ho0 _ => ?_)
  refine r_iconst C dX11_is_0 ?_
  refine r_istore_n C 3 (lw := [some (rf 300), some (nu a1), some (nu a2), some (nu 0), none]) rfl rfl (by decide) dX11_is_1 ?_
  refine r_iconst C dX11_is_2 ?_
  refine r_istore C (lw := [some (rf 300), some (nu a1), some (nu a2), some (nu 0), some (nu 0)]) rfl (by decide) dX11_is_3 ?_
  exact V_lw (w_X11_is_5 C hCF 64 a1 a2 0 0 μ h1 h2 (inR_lit rfl) (inR_lit rfl) hf) (And.intro rfl (And.intro rfl (And.intro rfl (And.intro rfl (And.intro rfl trivial)))))
set_option maxHeartbeats 4000000 in
set_option maxRecDepth 100000 in
theorem c_X11_without {l : Launch} {D : va_G} {cy : Nat → ClassId} {ids : List Nat} {ad : Nat → Nat} {μ μ' : Mem} {a1 r : Int} (h1 : inR a1) (hf : f_X11_without μ a1 = some (r, μ')) : KK aI l D (tyl cy) (lay cy) ids ad 2 yX11_without cX11_without 1 (some .int) [nu a1] μ r μ' := by
  refine KK.of (by decide +kernel) (Nat.le_of_ble_eq_true rfl) ?_
  intro p e s m args below meth c A C hCF
  unfold f_X11_without at hf
  refine V_in (fun ho0 _ => ?_)
  refine r_iload_n C 0 rfl rfl dX11_without_0 ?_
  by_cases c1 : a1 = 4
  · replace hf := if_t hf c1
    refine r_swIn C 36 4 c1 (inR_lit rfl) (by decide) (by decide) rfl rfl dX11_without_1 ?_
    refine r_iconst C dX11_without_36 ?_
    obtain ⟨rfl, rfl⟩ := of_ret hf
    exact r_iret C rfl (inR_lit rfl) dX11_without_37
  replace hf := if_f hf c1
  by_cases c2 : a1 = 5
  · replace hf := if_t hf c2
    refine r_swIn C 38 5 c2 (inR_lit rfl) (by decide) (by decide) rfl rfl dX11_without_1 ?_
    refine r_iconst C dX11_without_38 ?_
    obtain ⟨rfl, rfl⟩ := of_ret hf
    exact r_iret C rfl (inR_lit rfl) dX11_without_39
  replace hf := if_f hf c2
  by_cases c3 : a1 = 6
  · replace hf := if_t hf c3
    refine r_swIn C 40 6 c3 (inR_lit rfl) (by decide) (by decide) rfl rfl dX11_without_1 ?_
    refine r_iconst C dX11_without_40 ?_
    obtain ⟨rfl, rfl⟩ := of_ret hf
    exact r_iret C rfl (inR_lit rfl) dX11_without_41
  replace hf := if_f hf c3
  by_cases c4 : a1 = 7
  · replace hf := if_t hf c4
    refine r_swIn C 42 7 c4 (inR_lit rfl) (by decide) (by decide) rfl rfl dX11_without_1 ?_
    refine r_sipush C dX11_without_42 rfl ?_
    obtain ⟨rfl, rfl⟩ := of_ret hf
    exact r_iret C rfl (inR_lit rfl) dX11_without_45
  replace hf := if_f hf c4
  by_cases c5 : a1 = 8
  · replace hf := if_t hf c5
    refine r_swIn C 46 8 c5 (inR_lit rfl) (by decide) (by decide) rfl rfl dX11_without_1 ?_
    refine r_bipush C dX11_without_46 rfl ?_
    obtain ⟨rfl, rfl⟩ := of_ret hf
    exact r_iret C rfl (inR_lit rfl) dX11_without_48
  replace hf := if_f hf c5
  refine r_swOut C 49 h1 (by omega) rfl dX11_without_1 ?_
  refine r_iconst C dX11_without_49 ?_
  obtain ⟨rfl, rfl⟩ := of_ret hf
  exact r_iret C rfl (inR_lit rfl) dX11_without_50
set_option maxHeartbeats 4000000 in
set_option maxRecDepth 100000 in
theorem c_X11_most {l : Launch} {D : va_G} {cy : Nat → ClassId} {ids : List Nat} {ad : Nat → Nat} {μ μ' : Mem} {a1 r : Int} (h1 : inR a1) (hf : f_X11_most μ a1 = some (r, μ')) : KK aI l D (tyl cy) (lay cy) ids ad 2 yX11_most cX11_most 1 (some .int) [nu a1] μ r μ' := by
  refine KK.of (by decide +kernel) (Nat.le_of_ble_eq_true rfl) ?_
  intro p e s m args below meth c A C hCF
  unfold f_X11_most at hf
  refine V_in (fun ho0 _ => ?_)
  refine r_iload_n C 0 rfl rfl dX11_most_0 ?_
  refine r_iconst C dX11_most_1 ?_
  refine r_icmp_eq C 11 h1 (inR_lit rfl) rfl dX11_most_2 (fun c1 => ?_) (fun c1 => ?_)
  · replace hf := if_t hf c1
    refine r_bipush C dX11_most_11 rfl ?_
    refine r_goto C 30 rfl dX11_most_13 ?_
    obtain ⟨rfl, rfl⟩ := of_ret hf
    exact r_iret C rfl (inR_lit rfl) dX11_most_30
  · replace hf := if_f hf c1
    refine r_iload_n C 0 rfl rfl dX11_most_5 ?_
    refine r_bipush C dX11_most_6 rfl ?_
    refine r_icmp_ne C 16 h1 (inR_lit rfl) rfl dX11_most_8 (fun c2 => ?_) (fun c2 => ?_)
    · replace hf := if_f hf c2
      refine r_iload_n C 0 rfl rfl dX11_most_16 ?_
      refine r_bipush C dX11_most_17 rfl ?_
      refine r_icmp_ne C 28 h1 (inR_lit rfl) rfl dX11_most_19 (fun c3 => ?_) (fun c3 => ?_)
      · replace hf := if_f hf c3
        refine r_bipush C dX11_most_28 rfl ?_
        obtain ⟨rfl, rfl⟩ := of_ret hf
        exact r_iret C rfl (inR_lit rfl) dX11_most_30
      · replace hf := if_t hf c3
        refine r_sipush C dX11_most_22 rfl ?_
        refine r_goto C 30 rfl dX11_most_25 ?_
        obtain ⟨rfl, rfl⟩ := of_ret hf
        exact r_iret C rfl (inR_lit rfl) dX11_most_30
    · replace hf := if_t hf c2
      refine r_bipush C dX11_most_11 rfl ?_
      refine r_goto C 30 rfl dX11_most_13 ?_
      obtain ⟨rfl, rfl⟩ := of_ret hf
      exact r_iret C rfl (inR_lit rfl) dX11_most_30
set_option maxHeartbeats 4000000 in
set_option maxRecDepth 100000 in
theorem c_X11_wordOf {l : Launch} {D : va_G} {cy : Nat → ClassId} {ids : List Nat} {ad : Nat → Nat} {μ μ' : Mem} {a1 r : Int} (h1 : inR a1) (hf : f_X11_wordOf μ a1 = some (r, μ')) : KK aR l D (tyl cy) (lay cy) ids ad 2 yX11_wordOf cX11_wordOf 1 (some (.object "java/lang/String")) [nu a1] μ r μ' := by
  refine KK.of (by decide +kernel) (Nat.le_of_ble_eq_true rfl) ?_
  intro p e s m args below meth c A C hCF
  unfold f_X11_wordOf at hf
  refine V_in (fun ho0 _ => ?_)
  refine r_iload_n C 0 rfl rfl dX11_wordOf_0 ?_
  by_cases c1 : a1 = 0
  · replace hf := if_t hf c1
    refine r_swIn C 52 0 c1 (inR_lit rfl) (by decide) (by decide) rfl rfl dX11_wordOf_1 ?_
    refine r_ldcS C hCF 7 rfl 1000 rfl dX11_wordOf_52 ?_
    obtain ⟨rfl, rfl⟩ := of_ret hf
    exact r_aret C rfl (Or.inl ⟨_, rfl⟩) dX11_wordOf_54
  replace hf := if_f hf c1
  by_cases c2 : a1 = 1
  · replace hf := if_t hf c2
    refine r_swIn C 73 1 c2 (inR_lit rfl) (by decide) (by decide) rfl rfl dX11_wordOf_1 ?_
    refine r_ldcS C hCF 14 rfl 1007 rfl dX11_wordOf_73 ?_
    obtain ⟨rfl, rfl⟩ := of_ret hf
    exact r_aret C rfl (Or.inl ⟨_, rfl⟩) dX11_wordOf_75
  replace hf := if_f hf c2
  by_cases c3 : a1 = 2
  · replace hf := if_t hf c3
    refine r_swIn C 55 2 c3 (inR_lit rfl) (by decide) (by decide) rfl rfl dX11_wordOf_1 ?_
    refine r_ldcS C hCF 8 rfl 1001 rfl dX11_wordOf_55 ?_
    obtain ⟨rfl, rfl⟩ := of_ret hf
    exact r_aret C rfl (Or.inl ⟨_, rfl⟩) dX11_wordOf_57
  replace hf := if_f hf c3
  by_cases c4 : a1 = 3
  · replace hf := if_t hf c4
    refine r_swIn C 73 3 c4 (inR_lit rfl) (by decide) (by decide) rfl rfl dX11_wordOf_1 ?_
    refine r_ldcS C hCF 14 rfl 1007 rfl dX11_wordOf_73 ?_
    obtain ⟨rfl, rfl⟩ := of_ret hf
    exact r_aret C rfl (Or.inl ⟨_, rfl⟩) dX11_wordOf_75
  replace hf := if_f hf c4
  by_cases c5 : a1 = 4
  · replace hf := if_t hf c5
    refine r_swIn C 58 4 c5 (inR_lit rfl) (by decide) (by decide) rfl rfl dX11_wordOf_1 ?_
    refine r_ldcS C hCF 9 rfl 1002 rfl dX11_wordOf_58 ?_
    obtain ⟨rfl, rfl⟩ := of_ret hf
    exact r_aret C rfl (Or.inl ⟨_, rfl⟩) dX11_wordOf_60
  replace hf := if_f hf c5
  by_cases c6 : a1 = 5
  · replace hf := if_t hf c6
    refine r_swIn C 61 5 c6 (inR_lit rfl) (by decide) (by decide) rfl rfl dX11_wordOf_1 ?_
    refine r_ldcS C hCF 10 rfl 1003 rfl dX11_wordOf_61 ?_
    obtain ⟨rfl, rfl⟩ := of_ret hf
    exact r_aret C rfl (Or.inl ⟨_, rfl⟩) dX11_wordOf_63
  replace hf := if_f hf c6
  by_cases c7 : a1 = 6
  · replace hf := if_t hf c7
    refine r_swIn C 64 6 c7 (inR_lit rfl) (by decide) (by decide) rfl rfl dX11_wordOf_1 ?_
    refine r_ldcS C hCF 11 rfl 1004 rfl dX11_wordOf_64 ?_
    obtain ⟨rfl, rfl⟩ := of_ret hf
    exact r_aret C rfl (Or.inl ⟨_, rfl⟩) dX11_wordOf_66
  replace hf := if_f hf c7
  by_cases c8 : a1 = 7
  · replace hf := if_t hf c8
    refine r_swIn C 67 7 c8 (inR_lit rfl) (by decide) (by decide) rfl rfl dX11_wordOf_1 ?_
    refine r_ldcS C hCF 12 rfl 1005 rfl dX11_wordOf_67 ?_
    obtain ⟨rfl, rfl⟩ := of_ret hf
    exact r_aret C rfl (Or.inl ⟨_, rfl⟩) dX11_wordOf_69
  replace hf := if_f hf c8
  by_cases c9 : a1 = 8
  · replace hf := if_t hf c9
    refine r_swIn C 70 8 c9 (inR_lit rfl) (by decide) (by decide) rfl rfl dX11_wordOf_1 ?_
    refine r_ldcS C hCF 13 rfl 1006 rfl dX11_wordOf_70 ?_
    obtain ⟨rfl, rfl⟩ := of_ret hf
    exact r_aret C rfl (Or.inl ⟨_, rfl⟩) dX11_wordOf_72
  replace hf := if_f hf c9
  refine r_swOut C 73 h1 (by omega) rfl dX11_wordOf_1 ?_
  refine r_ldcS C hCF 14 rfl 1007 rfl dX11_wordOf_73 ?_
  obtain ⟨rfl, rfl⟩ := of_ret hf
  exact r_aret C rfl (Or.inl ⟨_, rfl⟩) dX11_wordOf_75
set_option maxHeartbeats 4000000 in
set_option maxRecDepth 100000 in
theorem w_X11_put_3 {p : Program} {l : Launch} {e : Env} {s : State} {m : MethodId} {args : Array Value} {below : List Frame} {meth : Method} {c : Code} {D : va_G} {cy : Nat → ClassId} {A : Nat → Prop} {ids : List Nat} {ad : Nat → Nat} {r : Int} {μ' : Mem} (C : Cx p s m args meth c D (tyl cy) A 3 cX11_put yX11_put.cls none) (hCF : CF ad A s) : ∀ n : Nat, ∀ (v1 v2 : Int) (μ : Mem), inR v1 → inR v2 → f_X11_put_3   n v1 v2 μ = some (r, μ') → V p l e (rmk 2) s m args below meth c 0 0 (MQ below (aV D (tyl cy) (lay cy) ids ad A r μ') args s 0 0 A) D A (lay cy) ids ad 3 μ 3 [some (rf 300), some (nu v1), some (nu v2)] [] := by
  intro n
  induction n with
  | zero =>
    intro v1 v2 μ hv1 hv2 hf
    cases hf
  | succ n ih =>
    intro v1 v2 μ hv1 hv2 hf
    rw [f_X11_put_3_e] at hf
    refine V_in (fun ho0 _ => ?_)
    refine r_iload_n C 2 rfl rfl dX11_put_3 ?_
    refine r_if_lt C 36 hv2 rfl dX11_put_4 (fun c1 => ?_) (fun c1 => ?_)
    · replace hf := if_t hf c1
      obtain ⟨-, rfl⟩ := of_ret hf
      exact r_vret C rfl dX11_put_36
    · replace hf := if_f hf c1
      refine r_aload_n C 0 rfl rfl dX11_put_7 ?_
      refine r_getf C 300 (by decide) rfl (fx_m rfl) (ly_300 cy _ _) rfl in_X11 18 (by decide) tw_913 (v := rf 311) rfl dX11_put_8 ?_
      refine r_aload_n C 0 rfl rfl dX11_put_11 ?_
      refine r_getf C 300 (by decide) rfl (fx_m rfl) (ly_300 cy _ _) rfl in_X11 19 (by decide) tw_914 (v := nu (μ 300 19)) rfl dX11_put_12 ?_
      refine r_iload_n C 1 rfl rfl dX11_put_15 ?_
      refine r_iload_n C 2 rfl rfl dX11_put_16 ?_
      refine r_ishr C dX11_put_17 ?_
      refine r_i2b C dX11_put_18 ?_
      obtain ⟨g2, hf⟩ := of_g hf
      refine r_bast C 311 (by decide) rfl (fx_m rfl) (by decide) 1 (cA := cy 1) (n := 200) (fun f => ly_311 cy _ f) rfl g2 (by decide) (zI_rng _) dX11_put_19 (fun μ3 hμ5 => ?_)
      replace hf := of_lm hf hμ5
      refine V_in (fun ho4 _ => ?_)
      refine r_aload_n C 0 rfl rfl dX11_put_20 ?_
      refine r_dup C dX11_put_21 ?_
      refine r_getf C 300 (by decide) rfl (fx_m rfl) (ly_300 cy _ _) rfl in_X11 19 (by decide) tw_914 (v := nu (μ3 300 19)) rfl dX11_put_22 ?_
      refine r_iconst C dX11_put_25 ?_
      refine r_iadd C dX11_put_26 ?_
      obtain ⟨g6, hf⟩ := of_g hf
      refine r_putf C 300 (by decide) rfl (fx_m rfl) (by decide) (ly_300 cy _ _) 19 (ly_300 cy _ _) rfl (Nat.le_of_ble_eq_true rfl) g6 rfl in_X11 tyX11 tyX11_ok nmX11 (by decide) tw_914 rfl rfl dX11_put_27 (fun μ7 hμ9 => ?_)
      replace hf := of_lm hf hμ9
      refine V_in (fun ho8 _ => ?_)
      refine r_iinc C rfl (lw := [some (rf 300), some (nu v1), some (nu (v2 + (-8)))]) rfl (by decide) dX11_put_30 ?_
      refine r_goto C 3 rfl dX11_put_33 ?_
      obtain ⟨g10, hf⟩ := of_g hf
      exact V_lw (ih v1 (v2 + (-8)) μ7 hv1 g10 hf) (And.intro rfl (And.intro rfl (And.intro rfl trivial)))
set_option maxHeartbeats 4000000 in
set_option maxRecDepth 100000 in
theorem c_X11_put {l : Launch} {D : va_G} {cy : Nat → ClassId} {ids : List Nat} {ad : Nat → Nat} {μ μ' : Mem} {a1 r : Int} (h1 : inR a1) (hf : f_X11_put μ a1 = some (r, μ')) : KK aV l D (tyl cy) (lay cy) ids ad 2 yX11_put cX11_put 3 none [rf 300, nu a1] μ r μ' := by
  refine KK.of (by decide +kernel) (Nat.le_of_ble_eq_true rfl) ?_
  intro p e s m args below meth c A C hCF
  unfold f_X11_put at hf
  refine V_in (fun ho0 _ => ?_)
  refine r_bipush C dX11_put_0 rfl ?_
  refine r_istore_n C 2 (lw := [some (rf 300), some (nu a1), some (nu 24)]) rfl rfl (by decide) dX11_put_2 ?_
  exact V_lw (w_X11_put_3 C hCF 64 a1 24 μ h1 (inR_lit rfl) hf) (And.intro rfl (And.intro rfl (And.intro rfl trivial)))
set_option maxHeartbeats 4000000 in
set_option maxRecDepth 100000 in
theorem c_X11_feed {l : Launch} {D : va_G} {cy : Nat → ClassId} {ids : List Nat} {ad : Nat → Nat} {μ μ' : Mem} {a1 a2 a3 a4 a5 r : Int} (h1 : inR a1) (h2 : inR a2) (h3 : inR a3) (h4 : inR a4) (h5 : inR a5) (hf : f_X11_feed μ a1 a2 a3 a4 a5 = some (r, μ')) : KK aI l D (tyl cy) (lay cy) ids ad 4 yX11_feed cX11_feed 6 (some .int) [rf 300, nu a1, nu a2, nu a3, nu a4, nu a5] μ r μ' := by
  refine KK.of (by decide +kernel) (Nat.le_of_ble_eq_true rfl) ?_
  intro p e s m args below meth c A C hCF
  unfold f_X11_feed at hf
  refine V_in (fun ho0 _ => ?_)
  refine r_aload_n C 0 rfl rfl dX11_feed_0 ?_
  refine r_getf C 300 (by decide) rfl (fx_m rfl) (ly_300 cy _ _) rfl in_X11 19 (by decide) tw_914 (v := nu (μ 300 19)) rfl dX11_feed_1 ?_
  refine r_bipush C dX11_feed_4 rfl ?_
  refine r_iadd C dX11_feed_6 ?_
  refine r_sipush C dX11_feed_7 rfl ?_
  obtain ⟨g1, hf⟩ := of_g hf
  refine r_icmp_le C 15 g1 (inR_lit rfl) rfl dX11_feed_10 (fun c2 => ?_) (fun c2 => ?_)
  · replace hf := if_t hf c2
    refine r_aload_n C 0 rfl rfl dX11_feed_15 ?_
    refine r_iload_n C 1 rfl rfl dX11_feed_16 ?_
    obtain ⟨r3, μ4, hc5, hf⟩ := of_bd hf
    refine r_callVV C hCF (As := [nu a1]) 300 (by decide) rfl (fx_m rfl) (ly_300 cy _ _) rfl (c_X11_put h1 hc5) rfl (by decide) (by decide) ⟨Nat.le_refl 0, Nat.le_refl 0⟩ tw_1079 tw_1082 tw_10 tw_1081 ts_39 1 (by decide) rfl (Nat.le_of_ble_eq_true rfl) dX11_feed_17 ?_
    refine V_in (fun ho6 _ => ?_)
    refine r_aload_n C 0 rfl rfl dX11_feed_20 ?_
    refine r_iload_n C 2 rfl rfl dX11_feed_21 ?_
    obtain ⟨r8, μ9, hc10, hf⟩ := of_bd hf
    refine r_callVV C hCF (As := [nu a2]) 300 (by decide) rfl (fx_m rfl) (ly_300 cy _ _) rfl (c_X11_put h2 hc10) rfl (by decide) (by decide) ⟨Nat.le_refl 0, Nat.le_refl 0⟩ tw_1079 tw_1082 tw_10 tw_1081 ts_39 1 (by decide) rfl (Nat.le_of_ble_eq_true rfl) dX11_feed_22 ?_
    refine V_in (fun ho11 _ => ?_)
    refine r_aload_n C 0 rfl rfl dX11_feed_25 ?_
    refine r_iload_n C 3 rfl rfl dX11_feed_26 ?_
    obtain ⟨r13, μ14, hc15, hf⟩ := of_bd hf
    refine r_callVV C hCF (As := [nu a3]) 300 (by decide) rfl (fx_m rfl) (ly_300 cy _ _) rfl (c_X11_put h3 hc15) rfl (by decide) (by decide) ⟨Nat.le_refl 0, Nat.le_refl 0⟩ tw_1079 tw_1082 tw_10 tw_1081 ts_39 1 (by decide) rfl (Nat.le_of_ble_eq_true rfl) dX11_feed_27 ?_
    refine V_in (fun ho16 _ => ?_)
    refine r_aload_n C 0 rfl rfl dX11_feed_30 ?_
    refine r_iload C rfl dX11_feed_31 ?_
    obtain ⟨r18, μ19, hc20, hf⟩ := of_bd hf
    refine r_callVV C hCF (As := [nu a4]) 300 (by decide) rfl (fx_m rfl) (ly_300 cy _ _) rfl (c_X11_put h4 hc20) rfl (by decide) (by decide) ⟨Nat.le_refl 0, Nat.le_refl 0⟩ tw_1079 tw_1082 tw_10 tw_1081 ts_39 1 (by decide) rfl (Nat.le_of_ble_eq_true rfl) dX11_feed_33 ?_
    refine V_in (fun ho21 _ => ?_)
    refine r_aload_n C 0 rfl rfl dX11_feed_36 ?_
    refine r_iload C rfl dX11_feed_37 ?_
    obtain ⟨r23, μ24, hc25, hf⟩ := of_bd hf
    refine r_callVV C hCF (As := [nu a5]) 300 (by decide) rfl (fx_m rfl) (ly_300 cy _ _) rfl (c_X11_put h5 hc25) rfl (by decide) (by decide) ⟨Nat.le_refl 0, Nat.le_refl 0⟩ tw_1079 tw_1082 tw_10 tw_1081 ts_39 1 (by decide) rfl (Nat.le_of_ble_eq_true rfl) dX11_feed_39 ?_
    refine V_in (fun ho26 _ => ?_)
    refine r_aload_n C 0 rfl rfl dX11_feed_42 ?_
    refine r_getf C 300 (by decide) rfl (fx_m rfl) (ly_300 cy _ _) rfl in_X11 19 (by decide) tw_914 (v := nu (μ24 300 19)) rfl dX11_feed_43 ?_
    obtain ⟨rfl, rfl⟩ := of_ret hf
    exact r_iret C rfl (ho26 _ _) dX11_feed_46
  · replace hf := if_f hf c2
    refine r_iconst C dX11_feed_13 ?_
    obtain ⟨rfl, rfl⟩ := of_ret hf
    exact r_iret C rfl (inR_lit rfl) dX11_feed_14
set_option maxHeartbeats 4000000 in
set_option maxRecDepth 100000 in
theorem c_X11_end {l : Launch} {D : va_G} {cy : Nat → ClassId} {ids : List Nat} {ad : Nat → Nat} {μ μ' : Mem} {a1 r : Int} (h1 : inR a1) (hf : f_X11_end μ a1 = some (r, μ')) : KK aI l D (tyl cy) (lay cy) ids ad 2 yX11_end cX11_end 2 (some .int) [rf 300, nu a1] μ r μ' := by
  refine KK.of (by decide +kernel) (Nat.le_of_ble_eq_true rfl) ?_
  intro p e s m args below meth c A C hCF
  unfold f_X11_end at hf
  refine V_in (fun ho0 _ => ?_)
  refine r_iload_n C 1 rfl rfl dX11_end_0 ?_
  refine r_if_lt C 12 h1 rfl dX11_end_1 (fun c1 => ?_) (fun c1 => ?_)
  · replace hf := if_t hf c1
    refine r_iconst C dX11_end_12 ?_
    obtain ⟨rfl, rfl⟩ := of_ret hf
    exact r_iret C rfl (inR_lit rfl) dX11_end_13
  · replace hf := if_f hf c1
    refine r_iload_n C 1 rfl rfl dX11_end_4 ?_
    refine r_aload_n C 0 rfl rfl dX11_end_5 ?_
    refine r_getf C 300 (by decide) rfl (fx_m rfl) (ly_300 cy _ _) rfl in_X11 19 (by decide) tw_914 (v := nu (μ 300 19)) rfl dX11_end_6 ?_
    refine r_icmp_le C 14 h1 (ho0 _ _) rfl dX11_end_9 (fun c2 => ?_) (fun c2 => ?_)
    · replace hf := if_t hf c2
      refine r_aload_n C 0 rfl rfl dX11_end_14 ?_
      refine r_iload_n C 1 rfl rfl dX11_end_15 ?_
      refine r_putf C 300 (by decide) rfl (fx_m rfl) (by decide) (ly_300 cy _ _) 19 (ly_300 cy _ _) rfl (Nat.le_of_ble_eq_true rfl) h1 rfl in_X11 tyX11 tyX11_ok nmX11 (by decide) tw_914 rfl rfl dX11_end_16 (fun μ3 hμ5 => ?_)
      replace hf := of_lm hf hμ5
      refine V_in (fun ho4 _ => ?_)
      refine r_iload_n C 1 rfl rfl dX11_end_19 ?_
      obtain ⟨rfl, rfl⟩ := of_ret hf
      exact r_iret C rfl h1 dX11_end_20
    · replace hf := if_f hf c2
      refine r_iconst C dX11_end_12 ?_
      obtain ⟨rfl, rfl⟩ := of_ret hf
      exact r_iret C rfl (inR_lit rfl) dX11_end_13
set_option maxHeartbeats 4000000 in
set_option maxRecDepth 100000 in
theorem c_X11_fails {l : Launch} {D : va_G} {cy : Nat → ClassId} {ids : List Nat} {ad : Nat → Nat} {μ μ' : Mem} {a1 a2 r : Int} (h1 : inR a1) (h2 : inR a2) (hf : f_X11_fails μ a1 a2 = some (r, μ')) : KK aV l D (tyl cy) (lay cy) ids ad 2 yX11_fails cX11_fails 3 none [rf 300, nu a1, nu a2] μ r μ' := by
  refine KK.of (by decide +kernel) (Nat.le_of_ble_eq_true rfl) ?_
  intro p e s m args below meth c A C hCF
  unfold f_X11_fails at hf
  refine V_in (fun ho0 _ => ?_)
  refine r_aload_n C 0 rfl rfl dX11_fails_0 ?_
  refine r_getf C 300 (by decide) rfl (fx_m rfl) (ly_300 cy _ _) rfl in_X11 22 (by decide) tw_917 (v := nu (μ 300 22)) rfl dX11_fails_1 ?_
  refine r_if_ne C 18 (ho0 _ _) rfl dX11_fails_4 (fun c1 => ?_) (fun c1 => ?_)
  · replace hf := if_f hf c1
    obtain ⟨-, rfl⟩ := of_ret hf
    exact r_vret C rfl dX11_fails_18
  · replace hf := if_t hf c1
    refine r_aload_n C 0 rfl rfl dX11_fails_7 ?_
    refine r_iconst C dX11_fails_8 ?_
    refine r_iconst C dX11_fails_9 ?_
    refine r_iload_n C 2 rfl rfl dX11_fails_10 ?_
    refine r_imul C dX11_fails_11 ?_
    refine r_iadd C dX11_fails_12 ?_
    refine r_iload_n C 1 rfl rfl dX11_fails_13 ?_
    refine r_iadd C dX11_fails_14 ?_
    obtain ⟨g2, hf⟩ := of_g hf
    refine r_putf C 300 (by decide) rfl (fx_m rfl) (by decide) (ly_300 cy _ _) 22 (ly_300 cy _ _) rfl (Nat.le_of_ble_eq_true rfl) g2 rfl in_X11 tyX11 tyX11_ok nmX11 (by decide) tw_917 rfl rfl dX11_fails_15 (fun μ3 hμ5 => ?_)
    replace hf := of_lm hf hμ5
    refine V_in (fun ho4 _ => ?_)
    obtain ⟨-, rfl⟩ := of_ret hf
    exact r_vret C rfl dX11_fails_18
set_option maxHeartbeats 4000000 in
set_option maxRecDepth 100000 in
theorem w_X11_isOver_38 {p : Program} {l : Launch} {e : Env} {s : State} {m : MethodId} {args : Array Value} {below : List Frame} {meth : Method} {c : Code} {D : va_G} {cy : Nat → ClassId} {A : Nat → Prop} {ids : List Nat} {ad : Nat → Nat} {r : Int} {μ' : Mem} (C : Cx p s m args meth c D (tyl cy) A 1 cX11_isOver yX11_isOver.cls (some .boolean)) (hCF : CF ad A s) : ∀ (μ : Mem), f_X11_isOver_38   μ = some (r, μ') → V p l e (rmk 2) s m args below meth c 0 0 (MQ below (aI D (tyl cy) (lay cy) ids ad A r μ') args s 0 0 A) D A (lay cy) ids ad 1 μ 38 [some (rf 300)] [] := by
  intro  μ  hf
  unfold f_X11_isOver_38 at hf
  refine V_in (fun ho0 _ => ?_)
  refine r_aload_n C 0 rfl rfl dX11_isOver_38 ?_
  refine r_aload_n C 0 rfl rfl dX11_isOver_39 ?_
  refine r_getf C 300 (by decide) rfl (fx_m rfl) (ly_300 cy _ _) rfl in_X11 20 (by decide) tw_915 (v := nu (μ 300 20)) rfl dX11_isOver_40 ?_
  refine r_putf C 300 (by decide) rfl (fx_m rfl) (by decide) (ly_300 cy _ _) 21 (ly_300 cy _ _) rfl (Nat.le_of_ble_eq_true rfl) (ho0 _ _) rfl in_X11 tyX11 tyX11_ok nmX11 (by decide) tw_916 rfl rfl dX11_isOver_43 (fun μ1 hμ3 => ?_)
  replace hf := of_lm hf hμ3
  refine V_in (fun ho2 _ => ?_)
  refine r_aload_n C 0 rfl rfl dX11_isOver_46 ?_
  refine r_getf C 300 (by decide) rfl (fx_m rfl) (ly_300 cy _ _) rfl in_X11 20 (by decide) tw_915 (v := nu (μ1 300 20)) rfl dX11_isOver_47 ?_
  refine r_aload_n C 0 rfl rfl dX11_isOver_50 ?_
  refine r_getf C 300 (by decide) rfl (fx_m rfl) (ly_300 cy _ _) rfl in_X11 19 (by decide) tw_914 (v := nu (μ1 300 19)) rfl dX11_isOver_51 ?_
  refine r_icmp_ne C 61 (ho2 _ _) (ho2 _ _) rfl dX11_isOver_54 (fun c4 => ?_) (fun c4 => ?_)
  · replace hf := if_f hf c4
    refine r_iconst C dX11_isOver_61 ?_
    obtain ⟨rfl, rfl⟩ := of_ret hf
    exact r_zret C rfl (by decide) dX11_isOver_62
  · replace hf := if_t hf c4
    refine r_iconst C dX11_isOver_57 ?_
    refine r_goto C 62 rfl dX11_isOver_58 ?_
    obtain ⟨rfl, rfl⟩ := of_ret hf
    exact r_zret C rfl (by decide) dX11_isOver_62
set_option maxHeartbeats 4000000 in
set_option maxRecDepth 100000 in
theorem w_X11_isOver_0 {p : Program} {l : Launch} {e : Env} {s : State} {m : MethodId} {args : Array Value} {below : List Frame} {meth : Method} {c : Code} {D : va_G} {cy : Nat → ClassId} {A : Nat → Prop} {ids : List Nat} {ad : Nat → Nat} {r : Int} {μ' : Mem} (C : Cx p s m args meth c D (tyl cy) A 1 cX11_isOver yX11_isOver.cls (some .boolean)) (hCF : CF ad A s) : ∀ n : Nat, ∀ (μ : Mem), f_X11_isOver_0   n μ = some (r, μ') → V p l e (rmk 2) s m args below meth c 0 0 (MQ below (aI D (tyl cy) (lay cy) ids ad A r μ') args s 0 0 A) D A (lay cy) ids ad 1 μ 0 [some (rf 300)] [] := by
  intro n
  induction n with
  | zero =>
    intro  μ  hf
    cases hf
  | succ n ih =>
    intro  μ  hf
    rw [f_X11_isOver_0_e] at hf
    refine V_in (fun ho0 _ => ?_)
    refine r_aload_n C 0 rfl rfl dX11_isOver_0 ?_
    refine r_getf C 300 (by decide) rfl (fx_m rfl) (ly_300 cy _ _) rfl in_X11 20 (by decide) tw_915 (v := nu (μ 300 20)) rfl dX11_isOver_1 ?_
    refine r_aload_n C 0 rfl rfl dX11_isOver_4 ?_
    refine r_getf C 300 (by decide) rfl (fx_m rfl) (ly_300 cy _ _) rfl in_X11 19 (by decide) tw_914 (v := nu (μ 300 19)) rfl dX11_isOver_5 ?_
    refine r_icmp_ge C 38 (ho0 _ _) (ho0 _ _) rfl dX11_isOver_8 (fun c1 => ?_) (fun c1 => ?_)
    · replace hf := if_t hf c1
      exact V_lw (w_X11_isOver_38 C hCF μ hf) (And.intro rfl trivial)
    · replace hf := if_f hf c1
      refine r_aload_n C 0 rfl rfl dX11_isOver_11 ?_
      refine r_getf C 300 (by decide) rfl (fx_m rfl) (ly_300 cy _ _) rfl in_X11 18 (by decide) tw_913 (v := rf 311) rfl dX11_isOver_12 ?_
      refine r_aload_n C 0 rfl rfl dX11_isOver_15 ?_
      refine r_getf C 300 (by decide) rfl (fx_m rfl) (ly_300 cy _ _) rfl in_X11 20 (by decide) tw_915 (v := nu (μ 300 20)) rfl dX11_isOver_16 ?_
      obtain ⟨g2, hf⟩ := of_g hf
      refine r_bald C 311 (by decide) rfl (fx_m rfl) 1 (cA := cy 1) (n := 200) (ly_311 cy _ _) rfl g2 (by decide) dX11_isOver_19 ?_
      refine r_bipush C dX11_isOver_20 rfl ?_
      refine r_icmp_ne C 38 (ho0 _ _) (inR_lit rfl) rfl dX11_isOver_22 (fun c3 => ?_) (fun c3 => ?_)
      · replace hf := if_f hf c3
        exact V_lw (w_X11_isOver_38 C hCF μ hf) (And.intro rfl trivial)
      · replace hf := if_t hf c3
        refine r_aload_n C 0 rfl rfl dX11_isOver_25 ?_
        refine r_dup C dX11_isOver_26 ?_
        refine r_getf C 300 (by decide) rfl (fx_m rfl) (ly_300 cy _ _) rfl in_X11 20 (by decide) tw_915 (v := nu (μ 300 20)) rfl dX11_isOver_27 ?_
        refine r_iconst C dX11_isOver_30 ?_
        refine r_iadd C dX11_isOver_31 ?_
        obtain ⟨g4, hf⟩ := of_g hf
        refine r_putf C 300 (by decide) rfl (fx_m rfl) (by decide) (ly_300 cy _ _) 20 (ly_300 cy _ _) rfl (Nat.le_of_ble_eq_true rfl) g4 rfl in_X11 tyX11 tyX11_ok nmX11 (by decide) tw_915 rfl rfl dX11_isOver_32 (fun μ5 hμ7 => ?_)
        replace hf := of_lm hf hμ7
        refine V_in (fun ho6 _ => ?_)
        refine r_goto C 0 rfl dX11_isOver_35 ?_
        exact V_lw (ih μ5 hf) (And.intro rfl trivial)
set_option maxHeartbeats 4000000 in
set_option maxRecDepth 100000 in
theorem c_X11_isOver {l : Launch} {D : va_G} {cy : Nat → ClassId} {ids : List Nat} {ad : Nat → Nat} {μ μ' : Mem} { r : Int}  (hf : f_X11_isOver μ  = some (r, μ')) : KK aI l D (tyl cy) (lay cy) ids ad 2 yX11_isOver cX11_isOver 1 (some .boolean) [rf 300] μ r μ' := by
  refine KK.of (by decide +kernel) (Nat.le_of_ble_eq_true rfl) ?_
  intro p e s m args below meth c A C hCF
  unfold f_X11_isOver at hf
  refine V_in (fun ho0 _ => ?_)
  exact V_lw (w_X11_isOver_0 C hCF 256 μ hf) (And.intro rfl trivial)
set_option maxHeartbeats 4000000 in
set_option maxRecDepth 100000 in
theorem w_X11_isWord_31 {p : Program} {l : Launch} {e : Env} {s : State} {m : MethodId} {args : Array Value} {below : List Frame} {meth : Method} {c : Code} {D : va_G} {cy : Nat → ClassId} {A : Nat → Prop} {ids : List Nat} {ad : Nat → Nat} {r : Int} {μ' : Mem} (C : Cx p s m args meth c D (tyl cy) A 4 cX11_isWord yX11_isWord.cls (some .boolean)) (hCF : CF ad A s) : ∀ n : Nat, ∀ (v1 v2 v3 : Int) (μ : Mem), inR v2 → inR v3 → f_X11_isWord_31   n v1 v2 v3 μ = some (r, μ') → V p l e (rmk 12) s m args below meth c 0 0 (MQ below (aI D (tyl cy) (lay cy) ids ad A r μ') args s 0 0 A) D A (lay cy) ids ad 4 μ 31 [some (rf 300), some (rf v1), some (nu v2), some (nu v3)] [] := by
  intro n
  induction n with
  | zero =>
    intro v1 v2 v3 μ hv2 hv3 hf
    cases hf
  | succ n ih =>
    intro v1 v2 v3 μ hv2 hv3 hf
    rw [f_X11_isWord_31_e] at hf
    refine V_in (fun ho0 _ => ?_)
    refine r_iload_n C 3 rfl rfl dX11_isWord_31 ?_
    refine r_aload_n C 1 rfl rfl dX11_isWord_32 ?_
    obtain ⟨g1, hf⟩ := of_g hf
    obtain ⟨r2, μ3, hc4, hf⟩ := of_bd hf
    refine r_callVIs C hCF (As := []) g1 rfl (c_J0_length_8abf5 hc4) rfl (by decide) (by decide) ⟨Nat.le_refl 0, Nat.le_refl 0⟩ tw_1114 tw_473 tw_13 tw_471 tw_472 0 (by decide) rfl (Nat.le_of_ble_eq_true rfl) dX11_isWord_33 (fun hr6 => ?_)
    refine V_in (fun ho5 _ => ?_)
    refine r_icmp_ge C 74 hv3 hr6 rfl dX11_isWord_36 (fun c7 => ?_) (fun c7 => ?_)
    · replace hf := if_t hf c7
      refine r_iload_n C 2 rfl rfl dX11_isWord_74 ?_
      obtain ⟨g8, hf⟩ := of_g hf
      obtain ⟨rfl, rfl⟩ := of_ret hf
      exact r_zret C rfl g8 dX11_isWord_75
    · replace hf := if_f hf c7
      refine r_iload_n C 2 rfl rfl dX11_isWord_39 ?_
      refine r_if_eq C 74 hv2 rfl dX11_isWord_40 (fun c9 => ?_) (fun c9 => ?_)
      · replace hf := if_t hf c9
        refine r_iload_n C 2 rfl rfl dX11_isWord_74 ?_
        obtain ⟨g10, hf⟩ := of_g hf
        obtain ⟨rfl, rfl⟩ := of_ret hf
        exact r_zret C rfl g10 dX11_isWord_75
      · replace hf := if_f hf c9
        refine r_aload_n C 0 rfl rfl dX11_isWord_43 ?_
        refine r_getf C 300 (by decide) rfl (fx_m rfl) (ly_300 cy _ _) rfl in_X11 18 (by decide) tw_913 (v := rf 311) rfl dX11_isWord_44 ?_
        refine r_aload_n C 0 rfl rfl dX11_isWord_47 ?_
        refine r_getf C 300 (by decide) rfl (fx_m rfl) (ly_300 cy _ _) rfl in_X11 21 (by decide) tw_916 (v := nu (μ3 300 21)) rfl dX11_isWord_48 ?_
        refine r_iload_n C 3 rfl rfl dX11_isWord_51 ?_
        refine r_iadd C dX11_isWord_52 ?_
        obtain ⟨g11, hf⟩ := of_g hf
        refine r_bald C 311 (by decide) rfl (fx_m rfl) 1 (cA := cy 1) (n := 200) (ly_311 cy _ _) rfl g11 (by decide) dX11_isWord_53 ?_
        refine r_aload_n C 1 rfl rfl dX11_isWord_54 ?_
        refine r_iload_n C 3 rfl rfl dX11_isWord_55 ?_
        obtain ⟨r12, μ13, hc14, hf⟩ := of_bd hf
        refine r_callVIs C hCF (As := [nu v3]) g1 rfl (c_J0_charAt_5068e hv3 hc14) rfl (by decide) (by decide) ⟨Nat.le_refl 0, Nat.le_refl 0⟩ tw_1115 tw_483 tw_13 tw_481 tw_482 1 (by decide) rfl (Nat.le_of_ble_eq_true rfl) dX11_isWord_56 (fun hr16 => ?_)
        refine V_in (fun ho15 _ => ?_)
        refine r_icmp_ne C 66 (ho5 _ _) hr16 rfl dX11_isWord_59 (fun c17 => ?_) (fun c17 => ?_)
        · replace hf := if_f hf c17
          refine r_iconst C dX11_isWord_66 ?_
          refine r_istore_n C 2 (lw := [some (rf 300), some (rf v1), some (nu 0), some (nu v3)]) rfl rfl (by decide) dX11_isWord_67 ?_
          refine r_iinc C rfl (lw := [some (rf 300), some (rf v1), some (nu 0), some (nu (v3 + 1))]) rfl (by decide) dX11_isWord_68 ?_
          refine r_goto C 31 rfl dX11_isWord_71 ?_
          obtain ⟨g18, hf⟩ := of_g hf
          exact V_lw (ih v1 0 (v3 + 1) μ13 (inR_lit rfl) g18 hf) (And.intro rfl (And.intro rfl (And.intro rfl (And.intro rfl trivial))))
        · replace hf := if_t hf c17
          refine r_iconst C dX11_isWord_62 ?_
          refine r_goto C 67 rfl dX11_isWord_63 ?_
          refine r_istore_n C 2 (lw := [some (rf 300), some (rf v1), some (nu 1), some (nu v3)]) rfl rfl (by decide) dX11_isWord_67 ?_
          refine r_iinc C rfl (lw := [some (rf 300), some (rf v1), some (nu 1), some (nu (v3 + 1))]) rfl (by decide) dX11_isWord_68 ?_
          refine r_goto C 31 rfl dX11_isWord_71 ?_
          obtain ⟨g19, hf⟩ := of_g hf
          exact V_lw (ih v1 1 (v3 + 1) μ13 (inR_lit rfl) g19 hf) (And.intro rfl (And.intro rfl (And.intro rfl (And.intro rfl trivial))))
set_option maxHeartbeats 4000000 in
set_option maxRecDepth 100000 in
theorem c_X11_isWord {l : Launch} {D : va_G} {cy : Nat → ClassId} {ids : List Nat} {ad : Nat → Nat} {μ μ' : Mem} {a1 r : Int}  (hf : f_X11_isWord μ a1 = some (r, μ')) : KK aI l D (tyl cy) (lay cy) ids ad 12 yX11_isWord cX11_isWord 4 (some .boolean) [rf 300, rf a1] μ r μ' := by
  refine KK.of (by decide +kernel) (Nat.le_of_ble_eq_true rfl) ?_
  intro p e s m args below meth c A C hCF
  unfold f_X11_isWord at hf
  refine V_in (fun ho0 _ => ?_)
  refine r_aload_n C 1 rfl rfl dX11_isWord_0 ?_
  obtain ⟨g1, hf⟩ := of_g hf
  obtain ⟨r2, μ3, hc4, hf⟩ := of_bd hf
  refine r_callVIs C hCF (As := []) g1 rfl (c_J0_length_8abf5 hc4) rfl (by decide) (by decide) ⟨Nat.le_refl 0, Nat.le_refl 0⟩ tw_1114 tw_473 tw_13 tw_471 tw_472 0 (by decide) rfl (Nat.le_of_ble_eq_true rfl) dX11_isWord_1 (fun hr6 => ?_)
  refine V_in (fun ho5 _ => ?_)
  refine r_if_le C 27 hr6 rfl dX11_isWord_4 (fun c7 => ?_) (fun c7 => ?_)
  · replace hf := if_t hf c7
    refine r_iconst C dX11_isWord_27 ?_
    refine r_istore_n C 2 (lw := [some (rf 300), some (rf a1), some (nu 0), none]) rfl rfl (by decide) dX11_isWord_28 ?_
    refine r_iconst C dX11_isWord_29 ?_
    refine r_istore_n C 3 (lw := [some (rf 300), some (rf a1), some (nu 0), some (nu 0)]) rfl rfl (by decide) dX11_isWord_30 ?_
    exact V_lw (w_X11_isWord_31 C hCF 64 a1 0 0 μ3 (inR_lit rfl) (inR_lit rfl) hf) (And.intro rfl (And.intro rfl (And.intro rfl (And.intro rfl trivial))))
  · replace hf := if_f hf c7
    refine r_aload_n C 0 rfl rfl dX11_isWord_7 ?_
    refine r_getf C 300 (by decide) rfl (fx_m rfl) (ly_300 cy _ _) rfl in_X11 20 (by decide) tw_915 (v := nu (μ3 300 20)) rfl dX11_isWord_8 ?_
    refine r_aload_n C 0 rfl rfl dX11_isWord_11 ?_
    refine r_getf C 300 (by decide) rfl (fx_m rfl) (ly_300 cy _ _) rfl in_X11 21 (by decide) tw_916 (v := nu (μ3 300 21)) rfl dX11_isWord_12 ?_
    refine r_isub C dX11_isWord_15 ?_
    refine r_aload_n C 1 rfl rfl dX11_isWord_16 ?_
    obtain ⟨r8, μ9, hc10, hf⟩ := of_bd hf
    refine r_callVIs C hCF (As := []) g1 rfl (c_J0_length_8abf5 hc10) rfl (by decide) (by decide) ⟨Nat.le_refl 0, Nat.le_refl 0⟩ tw_1114 tw_473 tw_13 tw_471 tw_472 0 (by decide) rfl (Nat.le_of_ble_eq_true rfl) dX11_isWord_17 (fun hr12 => ?_)
    refine V_in (fun ho11 _ => ?_)
    obtain ⟨g13, hf⟩ := of_g hf
    refine r_icmp_ne C 27 g13 hr12 rfl dX11_isWord_20 (fun c14 => ?_) (fun c14 => ?_)
    · replace hf := if_f hf c14
      refine r_iconst C dX11_isWord_27 ?_
      refine r_istore_n C 2 (lw := [some (rf 300), some (rf a1), some (nu 0), none]) rfl rfl (by decide) dX11_isWord_28 ?_
      refine r_iconst C dX11_isWord_29 ?_
      refine r_istore_n C 3 (lw := [some (rf 300), some (rf a1), some (nu 0), some (nu 0)]) rfl rfl (by decide) dX11_isWord_30 ?_
      exact V_lw (w_X11_isWord_31 C hCF 64 a1 0 0 μ9 (inR_lit rfl) (inR_lit rfl) hf) (And.intro rfl (And.intro rfl (And.intro rfl (And.intro rfl trivial))))
    · replace hf := if_t hf c14
      refine r_iconst C dX11_isWord_23 ?_
      refine r_goto C 28 rfl dX11_isWord_24 ?_
      refine r_istore_n C 2 (lw := [some (rf 300), some (rf a1), some (nu 1), none]) rfl rfl (by decide) dX11_isWord_28 ?_
      refine r_iconst C dX11_isWord_29 ?_
      refine r_istore_n C 3 (lw := [some (rf 300), some (rf a1), some (nu 1), some (nu 0)]) rfl rfl (by decide) dX11_isWord_30 ?_
      exact V_lw (w_X11_isWord_31 C hCF 64 a1 1 0 μ9 (inR_lit rfl) (inR_lit rfl) hf) (And.intro rfl (And.intro rfl (And.intro rfl (And.intro rfl trivial))))
set_option maxHeartbeats 4000000 in
set_option maxRecDepth 100000 in
theorem w_X11_number_105 {p : Program} {l : Launch} {e : Env} {s : State} {m : MethodId} {args : Array Value} {below : List Frame} {meth : Method} {c : Code} {D : va_G} {cy : Nat → ClassId} {A : Nat → Prop} {ids : List Nat} {ad : Nat → Nat} {r : Int} {μ' : Mem} (C : Cx p s m args meth c D (tyl cy) A 3 cX11_number yX11_number.cls (some .int)) (hCF : CF ad A s) : ∀ (v1 v2 : Int) (μ : Mem), inR v1 → inR v2 → f_X11_number_105   v1 v2 μ = some (r, μ') → V p l e (rmk 4) s m args below meth c 0 0 (MQ below (aI D (tyl cy) (lay cy) ids ad A r μ') args s 0 0 A) D A (lay cy) ids ad 3 μ 105 [some (rf 300), some (nu v1), some (nu v2)] [] := by
  intro v1 v2 μ hv1 hv2 hf
  unfold f_X11_number_105 at hf
  refine V_in (fun ho0 _ => ?_)
  refine r_aload_n C 0 rfl rfl dX11_number_105 ?_
  refine r_getf C 300 (by decide) rfl (fx_m rfl) (ly_300 cy _ _) rfl in_X11 20 (by decide) tw_915 (v := nu (μ 300 20)) rfl dX11_number_106 ?_
  refine r_aload_n C 0 rfl rfl dX11_number_109 ?_
  refine r_getf C 300 (by decide) rfl (fx_m rfl) (ly_300 cy _ _) rfl in_X11 21 (by decide) tw_916 (v := nu (μ 300 21)) rfl dX11_number_110 ?_
  refine r_icmp_ne C 128 (ho0 _ _) (ho0 _ _) rfl dX11_number_113 (fun c1 => ?_) (fun c1 => ?_)
  · replace hf := if_f hf c1
    refine r_iload_n C 2 rfl rfl dX11_number_128 ?_
    refine r_iconst C dX11_number_129 ?_
    refine r_iload_n C 1 rfl rfl dX11_number_130 ?_
    obtain ⟨r2, μ3, hc4, hf⟩ := of_bd hf
    refine r_callSI C hCF (As := [nu v2, nu 1, nu v1]) (c_X11_in hv2 (inR_lit rfl) hv1 hc4) rfl (by decide) (by decide) ⟨Nat.le_refl 0, Nat.le_refl 0⟩ tw_1063 tw_1065 tw_10 tw_1064 3 (by decide) rfl (Nat.le_of_ble_eq_true rfl) dX11_number_131 (fun hr6 => ?_)
    refine V_in (fun ho5 _ => ?_)
    refine r_if_ne C 146 hr6 rfl dX11_number_134 (fun c7 => ?_) (fun c7 => ?_)
    · replace hf := if_f hf c7
      refine r_iload_n C 2 rfl rfl dX11_number_146 ?_
      obtain ⟨rfl, rfl⟩ := of_ret hf
      exact r_iret C rfl hv2 dX11_number_147
    · replace hf := if_t hf c7
      refine r_aload_n C 0 rfl rfl dX11_number_137 ?_
      refine r_iconst C dX11_number_138 ?_
      refine r_aload_n C 0 rfl rfl dX11_number_139 ?_
      refine r_getf C 300 (by decide) rfl (fx_m rfl) (ly_300 cy _ _) rfl in_X11 21 (by decide) tw_916 (v := nu (μ3 300 21)) rfl dX11_number_140 ?_
      obtain ⟨r8, μ9, hc10, hf⟩ := of_bd hf
      refine r_callVV C hCF (As := [nu 1, nu (μ3 300 21)]) 300 (by decide) rfl (fx_m rfl) (ly_300 cy _ _) rfl (c_X11_fails (inR_lit rfl) (ho5 _ _) hc10) rfl (by decide) (by decide) ⟨Nat.le_refl 0, Nat.le_refl 0⟩ tw_1116 tw_1119 tw_10 tw_1118 ts_43 2 (by decide) rfl (Nat.le_of_ble_eq_true rfl) dX11_number_143 ?_
      refine V_in (fun ho11 _ => ?_)
      refine r_iload_n C 2 rfl rfl dX11_number_146 ?_
      obtain ⟨rfl, rfl⟩ := of_ret hf
      exact r_iret C rfl hv2 dX11_number_147
  · replace hf := if_t hf c1
    refine r_aload_n C 0 rfl rfl dX11_number_116 ?_
    refine r_iconst C dX11_number_117 ?_
    refine r_aload_n C 0 rfl rfl dX11_number_118 ?_
    refine r_getf C 300 (by decide) rfl (fx_m rfl) (ly_300 cy _ _) rfl in_X11 21 (by decide) tw_916 (v := nu (μ 300 21)) rfl dX11_number_119 ?_
    obtain ⟨r13, μ14, hc15, hf⟩ := of_bd hf
    refine r_callVV C hCF (As := [nu 0, nu (μ 300 21)]) 300 (by decide) rfl (fx_m rfl) (ly_300 cy _ _) rfl (c_X11_fails (inR_lit rfl) (ho0 _ _) hc15) rfl (by decide) (by decide) ⟨Nat.le_refl 0, Nat.le_refl 0⟩ tw_1116 tw_1119 tw_10 tw_1118 ts_43 2 (by decide) rfl (Nat.le_of_ble_eq_true rfl) dX11_number_122 ?_
    refine V_in (fun ho16 _ => ?_)
    refine r_goto C 146 rfl dX11_number_125 ?_
    refine r_iload_n C 2 rfl rfl dX11_number_146 ?_
    obtain ⟨rfl, rfl⟩ := of_ret hf
    exact r_iret C rfl hv2 dX11_number_147
set_option maxHeartbeats 4000000 in
set_option maxRecDepth 100000 in
theorem w_X11_number_16 {p : Program} {l : Launch} {e : Env} {s : State} {m : MethodId} {args : Array Value} {below : List Frame} {meth : Method} {c : Code} {D : va_G} {cy : Nat → ClassId} {A : Nat → Prop} {ids : List Nat} {ad : Nat → Nat} {r : Int} {μ' : Mem} (C : Cx p s m args meth c D (tyl cy) A 3 cX11_number yX11_number.cls (some .int)) (hCF : CF ad A s) : ∀ n : Nat, ∀ (v1 v2 : Int) (μ : Mem), inR v1 → inR v2 → f_X11_number_16   n v1 v2 μ = some (r, μ') → V p l e (rmk 4) s m args below meth c 0 0 (MQ below (aI D (tyl cy) (lay cy) ids ad A r μ') args s 0 0 A) D A (lay cy) ids ad 3 μ 16 [some (rf 300), some (nu v1), some (nu v2)] [] := by
  intro n
  induction n with
  | zero =>
    intro v1 v2 μ hv1 hv2 hf
    cases hf
  | succ n ih =>
    intro v1 v2 μ hv1 hv2 hf
    rw [f_X11_number_16_e] at hf
    refine V_in (fun ho0 _ => ?_)
    refine r_aload_n C 0 rfl rfl dX11_number_16 ?_
    refine r_getf C 300 (by decide) rfl (fx_m rfl) (ly_300 cy _ _) rfl in_X11 20 (by decide) tw_915 (v := nu (μ 300 20)) rfl dX11_number_17 ?_
    refine r_aload_n C 0 rfl rfl dX11_number_20 ?_
    refine r_getf C 300 (by decide) rfl (fx_m rfl) (ly_300 cy _ _) rfl in_X11 19 (by decide) tw_914 (v := nu (μ 300 19)) rfl dX11_number_21 ?_
    refine r_icmp_ge C 105 (ho0 _ _) (ho0 _ _) rfl dX11_number_24 (fun c1 => ?_) (fun c1 => ?_)
    · replace hf := if_t hf c1
      exact V_lw (w_X11_number_105 C hCF v1 v2 μ hv1 hv2 hf) (And.intro rfl (And.intro rfl (And.intro rfl trivial)))
    · replace hf := if_f hf c1
      refine r_aload_n C 0 rfl rfl dX11_number_27 ?_
      refine r_getf C 300 (by decide) rfl (fx_m rfl) (ly_300 cy _ _) rfl in_X11 18 (by decide) tw_913 (v := rf 311) rfl dX11_number_28 ?_
      refine r_aload_n C 0 rfl rfl dX11_number_31 ?_
      refine r_getf C 300 (by decide) rfl (fx_m rfl) (ly_300 cy _ _) rfl in_X11 20 (by decide) tw_915 (v := nu (μ 300 20)) rfl dX11_number_32 ?_
      obtain ⟨g2, hf⟩ := of_g hf
      refine r_bald C 311 (by decide) rfl (fx_m rfl) 1 (cA := cy 1) (n := 200) (ly_311 cy _ _) rfl g2 (by decide) dX11_number_35 ?_
      refine r_bipush C dX11_number_36 rfl ?_
      refine r_icmp_lt C 105 (ho0 _ _) (inR_lit rfl) rfl dX11_number_38 (fun c3 => ?_) (fun c3 => ?_)
      · replace hf := if_t hf c3
        exact V_lw (w_X11_number_105 C hCF v1 v2 μ hv1 hv2 hf) (And.intro rfl (And.intro rfl (And.intro rfl trivial)))
      · replace hf := if_f hf c3
        refine r_aload_n C 0 rfl rfl dX11_number_41 ?_
        refine r_getf C 300 (by decide) rfl (fx_m rfl) (ly_300 cy _ _) rfl in_X11 18 (by decide) tw_913 (v := rf 311) rfl dX11_number_42 ?_
        refine r_aload_n C 0 rfl rfl dX11_number_45 ?_
        refine r_getf C 300 (by decide) rfl (fx_m rfl) (ly_300 cy _ _) rfl in_X11 20 (by decide) tw_915 (v := nu (μ 300 20)) rfl dX11_number_46 ?_
        refine r_bald C 311 (by decide) rfl (fx_m rfl) 1 (cA := cy 1) (n := 200) (ly_311 cy _ _) rfl g2 (by decide) dX11_number_49 ?_
        refine r_bipush C dX11_number_50 rfl ?_
        refine r_icmp_gt C 105 (ho0 _ _) (inR_lit rfl) rfl dX11_number_52 (fun c4 => ?_) (fun c4 => ?_)
        · replace hf := if_t hf c4
          exact V_lw (w_X11_number_105 C hCF v1 v2 μ hv1 hv2 hf) (And.intro rfl (And.intro rfl (And.intro rfl trivial)))
        · replace hf := if_f hf c4
          refine r_aload_n C 0 rfl rfl dX11_number_55 ?_
          refine r_getf C 300 (by decide) rfl (fx_m rfl) (ly_300 cy _ _) rfl in_X11 20 (by decide) tw_915 (v := nu (μ 300 20)) rfl dX11_number_56 ?_
          refine r_aload_n C 0 rfl rfl dX11_number_59 ?_
          refine r_getf C 300 (by decide) rfl (fx_m rfl) (ly_300 cy _ _) rfl in_X11 21 (by decide) tw_916 (v := nu (μ 300 21)) rfl dX11_number_60 ?_
          refine r_isub C dX11_number_63 ?_
          refine r_iconst C dX11_number_64 ?_
          obtain ⟨g5, hf⟩ := of_g hf
          refine r_icmp_ge C 88 g5 (inR_lit rfl) rfl dX11_number_65 (fun c6 => ?_) (fun c6 => ?_)
          · replace hf := if_t hf c6
            refine r_sipush C dX11_number_88 rfl ?_
            refine r_istore_n C 2 (lw := [some (rf 300), some (nu v1), some (nu 10000)]) rfl rfl (by decide) dX11_number_91 ?_
            refine r_aload_n C 0 rfl rfl dX11_number_92 ?_
            refine r_dup C dX11_number_93 ?_
            refine r_getf C 300 (by decide) rfl (fx_m rfl) (ly_300 cy _ _) rfl in_X11 20 (by decide) tw_915 (v := nu (μ 300 20)) rfl dX11_number_94 ?_
            refine r_iconst C dX11_number_97 ?_
            refine r_iadd C dX11_number_98 ?_
            obtain ⟨g7, hf⟩ := of_g hf
            refine r_putf C 300 (by decide) rfl (fx_m rfl) (by decide) (ly_300 cy _ _) 20 (ly_300 cy _ _) rfl (Nat.le_of_ble_eq_true rfl) g7 rfl in_X11 tyX11 tyX11_ok nmX11 (by decide) tw_915 rfl rfl dX11_number_99 (fun μ8 hμ10 => ?_)
            replace hf := of_lm hf hμ10
            refine V_in (fun ho9 _ => ?_)
            refine r_goto C 16 rfl dX11_number_102 ?_
            exact V_lw (ih v1 10000 μ8 hv1 (inR_lit rfl) hf) (And.intro rfl (And.intro rfl (And.intro rfl trivial)))
          · replace hf := if_f hf c6
            refine r_bipush C dX11_number_68 rfl ?_
            refine r_iload_n C 2 rfl rfl dX11_number_70 ?_
            refine r_imul C dX11_number_71 ?_
            refine r_aload_n C 0 rfl rfl dX11_number_72 ?_
            refine r_getf C 300 (by decide) rfl (fx_m rfl) (ly_300 cy _ _) rfl in_X11 18 (by decide) tw_913 (v := rf 311) rfl dX11_number_73 ?_
            refine r_aload_n C 0 rfl rfl dX11_number_76 ?_
            refine r_getf C 300 (by decide) rfl (fx_m rfl) (ly_300 cy _ _) rfl in_X11 20 (by decide) tw_915 (v := nu (μ 300 20)) rfl dX11_number_77 ?_
            refine r_bald C 311 (by decide) rfl (fx_m rfl) 1 (cA := cy 1) (n := 200) (ly_311 cy _ _) rfl g2 (by decide) dX11_number_80 ?_
            refine r_iadd C dX11_number_81 ?_
            refine r_bipush C dX11_number_82 rfl ?_
            refine r_isub C dX11_number_84 ?_
            refine r_goto C 91 rfl dX11_number_85 ?_
            refine r_istore_n C 2 (lw := [some (rf 300), some (nu v1), some (nu (((10 * v2) + (μ 311 (μ 300 20).toNat)) - 48))]) rfl rfl (by decide) dX11_number_91 ?_
            refine r_aload_n C 0 rfl rfl dX11_number_92 ?_
            refine r_dup C dX11_number_93 ?_
            refine r_getf C 300 (by decide) rfl (fx_m rfl) (ly_300 cy _ _) rfl in_X11 20 (by decide) tw_915 (v := nu (μ 300 20)) rfl dX11_number_94 ?_
            refine r_iconst C dX11_number_97 ?_
            refine r_iadd C dX11_number_98 ?_
            obtain ⟨g11, hf⟩ := of_g hf
            refine r_putf C 300 (by decide) rfl (fx_m rfl) (by decide) (ly_300 cy _ _) 20 (ly_300 cy _ _) rfl (Nat.le_of_ble_eq_true rfl) g11 rfl in_X11 tyX11 tyX11_ok nmX11 (by decide) tw_915 rfl rfl dX11_number_99 (fun μ12 hμ14 => ?_)
            replace hf := of_lm hf hμ14
            refine V_in (fun ho13 _ => ?_)
            refine r_goto C 16 rfl dX11_number_102 ?_
            obtain ⟨g15, hf⟩ := of_g hf
            exact V_lw (ih v1 (((10 * v2) + (μ 311 (μ 300 20).toNat)) - 48) μ12 hv1 g15 hf) (And.intro rfl (And.intro rfl (And.intro rfl trivial)))
set_option maxHeartbeats 4000000 in
set_option maxRecDepth 100000 in
theorem c_X11_number {l : Launch} {D : va_G} {cy : Nat → ClassId} {ids : List Nat} {ad : Nat → Nat} {μ μ' : Mem} {a1 r : Int} (h1 : inR a1) (hf : f_X11_number μ a1 = some (r, μ')) : KK aI l D (tyl cy) (lay cy) ids ad 4 yX11_number cX11_number 3 (some .int) [rf 300, nu a1] μ r μ' := by
  refine KK.of (by decide +kernel) (Nat.le_of_ble_eq_true rfl) ?_
  intro p e s m args below meth c A C hCF
  unfold f_X11_number at hf
  refine V_in (fun ho0 _ => ?_)
  refine r_aload_n C 0 rfl rfl dX11_number_0 ?_
  refine r_getf C 300 (by decide) rfl (fx_m rfl) (ly_300 cy _ _) rfl in_X11 22 (by decide) tw_917 (v := nu (μ 300 22)) rfl dX11_number_1 ?_
  refine r_if_le C 9 (ho0 _ _) rfl dX11_number_4 (fun c1 => ?_) (fun c1 => ?_)
  · replace hf := if_t hf c1
    refine r_aload_n C 0 rfl rfl dX11_number_9 ?_
    obtain ⟨r2, μ3, hc4, hf⟩ := of_bd hf
    refine r_callVI C hCF (As := []) 300 (by decide) rfl (fx_m rfl) (ly_300 cy _ _) rfl (c_X11_isOver hc4) rfl (by decide) (by decide) ⟨Nat.le_refl 0, Nat.le_refl 0⟩ tw_1091 tw_1094 tw_10 tw_1093 ts_40 0 (by decide) rfl (Nat.le_of_ble_eq_true rfl) dX11_number_10 (fun hr6 => ?_)
    refine V_in (fun ho5 _ => ?_)
    refine r_pop C dX11_number_13 ?_
    refine r_iconst C dX11_number_14 ?_
    refine r_istore_n C 2 (lw := [some (rf 300), some (nu a1), some (nu 0)]) rfl rfl (by decide) dX11_number_15 ?_
    exact V_lw (w_X11_number_16 C hCF 256 a1 0 μ3 h1 (inR_lit rfl) hf) (And.intro rfl (And.intro rfl (And.intro rfl trivial)))
  · replace hf := if_f hf c1
    refine r_iconst C dX11_number_7 ?_
    obtain ⟨rfl, rfl⟩ := of_ret hf
    exact r_iret C rfl (inR_lit rfl) dX11_number_8
set_option maxHeartbeats 4000000 in
set_option maxRecDepth 100000 in
theorem w_X11_clause_82 {p : Program} {l : Launch} {e : Env} {s : State} {m : MethodId} {args : Array Value} {below : List Frame} {meth : Method} {c : Code} {D : va_G} {cy : Nat → ClassId} {A : Nat → Prop} {ids : List Nat} {ad : Nat → Nat} {r : Int} {μ' : Mem} (C : Cx p s m args meth c D (tyl cy) A 2 cX11_clause yX11_clause.cls none) (hCF : CF ad A s) : ∀ (v1 : Int) (μ : Mem), inR v1 → f_X11_clause_82   v1 μ = some (r, μ') → V p l e (rmk 14) s m args below meth c 0 0 (MQ below (aV D (tyl cy) (lay cy) ids ad A r μ') args s 0 0 A) D A (lay cy) ids ad 2 μ 82 [some (rf 300), some (nu v1)] [] := by
  intro v1 μ hv1 hf
  unfold f_X11_clause_82 at hf
  refine V_in (fun ho0 _ => ?_)
  refine r_iload_n C 1 rfl rfl dX11_clause_82 ?_
  refine r_bipush C dX11_clause_83 rfl ?_
  refine r_icmp_ne C 98 hv1 (inR_lit rfl) rfl dX11_clause_85 (fun c1 => ?_) (fun c1 => ?_)
  · replace hf := if_f hf c1
    refine r_aload_n C 0 rfl rfl dX11_clause_98 ?_
    refine r_getf C 300 (by decide) rfl (fx_m rfl) (ly_300 cy _ _) rfl in_X11 25 (by decide) tw_920 (v := rf 314) rfl dX11_clause_99 ?_
    refine r_iload_n C 1 rfl rfl dX11_clause_102 ?_
    obtain ⟨g2, hf⟩ := of_g hf
    refine r_zald C 314 (by decide) rfl (fx_m rfl) 2 (cA := cy 2) (n := 9) (ly_314 cy _ _) rfl g2 (by decide) dX11_clause_103 ?_
    refine r_if_eq C 117 (ho0 _ _) rfl dX11_clause_104 (fun c3 => ?_) (fun c3 => ?_)
    · replace hf := if_t hf c3
      refine r_aload_n C 0 rfl rfl dX11_clause_117 ?_
      refine r_getf C 300 (by decide) rfl (fx_m rfl) (ly_300 cy _ _) rfl in_X11 25 (by decide) tw_920 (v := rf 314) rfl dX11_clause_118 ?_
      refine r_iload_n C 1 rfl rfl dX11_clause_121 ?_
      refine r_iconst C dX11_clause_122 ?_
      refine r_zast C 314 (by decide) rfl (fx_m rfl) (by decide) 2 (cA := cy 2) (n := 9) (fun f => ly_314 cy _ f) rfl g2 (by decide) (zI_rng _) dX11_clause_123 (fun μ4 hμ6 => ?_)
      replace hf := of_lm hf hμ6
      refine V_in (fun ho5 _ => ?_)
      refine r_aload_n C 0 rfl rfl dX11_clause_124 ?_
      refine r_getf C 300 (by decide) rfl (fx_m rfl) (ly_300 cy _ _) rfl in_X11 24 (by decide) tw_919 (v := rf 313) rfl dX11_clause_125 ?_
      refine r_iload_n C 1 rfl rfl dX11_clause_128 ?_
      refine r_aload_n C 0 rfl rfl dX11_clause_129 ?_
      refine r_iload_n C 1 rfl rfl dX11_clause_130 ?_
      obtain ⟨r7, μ8, hc9, hf⟩ := of_bd hf
      refine r_callSI C hCF (As := [nu v1]) (c_X11_most hv1 hc9) rfl (by decide) (by decide) ⟨Nat.le_refl 0, Nat.le_refl 0⟩ tw_1120 tw_1122 tw_10 tw_1121 1 (by decide) rfl (Nat.le_of_ble_eq_true rfl) dX11_clause_131 (fun hr11 => ?_)
      refine V_in (fun ho10 _ => ?_)
      obtain ⟨r12, μ13, hc14, hf⟩ := of_bd hf
      refine r_callVI C hCF (As := [nu r7]) 300 (by decide) rfl (fx_m rfl) (ly_300 cy _ _) rfl (c_X11_number hr11 hc14) rfl (by decide) (by decide) ⟨Nat.le_refl 0, Nat.le_refl 0⟩ tw_1123 tw_1126 tw_10 tw_1125 ts_44 1 (by decide) rfl (Nat.le_of_ble_eq_true rfl) dX11_clause_134 (fun hr16 => ?_)
      refine V_in (fun ho15 _ => ?_)
      refine r_iast C 313 (by decide) rfl (fx_m rfl) (by decide) 0 (cA := cy 0) (n := 9) (fun f => ly_313 cy _ f) rfl g2 (by decide) hr16 dX11_clause_137 (fun μ17 hμ19 => ?_)
      replace hf := of_lm hf hμ19
      refine V_in (fun ho18 _ => ?_)
      refine r_iload_n C 1 rfl rfl dX11_clause_138 ?_
      refine r_iconst C dX11_clause_139 ?_
      refine r_icmp_ge C 159 hv1 (inR_lit rfl) rfl dX11_clause_140 (fun c20 => ?_) (fun c20 => ?_)
      · replace hf := if_t hf c20
        obtain ⟨-, rfl⟩ := of_ret hf
        exact r_vret C rfl dX11_clause_159
      · replace hf := if_f hf c20
        refine r_aload_n C 0 rfl rfl dX11_clause_143 ?_
        refine r_getf C 300 (by decide) rfl (fx_m rfl) (ly_300 cy _ _) rfl in_X11 24 (by decide) tw_919 (v := rf 313) rfl dX11_clause_144 ?_
        refine r_iload_n C 1 rfl rfl dX11_clause_147 ?_
        refine r_iconst C dX11_clause_148 ?_
        refine r_iadd C dX11_clause_149 ?_
        refine r_aload_n C 0 rfl rfl dX11_clause_150 ?_
        refine r_iload_n C 1 rfl rfl dX11_clause_151 ?_
        obtain ⟨r21, μ22, hc23, hf⟩ := of_bd hf
        refine r_callSI C hCF (As := [nu v1]) (c_X11_most hv1 hc23) rfl (by decide) (by decide) ⟨Nat.le_refl 0, Nat.le_refl 0⟩ tw_1120 tw_1122 tw_10 tw_1121 1 (by decide) rfl (Nat.le_of_ble_eq_true rfl) dX11_clause_152 (fun hr25 => ?_)
        refine V_in (fun ho24 _ => ?_)
        obtain ⟨r26, μ27, hc28, hf⟩ := of_bd hf
        refine r_callVI C hCF (As := [nu r21]) 300 (by decide) rfl (fx_m rfl) (ly_300 cy _ _) rfl (c_X11_number hr25 hc28) rfl (by decide) (by decide) ⟨Nat.le_refl 0, Nat.le_refl 0⟩ tw_1123 tw_1126 tw_10 tw_1125 ts_44 1 (by decide) rfl (Nat.le_of_ble_eq_true rfl) dX11_clause_155 (fun hr30 => ?_)
        refine V_in (fun ho29 _ => ?_)
        obtain ⟨g31, hf⟩ := of_g hf
        refine r_iast C 313 (by decide) rfl (fx_m rfl) (by decide) 0 (cA := cy 0) (n := 9) (fun f => ly_313 cy _ f) rfl g31 (by decide) hr30 dX11_clause_158 (fun μ32 hμ34 => ?_)
        replace hf := of_lm hf hμ34
        refine V_in (fun ho33 _ => ?_)
        obtain ⟨-, rfl⟩ := of_ret hf
        exact r_vret C rfl dX11_clause_159
    · replace hf := if_f hf c3
      refine r_aload_n C 0 rfl rfl dX11_clause_107 ?_
      refine r_iconst C dX11_clause_108 ?_
      refine r_aload_n C 0 rfl rfl dX11_clause_109 ?_
      refine r_getf C 300 (by decide) rfl (fx_m rfl) (ly_300 cy _ _) rfl in_X11 21 (by decide) tw_916 (v := nu (μ 300 21)) rfl dX11_clause_110 ?_
      obtain ⟨r35, μ36, hc37, hf⟩ := of_bd hf
      refine r_callVV C hCF (As := [nu 2, nu (μ 300 21)]) 300 (by decide) rfl (fx_m rfl) (ly_300 cy _ _) rfl (c_X11_fails (inR_lit rfl) (ho0 _ _) hc37) rfl (by decide) (by decide) ⟨Nat.le_refl 0, Nat.le_refl 0⟩ tw_1116 tw_1119 tw_10 tw_1118 ts_43 2 (by decide) rfl (Nat.le_of_ble_eq_true rfl) dX11_clause_113 ?_
      refine V_in (fun ho38 _ => ?_)
      obtain ⟨-, rfl⟩ := of_ret hf
      exact r_vret C rfl dX11_clause_116
  · replace hf := if_t hf c1
    refine r_aload_n C 0 rfl rfl dX11_clause_88 ?_
    refine r_iconst C dX11_clause_89 ?_
    refine r_aload_n C 0 rfl rfl dX11_clause_90 ?_
    refine r_getf C 300 (by decide) rfl (fx_m rfl) (ly_300 cy _ _) rfl in_X11 21 (by decide) tw_916 (v := nu (μ 300 21)) rfl dX11_clause_91 ?_
    obtain ⟨r40, μ41, hc42, hf⟩ := of_bd hf
    refine r_callVV C hCF (As := [nu 0, nu (μ 300 21)]) 300 (by decide) rfl (fx_m rfl) (ly_300 cy _ _) rfl (c_X11_fails (inR_lit rfl) (ho0 _ _) hc42) rfl (by decide) (by decide) ⟨Nat.le_refl 0, Nat.le_refl 0⟩ tw_1116 tw_1119 tw_10 tw_1118 ts_43 2 (by decide) rfl (Nat.le_of_ble_eq_true rfl) dX11_clause_94 ?_
    refine V_in (fun ho43 _ => ?_)
    obtain ⟨-, rfl⟩ := of_ret hf
    exact r_vret C rfl dX11_clause_97
set_option maxHeartbeats 4000000 in
set_option maxRecDepth 100000 in
theorem w_X11_clause_59 {p : Program} {l : Launch} {e : Env} {s : State} {m : MethodId} {args : Array Value} {below : List Frame} {meth : Method} {c : Code} {D : va_G} {cy : Nat → ClassId} {A : Nat → Prop} {ids : List Nat} {ad : Nat → Nat} {r : Int} {μ' : Mem} (C : Cx p s m args meth c D (tyl cy) A 2 cX11_clause yX11_clause.cls none) (hCF : CF ad A s) : ∀ n : Nat, ∀ (v1 : Int) (μ : Mem), inR v1 → f_X11_clause_59   n v1 μ = some (r, μ') → V p l e (rmk 14) s m args below meth c 0 0 (MQ below (aV D (tyl cy) (lay cy) ids ad A r μ') args s 0 0 A) D A (lay cy) ids ad 2 μ 59 [some (rf 300), some (nu v1)] [] := by
  intro n
  induction n with
  | zero =>
    intro v1 μ hv1 hf
    cases hf
  | succ n ih =>
    intro v1 μ hv1 hf
    rw [f_X11_clause_59_e] at hf
    refine V_in (fun ho0 _ => ?_)
    refine r_iload_n C 1 rfl rfl dX11_clause_59 ?_
    refine r_bipush C dX11_clause_60 rfl ?_
    refine r_icmp_ge C 82 hv1 (inR_lit rfl) rfl dX11_clause_62 (fun c1 => ?_) (fun c1 => ?_)
    · replace hf := if_t hf c1
      exact V_lw (w_X11_clause_82 C hCF v1 μ hv1 hf) (And.intro rfl (And.intro rfl trivial))
    · replace hf := if_f hf c1
      refine r_aload_n C 0 rfl rfl dX11_clause_65 ?_
      refine r_iload_n C 1 rfl rfl dX11_clause_66 ?_
      obtain ⟨r2, μ3, hc4, hf⟩ := of_bd hf
      refine r_callSR C hCF (As := [nu v1]) (c_X11_wordOf hv1 hc4) rfl (by decide) (by decide) ⟨Nat.le_refl 0, Nat.le_refl 0⟩ tw_1099 tw_1101 tw_10 tw_1100 1 (by decide) rfl (Nat.le_of_ble_eq_true rfl) dX11_clause_67 ?_
      refine V_in (fun ho5 _ => ?_)
      obtain ⟨r7, μ8, hc9, hf⟩ := of_bd hf
      refine r_callVI C hCF (As := [rf r2]) 300 (by decide) rfl (fx_m rfl) (ly_300 cy _ _) rfl (c_X11_isWord hc9) rfl (by decide) (by decide) ⟨Nat.le_refl 0, Nat.le_refl 0⟩ tw_1110 tw_1113 tw_10 tw_1112 ts_42 1 (by decide) rfl (Nat.le_of_ble_eq_true rfl) dX11_clause_70 (fun hr11 => ?_)
      refine V_in (fun ho10 _ => ?_)
      refine r_if_ne C 82 hr11 rfl dX11_clause_73 (fun c12 => ?_) (fun c12 => ?_)
      · replace hf := if_f hf c12
        exact V_lw (w_X11_clause_82 C hCF v1 μ8 hv1 hf) (And.intro rfl (And.intro rfl trivial))
      · replace hf := if_t hf c12
        refine r_iinc C rfl (lw := [some (rf 300), some (nu (v1 + 1))]) rfl (by decide) dX11_clause_76 ?_
        refine r_goto C 59 rfl dX11_clause_79 ?_
        obtain ⟨g13, hf⟩ := of_g hf
        exact V_lw (ih (v1 + 1) μ8 g13 hf) (And.intro rfl (And.intro rfl trivial))
set_option maxHeartbeats 4000000 in
set_option maxRecDepth 100000 in
theorem w_X11_clause_5 {p : Program} {l : Launch} {e : Env} {s : State} {m : MethodId} {args : Array Value} {below : List Frame} {meth : Method} {c : Code} {D : va_G} {cy : Nat → ClassId} {A : Nat → Prop} {ids : List Nat} {ad : Nat → Nat} {r : Int} {μ' : Mem} (C : Cx p s m args meth c D (tyl cy) A 2 cX11_clause yX11_clause.cls none) (hCF : CF ad A s) : ∀ n : Nat, ∀ (μ : Mem), f_X11_clause_5   n μ = some (r, μ') → V p l e (rmk 14) s m args below meth c 0 0 (MQ below (aV D (tyl cy) (lay cy) ids ad A r μ') args s 0 0 A) D A (lay cy) ids ad 2 μ 5 [some (rf 300), none] [] := by
  intro n
  induction n with
  | zero =>
    intro  μ  hf
    cases hf
  | succ n ih =>
    intro  μ  hf
    rw [f_X11_clause_5_e] at hf
    refine V_in (fun ho0 _ => ?_)
    refine r_aload_n C 0 rfl rfl dX11_clause_5 ?_
    refine r_getf C 300 (by decide) rfl (fx_m rfl) (ly_300 cy _ _) rfl in_X11 20 (by decide) tw_915 (v := nu (μ 300 20)) rfl dX11_clause_6 ?_
    refine r_aload_n C 0 rfl rfl dX11_clause_9 ?_
    refine r_getf C 300 (by decide) rfl (fx_m rfl) (ly_300 cy _ _) rfl in_X11 19 (by decide) tw_914 (v := nu (μ 300 19)) rfl dX11_clause_10 ?_
    refine r_icmp_ge C 57 (ho0 _ _) (ho0 _ _) rfl dX11_clause_13 (fun c1 => ?_) (fun c1 => ?_)
    · replace hf := if_t hf c1
      refine r_iconst C dX11_clause_57 ?_
      refine r_istore_n C 1 (lw := [some (rf 300), some (nu 0)]) rfl rfl (by decide) dX11_clause_58 ?_
      exact V_lw (w_X11_clause_59 C hCF 256 0 μ (inR_lit rfl) hf) (And.intro rfl (And.intro rfl trivial))
    · replace hf := if_f hf c1
      refine r_aload_n C 0 rfl rfl dX11_clause_16 ?_
      refine r_getf C 300 (by decide) rfl (fx_m rfl) (ly_300 cy _ _) rfl in_X11 18 (by decide) tw_913 (v := rf 311) rfl dX11_clause_17 ?_
      refine r_aload_n C 0 rfl rfl dX11_clause_20 ?_
      refine r_getf C 300 (by decide) rfl (fx_m rfl) (ly_300 cy _ _) rfl in_X11 20 (by decide) tw_915 (v := nu (μ 300 20)) rfl dX11_clause_21 ?_
      obtain ⟨g2, hf⟩ := of_g hf
      refine r_bald C 311 (by decide) rfl (fx_m rfl) 1 (cA := cy 1) (n := 200) (ly_311 cy _ _) rfl g2 (by decide) dX11_clause_24 ?_
      refine r_bipush C dX11_clause_25 rfl ?_
      refine r_icmp_lt C 57 (ho0 _ _) (inR_lit rfl) rfl dX11_clause_27 (fun c3 => ?_) (fun c3 => ?_)
      · replace hf := if_t hf c3
        refine r_iconst C dX11_clause_57 ?_
        refine r_istore_n C 1 (lw := [some (rf 300), some (nu 0)]) rfl rfl (by decide) dX11_clause_58 ?_
        exact V_lw (w_X11_clause_59 C hCF 256 0 μ (inR_lit rfl) hf) (And.intro rfl (And.intro rfl trivial))
      · replace hf := if_f hf c3
        refine r_aload_n C 0 rfl rfl dX11_clause_30 ?_
        refine r_getf C 300 (by decide) rfl (fx_m rfl) (ly_300 cy _ _) rfl in_X11 18 (by decide) tw_913 (v := rf 311) rfl dX11_clause_31 ?_
        refine r_aload_n C 0 rfl rfl dX11_clause_34 ?_
        refine r_getf C 300 (by decide) rfl (fx_m rfl) (ly_300 cy _ _) rfl in_X11 20 (by decide) tw_915 (v := nu (μ 300 20)) rfl dX11_clause_35 ?_
        refine r_bald C 311 (by decide) rfl (fx_m rfl) 1 (cA := cy 1) (n := 200) (ly_311 cy _ _) rfl g2 (by decide) dX11_clause_38 ?_
        refine r_bipush C dX11_clause_39 rfl ?_
        refine r_icmp_gt C 57 (ho0 _ _) (inR_lit rfl) rfl dX11_clause_41 (fun c4 => ?_) (fun c4 => ?_)
        · replace hf := if_t hf c4
          refine r_iconst C dX11_clause_57 ?_
          refine r_istore_n C 1 (lw := [some (rf 300), some (nu 0)]) rfl rfl (by decide) dX11_clause_58 ?_
          exact V_lw (w_X11_clause_59 C hCF 256 0 μ (inR_lit rfl) hf) (And.intro rfl (And.intro rfl trivial))
        · replace hf := if_f hf c4
          refine r_aload_n C 0 rfl rfl dX11_clause_44 ?_
          refine r_dup C dX11_clause_45 ?_
          refine r_getf C 300 (by decide) rfl (fx_m rfl) (ly_300 cy _ _) rfl in_X11 20 (by decide) tw_915 (v := nu (μ 300 20)) rfl dX11_clause_46 ?_
          refine r_iconst C dX11_clause_49 ?_
          refine r_iadd C dX11_clause_50 ?_
          obtain ⟨g5, hf⟩ := of_g hf
          refine r_putf C 300 (by decide) rfl (fx_m rfl) (by decide) (ly_300 cy _ _) 20 (ly_300 cy _ _) rfl (Nat.le_of_ble_eq_true rfl) g5 rfl in_X11 tyX11 tyX11_ok nmX11 (by decide) tw_915 rfl rfl dX11_clause_51 (fun μ6 hμ8 => ?_)
          replace hf := of_lm hf hμ8
          refine V_in (fun ho7 _ => ?_)
          refine r_goto C 5 rfl dX11_clause_54 ?_
          exact V_lw (ih μ6 hf) (And.intro rfl trivial)
set_option maxHeartbeats 4000000 in
set_option maxRecDepth 100000 in
theorem c_X11_clause {l : Launch} {D : va_G} {cy : Nat → ClassId} {ids : List Nat} {ad : Nat → Nat} {μ μ' : Mem} { r : Int}  (hf : f_X11_clause μ  = some (r, μ')) : KK aV l D (tyl cy) (lay cy) ids ad 14 yX11_clause cX11_clause 2 none [rf 300] μ r μ' := by
  refine KK.of (by decide +kernel) (Nat.le_of_ble_eq_true rfl) ?_
  intro p e s m args below meth c A C hCF
  unfold f_X11_clause at hf
  refine V_in (fun ho0 _ => ?_)
  refine r_aload_n C 0 rfl rfl dX11_clause_0 ?_
  obtain ⟨r1, μ2, hc3, hf⟩ := of_bd hf
  refine r_callVI C hCF (As := []) 300 (by decide) rfl (fx_m rfl) (ly_300 cy _ _) rfl (c_X11_isOver hc3) rfl (by decide) (by decide) ⟨Nat.le_refl 0, Nat.le_refl 0⟩ tw_1091 tw_1094 tw_10 tw_1093 ts_40 0 (by decide) rfl (Nat.le_of_ble_eq_true rfl) dX11_clause_1 (fun hr5 => ?_)
  refine V_in (fun ho4 _ => ?_)
  refine r_pop C dX11_clause_4 ?_
  exact V_lw (w_X11_clause_5 C hCF 256 μ2 hf) (And.intro rfl trivial)
set_option maxHeartbeats 4000000 in
set_option maxRecDepth 100000 in
theorem w_X11_table_156 {p : Program} {l : Launch} {e : Env} {s : State} {m : MethodId} {args : Array Value} {below : List Frame} {meth : Method} {c : Code} {D : va_G} {cy : Nat → ClassId} {A : Nat → Prop} {ids : List Nat} {ad : Nat → Nat} {r : Int} {μ' : Mem} (C : Cx p s m args meth c D (tyl cy) A 4 cX11_table yX11_table.cls (some .int)) (hCF : CF ad A s) : ∀ n : Nat, ∀ (v1 v3 : Int) (μ : Mem), inR v1 → inR v3 → f_X11_table_156   n v1 v3 μ = some (r, μ') → V p l e (rmk 16) s m args below meth c 0 0 (MQ below (aI D (tyl cy) (lay cy) ids ad A r μ') args s 0 0 A) D A (lay cy) ids ad 4 μ 156 [some (rf 300), some (nu v1), none, some (nu v3)] [] := by
  intro n
  induction n with
  | zero =>
    intro v1 v3 μ hv1 hv3 hf
    cases hf
  | succ n ih =>
    intro v1 v3 μ hv1 hv3 hf
    rw [f_X11_table_156_e] at hf
    refine V_in (fun ho0 _ => ?_)
    refine r_iload_n C 3 rfl rfl dX11_table_156 ?_
    refine r_bipush C dX11_table_157 rfl ?_
    refine r_icmp_ge C 180 hv3 (inR_lit rfl) rfl dX11_table_159 (fun c1 => ?_) (fun c1 => ?_)
    · replace hf := if_t hf c1
      refine r_iload_n C 1 rfl rfl dX11_table_180 ?_
      obtain ⟨rfl, rfl⟩ := of_ret hf
      exact r_iret C rfl hv1 dX11_table_181
    · replace hf := if_f hf c1
      refine r_aload_n C 0 rfl rfl dX11_table_162 ?_
      refine r_getf C 300 (by decide) rfl (fx_m rfl) (ly_300 cy _ _) rfl in_X11 23 (by decide) tw_918 (v := rf 312) rfl dX11_table_163 ?_
      refine r_iload_n C 3 rfl rfl dX11_table_166 ?_
      refine r_aload_n C 0 rfl rfl dX11_table_167 ?_
      refine r_getf C 300 (by decide) rfl (fx_m rfl) (ly_300 cy _ _) rfl in_X11 24 (by decide) tw_919 (v := rf 313) rfl dX11_table_168 ?_
      refine r_iload_n C 3 rfl rfl dX11_table_171 ?_
      obtain ⟨g2, hf⟩ := of_g hf
      refine r_iald C 313 (by decide) rfl (fx_m rfl) 0 (cA := cy 0) (n := 9) (ly_313 cy _ _) rfl g2 (by decide) dX11_table_172 ?_
      refine r_iast C 312 (by decide) rfl (fx_m rfl) (by decide) 0 (cA := cy 0) (n := 9) (fun f => ly_312 cy _ f) rfl g2 (by decide) (ho0 _ _) dX11_table_173 (fun μ3 hμ5 => ?_)
      replace hf := of_lm hf hμ5
      refine V_in (fun ho4 _ => ?_)
      refine r_iinc C rfl (lw := [some (rf 300), some (nu v1), none, some (nu (v3 + 1))]) rfl (by decide) dX11_table_174 ?_
      refine r_goto C 156 rfl dX11_table_177 ?_
      obtain ⟨g6, hf⟩ := of_g hf
      exact V_lw (ih v1 (v3 + 1) μ3 hv1 g6 hf) (And.intro rfl (And.intro rfl (And.intro rfl trivial)))
set_option maxHeartbeats 4000000 in
set_option maxRecDepth 100000 in
theorem w_X11_table_134 {p : Program} {l : Launch} {e : Env} {s : State} {m : MethodId} {args : Array Value} {below : List Frame} {meth : Method} {c : Code} {D : va_G} {cy : Nat → ClassId} {A : Nat → Prop} {ids : List Nat} {ad : Nat → Nat} {r : Int} {μ' : Mem} (C : Cx p s m args meth c D (tyl cy) A 4 cX11_table yX11_table.cls (some .int)) (hCF : CF ad A s) : ∀ (v1 : Int) (μ : Mem), inR v1 → f_X11_table_134   v1 μ = some (r, μ') → V p l e (rmk 16) s m args below meth c 0 0 (MQ below (aI D (tyl cy) (lay cy) ids ad A r μ') args s 0 0 A) D A (lay cy) ids ad 4 μ 134 [some (rf 300), some (nu v1), none, none] [] := by
  intro v1 μ hv1 hf
  unfold f_X11_table_134 at hf
  refine V_in (fun ho0 _ => ?_)
  refine r_aload_n C 0 rfl rfl dX11_table_134 ?_
  refine r_iconst C dX11_table_135 ?_
  refine r_putf C 300 (by decide) rfl (fx_m rfl) (by decide) (ly_300 cy _ _) 19 (ly_300 cy _ _) rfl (Nat.le_of_ble_eq_true rfl) (inR_lit rfl) rfl in_X11 tyX11 tyX11_ok nmX11 (by decide) tw_914 rfl rfl dX11_table_136 (fun μ1 hμ3 => ?_)
  replace hf := of_lm hf hμ3
  refine V_in (fun ho2 _ => ?_)
  refine r_aload_n C 0 rfl rfl dX11_table_139 ?_
  refine r_getf C 300 (by decide) rfl (fx_m rfl) (ly_300 cy _ _) rfl in_X11 22 (by decide) tw_917 (v := nu (μ1 300 22)) rfl dX11_table_140 ?_
  refine r_if_le C 154 (ho2 _ _) rfl dX11_table_143 (fun c4 => ?_) (fun c4 => ?_)
  · replace hf := if_t hf c4
    refine r_iconst C dX11_table_154 ?_
    refine r_istore_n C 3 (lw := [some (rf 300), some (nu v1), none, some (nu 0)]) rfl rfl (by decide) dX11_table_155 ?_
    exact V_lw (w_X11_table_156 C hCF 64 v1 0 μ1 hv1 (inR_lit rfl) hf) (And.intro rfl (And.intro rfl (And.intro rfl trivial)))
  · replace hf := if_f hf c4
    refine r_bipush C dX11_table_146 rfl ?_
    refine r_aload_n C 0 rfl rfl dX11_table_148 ?_
    refine r_getf C 300 (by decide) rfl (fx_m rfl) (ly_300 cy _ _) rfl in_X11 22 (by decide) tw_917 (v := nu (μ1 300 22)) rfl dX11_table_149 ?_
    refine r_isub C dX11_table_152 ?_
    obtain ⟨g5, hf⟩ := of_g hf
    obtain ⟨rfl, rfl⟩ := of_ret hf
    exact r_iret C rfl g5 dX11_table_153
set_option maxHeartbeats 4000000 in
set_option maxRecDepth 100000 in
theorem w_X11_table_93 {p : Program} {l : Launch} {e : Env} {s : State} {m : MethodId} {args : Array Value} {below : List Frame} {meth : Method} {c : Code} {D : va_G} {cy : Nat → ClassId} {A : Nat → Prop} {ids : List Nat} {ad : Nat → Nat} {r : Int} {μ' : Mem} (C : Cx p s m args meth c D (tyl cy) A 4 cX11_table yX11_table.cls (some .int)) (hCF : CF ad A s) (k56 : Int → Int → Mem → Option (Int × Mem)) (hk56 : ∀ (v1 v2 : Int) (μ : Mem), inR v1 → inR v2 → k56 v1 v2 μ = some (r, μ') → V p l e (rmk 16) s m args below meth c 0 0 (MQ below (aI D (tyl cy) (lay cy) ids ad A r μ') args s 0 0 A) D A (lay cy) ids ad 4 μ 56 [some (rf 300), some (nu v1), some (nu v2), none] []) : ∀ (v1 w0 : Int) (μ : Mem), inR v1 → inR w0 → f_X11_table_93  k56 v1 w0 μ = some (r, μ') → V p l e (rmk 16) s m args below meth c 0 0 (MQ below (aI D (tyl cy) (lay cy) ids ad A r μ') args s 0 0 A) D A (lay cy) ids ad 4 μ 93 [some (rf 300), some (nu v1), none, none] [nu w0] := by
  intro v1 w0 μ hv1 hw0 hf
  unfold f_X11_table_93 at hf
  refine V_in (fun ho0 _ => ?_)
  refine r_istore_n C 2 (lw := [some (rf 300), some (nu v1), some (nu w0), none]) rfl rfl (by decide) dX11_table_93 ?_
  refine r_iload_n C 2 rfl rfl dX11_table_94 ?_
  refine r_if_eq C 56 hw0 rfl dX11_table_95 (fun c1 => ?_) (fun c1 => ?_)
  · replace hf := if_t hf c1
    exact V_lw (hk56 v1 w0 μ hv1 hw0 hf) (And.intro rfl (And.intro rfl (And.intro rfl trivial)))
  · replace hf := if_f hf c1
    refine r_aload_n C 0 rfl rfl dX11_table_98 ?_
    refine r_getf C 300 (by decide) rfl (fx_m rfl) (ly_300 cy _ _) rfl in_X11 18 (by decide) tw_913 (v := rf 311) rfl dX11_table_99 ?_
    refine r_aload_n C 0 rfl rfl dX11_table_102 ?_
    refine r_getf C 300 (by decide) rfl (fx_m rfl) (ly_300 cy _ _) rfl in_X11 20 (by decide) tw_915 (v := nu (μ 300 20)) rfl dX11_table_103 ?_
    obtain ⟨g2, hf⟩ := of_g hf
    refine r_bald C 311 (by decide) rfl (fx_m rfl) 1 (cA := cy 1) (n := 200) (ly_311 cy _ _) rfl g2 (by decide) dX11_table_106 ?_
    refine r_bipush C dX11_table_107 rfl ?_
    refine r_icmp_eq C 121 (ho0 _ _) (inR_lit rfl) rfl dX11_table_109 (fun c3 => ?_) (fun c3 => ?_)
    · replace hf := if_t hf c3
      refine r_aload_n C 0 rfl rfl dX11_table_121 ?_
      refine r_dup C dX11_table_122 ?_
      refine r_getf C 300 (by decide) rfl (fx_m rfl) (ly_300 cy _ _) rfl in_X11 20 (by decide) tw_915 (v := nu (μ 300 20)) rfl dX11_table_123 ?_
      refine r_iconst C dX11_table_126 ?_
      refine r_iadd C dX11_table_127 ?_
      obtain ⟨g4, hf⟩ := of_g hf
      refine r_putf C 300 (by decide) rfl (fx_m rfl) (by decide) (ly_300 cy _ _) 20 (ly_300 cy _ _) rfl (Nat.le_of_ble_eq_true rfl) g4 rfl in_X11 tyX11 tyX11_ok nmX11 (by decide) tw_915 rfl rfl dX11_table_128 (fun μ5 hμ7 => ?_)
      replace hf := of_lm hf hμ7
      refine V_in (fun ho6 _ => ?_)
      refine r_goto C 56 rfl dX11_table_131 ?_
      exact V_lw (hk56 v1 w0 μ5 hv1 hw0 hf) (And.intro rfl (And.intro rfl (And.intro rfl trivial)))
    · replace hf := if_f hf c3
      refine r_aload_n C 0 rfl rfl dX11_table_112 ?_
      refine r_iconst C dX11_table_113 ?_
      refine r_aload_n C 0 rfl rfl dX11_table_114 ?_
      refine r_getf C 300 (by decide) rfl (fx_m rfl) (ly_300 cy _ _) rfl in_X11 20 (by decide) tw_915 (v := nu (μ 300 20)) rfl dX11_table_115 ?_
      obtain ⟨r8, μ9, hc10, hf⟩ := of_bd hf
      refine r_callVV C hCF (As := [nu 0, nu (μ 300 20)]) 300 (by decide) rfl (fx_m rfl) (ly_300 cy _ _) rfl (c_X11_fails (inR_lit rfl) (ho0 _ _) hc10) rfl (by decide) (by decide) ⟨Nat.le_refl 0, Nat.le_refl 0⟩ tw_1116 tw_1119 tw_10 tw_1118 ts_43 2 (by decide) rfl (Nat.le_of_ble_eq_true rfl) dX11_table_118 ?_
      refine V_in (fun ho11 _ => ?_)
      refine r_aload_n C 0 rfl rfl dX11_table_121 ?_
      refine r_dup C dX11_table_122 ?_
      refine r_getf C 300 (by decide) rfl (fx_m rfl) (ly_300 cy _ _) rfl in_X11 20 (by decide) tw_915 (v := nu (μ9 300 20)) rfl dX11_table_123 ?_
      refine r_iconst C dX11_table_126 ?_
      refine r_iadd C dX11_table_127 ?_
      obtain ⟨g13, hf⟩ := of_g hf
      refine r_putf C 300 (by decide) rfl (fx_m rfl) (by decide) (ly_300 cy _ _) 20 (ly_300 cy _ _) rfl (Nat.le_of_ble_eq_true rfl) g13 rfl in_X11 tyX11 tyX11_ok nmX11 (by decide) tw_915 rfl rfl dX11_table_128 (fun μ14 hμ16 => ?_)
      replace hf := of_lm hf hμ16
      refine V_in (fun ho15 _ => ?_)
      refine r_goto C 56 rfl dX11_table_131 ?_
      exact V_lw (hk56 v1 w0 μ14 hv1 hw0 hf) (And.intro rfl (And.intro rfl (And.intro rfl trivial)))
set_option maxHeartbeats 4000000 in
set_option maxRecDepth 100000 in
theorem w_X11_table_92 {p : Program} {l : Launch} {e : Env} {s : State} {m : MethodId} {args : Array Value} {below : List Frame} {meth : Method} {c : Code} {D : va_G} {cy : Nat → ClassId} {A : Nat → Prop} {ids : List Nat} {ad : Nat → Nat} {r : Int} {μ' : Mem} (C : Cx p s m args meth c D (tyl cy) A 4 cX11_table yX11_table.cls (some .int)) (hCF : CF ad A s) (k56 : Int → Int → Mem → Option (Int × Mem)) (hk56 : ∀ (v1 v2 : Int) (μ : Mem), inR v1 → inR v2 → k56 v1 v2 μ = some (r, μ') → V p l e (rmk 16) s m args below meth c 0 0 (MQ below (aI D (tyl cy) (lay cy) ids ad A r μ') args s 0 0 A) D A (lay cy) ids ad 4 μ 56 [some (rf 300), some (nu v1), some (nu v2), none] []) : ∀ (v1 : Int) (μ : Mem), inR v1 → f_X11_table_92  k56 v1 μ = some (r, μ') → V p l e (rmk 16) s m args below meth c 0 0 (MQ below (aI D (tyl cy) (lay cy) ids ad A r μ') args s 0 0 A) D A (lay cy) ids ad 4 μ 92 [some (rf 300), some (nu v1), none, none] [] := by
  intro v1 μ hv1 hf
  unfold f_X11_table_92 at hf
  refine V_in (fun ho0 _ => ?_)
  refine r_iconst C dX11_table_92 ?_
  exact V_lw (w_X11_table_93 C hCF k56 hk56 v1 0 μ hv1 (inR_lit rfl) hf) (And.intro rfl (And.intro rfl trivial))
set_option maxHeartbeats 4000000 in
set_option maxRecDepth 100000 in
theorem w_X11_table_56 {p : Program} {l : Launch} {e : Env} {s : State} {m : MethodId} {args : Array Value} {below : List Frame} {meth : Method} {c : Code} {D : va_G} {cy : Nat → ClassId} {A : Nat → Prop} {ids : List Nat} {ad : Nat → Nat} {r : Int} {μ' : Mem} (C : Cx p s m args meth c D (tyl cy) A 4 cX11_table yX11_table.cls (some .int)) (hCF : CF ad A s) : ∀ n : Nat, ∀ (v1 v2 : Int) (μ : Mem), inR v1 → inR v2 → f_X11_table_56   n v1 v2 μ = some (r, μ') → V p l e (rmk 16) s m args below meth c 0 0 (MQ below (aI D (tyl cy) (lay cy) ids ad A r μ') args s 0 0 A) D A (lay cy) ids ad 4 μ 56 [some (rf 300), some (nu v1), some (nu v2), none] [] := by
  intro n
  induction n with
  | zero =>
    intro v1 v2 μ hv1 hv2 hf
    cases hf
  | succ n ih =>
    intro v1 v2 μ hv1 hv2 hf
    rw [f_X11_table_56_e] at hf
    refine V_in (fun ho0 _ => ?_)
    refine r_iload_n C 2 rfl rfl dX11_table_56 ?_
    refine r_if_eq C 134 hv2 rfl dX11_table_57 (fun c1 => ?_) (fun c1 => ?_)
    · replace hf := if_t hf c1
      exact V_lw (w_X11_table_134 C hCF v1 μ hv1 hf) (And.intro rfl (And.intro rfl trivial))
    · replace hf := if_f hf c1
      refine r_aload_n C 0 rfl rfl dX11_table_60 ?_
      refine r_getf C 300 (by decide) rfl (fx_m rfl) (ly_300 cy _ _) rfl in_X11 22 (by decide) tw_917 (v := nu (μ 300 22)) rfl dX11_table_61 ?_
      refine r_if_ne C 134 (ho0 _ _) rfl dX11_table_64 (fun c2 => ?_) (fun c2 => ?_)
      · replace hf := if_f hf c2
        exact V_lw (w_X11_table_134 C hCF v1 μ hv1 hf) (And.intro rfl (And.intro rfl trivial))
      · replace hf := if_t hf c2
        refine r_aload_n C 0 rfl rfl dX11_table_67 ?_
        obtain ⟨r3, μ4, hc5, hf⟩ := of_bd hf
        refine r_callVV C hCF (As := []) 300 (by decide) rfl (fx_m rfl) (ly_300 cy _ _) rfl (c_X11_clause hc5) rfl (by decide) (by decide) ⟨Nat.le_refl 0, Nat.le_refl 0⟩ tw_1095 tw_1098 tw_10 tw_1097 ts_41 0 (by decide) rfl (Nat.le_of_ble_eq_true rfl) dX11_table_68 ?_
        refine V_in (fun ho6 _ => ?_)
        refine r_iinc C rfl (lw := [some (rf 300), some (nu (v1 + 1)), some (nu v2), none]) rfl (by decide) dX11_table_71 ?_
        refine r_aload_n C 0 rfl rfl dX11_table_74 ?_
        refine r_getf C 300 (by decide) rfl (fx_m rfl) (ly_300 cy _ _) rfl in_X11 22 (by decide) tw_917 (v := nu (μ4 300 22)) rfl dX11_table_75 ?_
        refine r_if_ne C 92 (ho6 _ _) rfl dX11_table_78 (fun c8 => ?_) (fun c8 => ?_)
        · replace hf := if_f hf c8
          obtain ⟨g9, hf⟩ := of_g hf
          exact V_lw (w_X11_table_92 C hCF (f_X11_table_56 n) ih (v1 + 1) μ4 g9 hf) (And.intro rfl (And.intro rfl trivial))
        · replace hf := if_t hf c8
          refine r_aload_n C 0 rfl rfl dX11_table_81 ?_
          obtain ⟨r10, μ11, hc12, hf⟩ := of_bd hf
          refine r_callVI C hCF (As := []) 300 (by decide) rfl (fx_m rfl) (ly_300 cy _ _) rfl (c_X11_isOver hc12) rfl (by decide) (by decide) ⟨Nat.le_refl 0, Nat.le_refl 0⟩ tw_1091 tw_1094 tw_10 tw_1093 ts_40 0 (by decide) rfl (Nat.le_of_ble_eq_true rfl) dX11_table_82 (fun hr14 => ?_)
          refine V_in (fun ho13 _ => ?_)
          refine r_if_ne C 92 hr14 rfl dX11_table_85 (fun c15 => ?_) (fun c15 => ?_)
          · replace hf := if_f hf c15
            obtain ⟨g16, hf⟩ := of_g hf
            exact V_lw (w_X11_table_92 C hCF (f_X11_table_56 n) ih (v1 + 1) μ11 g16 hf) (And.intro rfl (And.intro rfl trivial))
          · replace hf := if_t hf c15
            refine r_iconst C dX11_table_88 ?_
            refine r_goto C 93 rfl dX11_table_89 ?_
            obtain ⟨g17, hf⟩ := of_g hf
            exact V_lw (w_X11_table_93 C hCF (f_X11_table_56 n) ih (v1 + 1) 1 μ11 g17 (inR_lit rfl) hf) (And.intro rfl (And.intro rfl trivial))
set_option maxHeartbeats 4000000 in
set_option maxRecDepth 100000 in
theorem w_X11_table_14 {p : Program} {l : Launch} {e : Env} {s : State} {m : MethodId} {args : Array Value} {below : List Frame} {meth : Method} {c : Code} {D : va_G} {cy : Nat → ClassId} {A : Nat → Prop} {ids : List Nat} {ad : Nat → Nat} {r : Int} {μ' : Mem} (C : Cx p s m args meth c D (tyl cy) A 4 cX11_table yX11_table.cls (some .int)) (hCF : CF ad A s) : ∀ n : Nat, ∀ (v1 v2 : Int) (μ : Mem), inR v1 → inR v2 → f_X11_table_14   n v1 v2 μ = some (r, μ') → V p l e (rmk 16) s m args below meth c 0 0 (MQ below (aI D (tyl cy) (lay cy) ids ad A r μ') args s 0 0 A) D A (lay cy) ids ad 4 μ 14 [some (rf 300), some (nu v1), some (nu v2), none] [] := by
  intro n
  induction n with
  | zero =>
    intro v1 v2 μ hv1 hv2 hf
    cases hf
  | succ n ih =>
    intro v1 v2 μ hv1 hv2 hf
    rw [f_X11_table_14_e] at hf
    refine V_in (fun ho0 _ => ?_)
    refine r_iload_n C 2 rfl rfl dX11_table_14 ?_
    refine r_bipush C dX11_table_15 rfl ?_
    refine r_icmp_ge C 43 hv2 (inR_lit rfl) rfl dX11_table_17 (fun c1 => ?_) (fun c1 => ?_)
    · replace hf := if_t hf c1
      refine r_aload_n C 0 rfl rfl dX11_table_43 ?_
      obtain ⟨r2, μ3, hc4, hf⟩ := of_bd hf
      refine r_callVI C hCF (As := []) 300 (by decide) rfl (fx_m rfl) (ly_300 cy _ _) rfl (c_X11_isOver hc4) rfl (by decide) (by decide) ⟨Nat.le_refl 0, Nat.le_refl 0⟩ tw_1091 tw_1094 tw_10 tw_1093 ts_40 0 (by decide) rfl (Nat.le_of_ble_eq_true rfl) dX11_table_44 (fun hr6 => ?_)
      refine V_in (fun ho5 _ => ?_)
      refine r_if_ne C 54 hr6 rfl dX11_table_47 (fun c7 => ?_) (fun c7 => ?_)
      · replace hf := if_f hf c7
        refine r_iconst C dX11_table_54 ?_
        refine r_istore_n C 2 (lw := [some (rf 300), some (nu v1), some (nu 0), none]) rfl rfl (by decide) dX11_table_55 ?_
        exact V_lw (w_X11_table_56 C hCF 64 v1 0 μ3 hv1 (inR_lit rfl) hf) (And.intro rfl (And.intro rfl (And.intro rfl trivial)))
      · replace hf := if_t hf c7
        refine r_iconst C dX11_table_50 ?_
        refine r_goto C 55 rfl dX11_table_51 ?_
        refine r_istore_n C 2 (lw := [some (rf 300), some (nu v1), some (nu 1), none]) rfl rfl (by decide) dX11_table_55 ?_
        exact V_lw (w_X11_table_56 C hCF 64 v1 1 μ3 hv1 (inR_lit rfl) hf) (And.intro rfl (And.intro rfl (And.intro rfl trivial)))
    · replace hf := if_f hf c1
      refine r_aload_n C 0 rfl rfl dX11_table_20 ?_
      refine r_getf C 300 (by decide) rfl (fx_m rfl) (ly_300 cy _ _) rfl in_X11 25 (by decide) tw_920 (v := rf 314) rfl dX11_table_21 ?_
      refine r_iload_n C 2 rfl rfl dX11_table_24 ?_
      refine r_iconst C dX11_table_25 ?_
      obtain ⟨g8, hf⟩ := of_g hf
      refine r_zast C 314 (by decide) rfl (fx_m rfl) (by decide) 2 (cA := cy 2) (n := 9) (fun f => ly_314 cy _ f) rfl g8 (by decide) (zI_rng _) dX11_table_26 (fun μ9 hμ11 => ?_)
      replace hf := of_lm hf hμ11
      refine V_in (fun ho10 _ => ?_)
      refine r_aload_n C 0 rfl rfl dX11_table_27 ?_
      refine r_getf C 300 (by decide) rfl (fx_m rfl) (ly_300 cy _ _) rfl in_X11 24 (by decide) tw_919 (v := rf 313) rfl dX11_table_28 ?_
      refine r_iload_n C 2 rfl rfl dX11_table_31 ?_
      refine r_iload_n C 2 rfl rfl dX11_table_32 ?_
      obtain ⟨r12, μ13, hc14, hf⟩ := of_bd hf
      refine r_callSI C hCF (As := [nu v2]) (c_X11_without hv2 hc14) rfl (by decide) (by decide) ⟨Nat.le_refl 0, Nat.le_refl 0⟩ tw_893 tw_895 tw_10 tw_894 1 (by decide) rfl (Nat.le_of_ble_eq_true rfl) dX11_table_33 (fun hr16 => ?_)
      refine V_in (fun ho15 _ => ?_)
      refine r_iast C 313 (by decide) rfl (fx_m rfl) (by decide) 0 (cA := cy 0) (n := 9) (fun f => ly_313 cy _ f) rfl g8 (by decide) hr16 dX11_table_36 (fun μ17 hμ19 => ?_)
      replace hf := of_lm hf hμ19
      refine V_in (fun ho18 _ => ?_)
      refine r_iinc C rfl (lw := [some (rf 300), some (nu v1), some (nu (v2 + 1)), none]) rfl (by decide) dX11_table_37 ?_
      refine r_goto C 14 rfl dX11_table_40 ?_
      obtain ⟨g20, hf⟩ := of_g hf
      exact V_lw (ih v1 (v2 + 1) μ17 hv1 g20 hf) (And.intro rfl (And.intro rfl (And.intro rfl trivial)))
set_option maxHeartbeats 4000000 in
set_option maxRecDepth 100000 in
theorem c_X11_table {l : Launch} {D : va_G} {cy : Nat → ClassId} {ids : List Nat} {ad : Nat → Nat} {μ μ' : Mem} { r : Int}  (hf : f_X11_table μ  = some (r, μ')) : KK aI l D (tyl cy) (lay cy) ids ad 16 yX11_table cX11_table 4 (some .int) [rf 300] μ r μ' := by
  refine KK.of (by decide +kernel) (Nat.le_of_ble_eq_true rfl) ?_
  intro p e s m args below meth c A C hCF
  unfold f_X11_table at hf
  refine V_in (fun ho0 _ => ?_)
  refine r_aload_n C 0 rfl rfl dX11_table_0 ?_
  refine r_iconst C dX11_table_1 ?_
  refine r_putf C 300 (by decide) rfl (fx_m rfl) (by decide) (ly_300 cy _ _) 20 (ly_300 cy _ _) rfl (Nat.le_of_ble_eq_true rfl) (inR_lit rfl) rfl in_X11 tyX11 tyX11_ok nmX11 (by decide) tw_915 rfl rfl dX11_table_2 (fun μ1 hμ3 => ?_)
  replace hf := of_lm hf hμ3
  refine V_in (fun ho2 _ => ?_)
  refine r_aload_n C 0 rfl rfl dX11_table_5 ?_
  refine r_iconst C dX11_table_6 ?_
  refine r_putf C 300 (by decide) rfl (fx_m rfl) (by decide) (ly_300 cy _ _) 22 (ly_300 cy _ _) rfl (Nat.le_of_ble_eq_true rfl) (inR_lit rfl) rfl in_X11 tyX11 tyX11_ok nmX11 (by decide) tw_917 rfl rfl dX11_table_7 (fun μ4 hμ6 => ?_)
  replace hf := of_lm hf hμ6
  refine V_in (fun ho5 _ => ?_)
  refine r_iconst C dX11_table_10 ?_
  refine r_istore_n C 1 (lw := [some (rf 300), some (nu 0), none, none]) rfl rfl (by decide) dX11_table_11 ?_
  refine r_iconst C dX11_table_12 ?_
  refine r_istore_n C 2 (lw := [some (rf 300), some (nu 0), some (nu 0), none]) rfl rfl (by decide) dX11_table_13 ?_
  exact V_lw (w_X11_table_14 C hCF 64 0 0 μ4 (inR_lit rfl) (inR_lit rfl) hf) (And.intro rfl (And.intro rfl (And.intro rfl trivial)))
set_option maxHeartbeats 4000000 in
set_option maxRecDepth 100000 in
theorem c_X11_stone {l : Launch} {D : va_G} {cy : Nat → ClassId} {ids : List Nat} {ad : Nat → Nat} {μ μ' : Mem} {a1 a2 r : Int} (h1 : inR a1) (h2 : inR a2) (hf : f_X11_stone μ a1 a2 = some (r, μ')) : KK aI l D (tyl cy) (lay cy) ids ad 4 yX11_stone cX11_stone 3 (some .int) [rf 300, nu a1, nu a2] μ r μ' := by
  refine KK.of (by decide +kernel) (Nat.le_of_ble_eq_true rfl) ?_
  intro p e s m args below meth c A C hCF
  unfold f_X11_stone at hf
  refine V_in (fun ho0 _ => ?_)
  refine r_aload_n C 0 rfl rfl dX11_stone_0 ?_
  refine r_getf C 300 (by decide) rfl (fx_m rfl) (ly_300 cy _ _) rfl in_X11 26 (by decide) tw_921 (v := nu (μ 300 26)) rfl dX11_stone_1 ?_
  refine r_bipush C dX11_stone_4 rfl ?_
  refine r_icmp_eq C 29 (ho0 _ _) (inR_lit rfl) rfl dX11_stone_6 (fun c1 => ?_) (fun c1 => ?_)
  · replace hf := if_t hf c1
    refine r_iconst C dX11_stone_29 ?_
    obtain ⟨rfl, rfl⟩ := of_ret hf
    exact r_iret C rfl (inR_lit rfl) dX11_stone_30
  · replace hf := if_f hf c1
    refine r_iload_n C 1 rfl rfl dX11_stone_9 ?_
    refine r_iconst C dX11_stone_10 ?_
    refine r_bipush C dX11_stone_11 rfl ?_
    obtain ⟨r2, μ3, hc4, hf⟩ := of_bd hf
    refine r_callSI C hCF (As := [nu a1, nu 1, nu 99]) (c_X11_in h1 (inR_lit rfl) (inR_lit rfl) hc4) rfl (by decide) (by decide) ⟨Nat.le_refl 0, Nat.le_refl 0⟩ tw_1063 tw_1065 tw_10 tw_1064 3 (by decide) rfl (Nat.le_of_ble_eq_true rfl) dX11_stone_13 (fun hr6 => ?_)
    refine V_in (fun ho5 _ => ?_)
    refine r_if_eq C 29 hr6 rfl dX11_stone_16 (fun c7 => ?_) (fun c7 => ?_)
    · replace hf := if_t hf c7
      refine r_iconst C dX11_stone_29 ?_
      obtain ⟨rfl, rfl⟩ := of_ret hf
      exact r_iret C rfl (inR_lit rfl) dX11_stone_30
    · replace hf := if_f hf c7
      refine r_iload_n C 2 rfl rfl dX11_stone_19 ?_
      refine r_iconst C dX11_stone_20 ?_
      refine r_bipush C dX11_stone_21 rfl ?_
      obtain ⟨r8, μ9, hc10, hf⟩ := of_bd hf
      refine r_callSI C hCF (As := [nu a2, nu 0, nu 9]) (c_X11_in h2 (inR_lit rfl) (inR_lit rfl) hc10) rfl (by decide) (by decide) ⟨Nat.le_refl 0, Nat.le_refl 0⟩ tw_1063 tw_1065 tw_10 tw_1064 3 (by decide) rfl (Nat.le_of_ble_eq_true rfl) dX11_stone_23 (fun hr12 => ?_)
      refine V_in (fun ho11 _ => ?_)
      refine r_if_ne C 31 hr12 rfl dX11_stone_26 (fun c13 => ?_) (fun c13 => ?_)
      · replace hf := if_f hf c13
        refine r_aload_n C 0 rfl rfl dX11_stone_31 ?_
        refine r_getf C 300 (by decide) rfl (fx_m rfl) (ly_300 cy _ _) rfl in_X11 27 (by decide) tw_922 (v := rf 315) rfl dX11_stone_32 ?_
        refine r_aload_n C 0 rfl rfl dX11_stone_35 ?_
        refine r_getf C 300 (by decide) rfl (fx_m rfl) (ly_300 cy _ _) rfl in_X11 26 (by decide) tw_921 (v := nu (μ9 300 26)) rfl dX11_stone_36 ?_
        refine r_iload_n C 1 rfl rfl dX11_stone_39 ?_
        obtain ⟨g14, hf⟩ := of_g hf
        refine r_iast C 315 (by decide) rfl (fx_m rfl) (by decide) 0 (cA := cy 0) (n := 30) (fun f => ly_315 cy _ f) rfl g14 (by decide) h1 dX11_stone_40 (fun μ15 hμ17 => ?_)
        replace hf := of_lm hf hμ17
        refine V_in (fun ho16 _ => ?_)
        refine r_aload_n C 0 rfl rfl dX11_stone_41 ?_
        refine r_getf C 300 (by decide) rfl (fx_m rfl) (ly_300 cy _ _) rfl in_X11 28 (by decide) tw_923 (v := rf 316) rfl dX11_stone_42 ?_
        refine r_aload_n C 0 rfl rfl dX11_stone_45 ?_
        refine r_getf C 300 (by decide) rfl (fx_m rfl) (ly_300 cy _ _) rfl in_X11 26 (by decide) tw_921 (v := nu (μ15 300 26)) rfl dX11_stone_46 ?_
        refine r_iload_n C 2 rfl rfl dX11_stone_49 ?_
        obtain ⟨g18, hf⟩ := of_g hf
        refine r_iast C 316 (by decide) rfl (fx_m rfl) (by decide) 0 (cA := cy 0) (n := 30) (fun f => ly_316 cy _ f) rfl g18 (by decide) h2 dX11_stone_50 (fun μ19 hμ21 => ?_)
        replace hf := of_lm hf hμ21
        refine V_in (fun ho20 _ => ?_)
        refine r_aload_n C 0 rfl rfl dX11_stone_51 ?_
        refine r_getf C 300 (by decide) rfl (fx_m rfl) (ly_300 cy _ _) rfl in_X11 30 (by decide) tw_925 (v := rf 318) rfl dX11_stone_52 ?_
        refine r_aload_n C 0 rfl rfl dX11_stone_55 ?_
        refine r_getf C 300 (by decide) rfl (fx_m rfl) (ly_300 cy _ _) rfl in_X11 26 (by decide) tw_921 (v := nu (μ19 300 26)) rfl dX11_stone_56 ?_
        refine r_iconst C dX11_stone_59 ?_
        obtain ⟨g22, hf⟩ := of_g hf
        refine r_iast C 318 (by decide) rfl (fx_m rfl) (by decide) 0 (cA := cy 0) (n := 30) (fun f => ly_318 cy _ f) rfl g22 (by decide) (inR_lit rfl) dX11_stone_60 (fun μ23 hμ25 => ?_)
        replace hf := of_lm hf hμ25
        refine V_in (fun ho24 _ => ?_)
        refine r_aload_n C 0 rfl rfl dX11_stone_61 ?_
        refine r_getf C 300 (by decide) rfl (fx_m rfl) (ly_300 cy _ _) rfl in_X11 31 (by decide) tw_926 (v := rf 319) rfl dX11_stone_62 ?_
        refine r_aload_n C 0 rfl rfl dX11_stone_65 ?_
        refine r_getf C 300 (by decide) rfl (fx_m rfl) (ly_300 cy _ _) rfl in_X11 26 (by decide) tw_921 (v := nu (μ23 300 26)) rfl dX11_stone_66 ?_
        refine r_iconst C dX11_stone_69 ?_
        obtain ⟨g26, hf⟩ := of_g hf
        refine r_iast C 319 (by decide) rfl (fx_m rfl) (by decide) 0 (cA := cy 0) (n := 30) (fun f => ly_319 cy _ f) rfl g26 (by decide) (inR_lit rfl) dX11_stone_70 (fun μ27 hμ29 => ?_)
        replace hf := of_lm hf hμ29
        refine V_in (fun ho28 _ => ?_)
        refine r_aload_n C 0 rfl rfl dX11_stone_71 ?_
        refine r_dup C dX11_stone_72 ?_
        refine r_getf C 300 (by decide) rfl (fx_m rfl) (ly_300 cy _ _) rfl in_X11 26 (by decide) tw_921 (v := nu (μ27 300 26)) rfl dX11_stone_73 ?_
        refine r_iconst C dX11_stone_76 ?_
        refine r_iadd C dX11_stone_77 ?_
        obtain ⟨g30, hf⟩ := of_g hf
        refine r_putf C 300 (by decide) rfl (fx_m rfl) (by decide) (ly_300 cy _ _) 26 (ly_300 cy _ _) rfl (Nat.le_of_ble_eq_true rfl) g30 rfl in_X11 tyX11 tyX11_ok nmX11 (by decide) tw_921 rfl rfl dX11_stone_78 (fun μ31 hμ33 => ?_)
        replace hf := of_lm hf hμ33
        refine V_in (fun ho32 _ => ?_)
        refine r_aload_n C 0 rfl rfl dX11_stone_81 ?_
        refine r_getf C 300 (by decide) rfl (fx_m rfl) (ly_300 cy _ _) rfl in_X11 26 (by decide) tw_921 (v := nu (μ31 300 26)) rfl dX11_stone_82 ?_
        refine r_iconst C dX11_stone_85 ?_
        refine r_isub C dX11_stone_86 ?_
        obtain ⟨g34, hf⟩ := of_g hf
        obtain ⟨rfl, rfl⟩ := of_ret hf
        exact r_iret C rfl g34 dX11_stone_87
      · replace hf := if_t hf c13
        refine r_iconst C dX11_stone_29 ?_
        obtain ⟨rfl, rfl⟩ := of_ret hf
        exact r_iret C rfl (inR_lit rfl) dX11_stone_30
set_option maxHeartbeats 4000000 in
set_option maxRecDepth 100000 in
theorem w_X11_pull_40 {p : Program} {l : Launch} {e : Env} {s : State} {m : MethodId} {args : Array Value} {below : List Frame} {meth : Method} {c : Code} {D : va_G} {cy : Nat → ClassId} {A : Nat → Prop} {ids : List Nat} {ad : Nat → Nat} {r : Int} {μ' : Mem} (C : Cx p s m args meth c D (tyl cy) A 5 cX11_pull yX11_pull.cls (some .int)) (hCF : CF ad A s) : ∀ (v1 w0 w1 : Int) (μ : Mem), inR v1 → inR w0 → inR w1 → f_X11_pull_40   v1 w0 w1 μ = some (r, μ') → V p l e (rmk 2) s m args below meth c 0 0 (MQ below (aI D (tyl cy) (lay cy) ids ad A r μ') args s 0 0 A) D A (lay cy) ids ad 5 μ 40 [some (rf 300), some (nu v1), none, none, none] [nu w0, nu w1, rf 312] := by
  intro v1 w0 w1 μ hv1 hw0 hw1 hf
  unfold f_X11_pull_40 at hf
  refine V_in (fun ho0 _ => ?_)
  refine r_iadd C dX11_pull_40 ?_
  obtain ⟨g1, hf⟩ := of_g hf
  refine r_iald C 312 (by decide) rfl (fx_m rfl) 0 (cA := cy 0) (n := 9) (ly_312 cy _ _) rfl g1 (by decide) dX11_pull_41 ?_
  refine r_istore C (lw := [some (rf 300), some (nu v1), none, none, some (nu (μ 312 (w1 + w0).toNat))]) rfl (by decide) dX11_pull_42 ?_
  refine r_aload_n C 0 rfl rfl dX11_pull_44 ?_
  refine r_getf C 300 (by decide) rfl (fx_m rfl) (ly_300 cy _ _) rfl in_X11 27 (by decide) tw_922 (v := rf 315) rfl dX11_pull_45 ?_
  refine r_iload_n C 1 rfl rfl dX11_pull_48 ?_
  obtain ⟨g2, hf⟩ := of_g hf
  refine r_iald C 315 (by decide) rfl (fx_m rfl) 0 (cA := cy 0) (n := 30) (ly_315 cy _ _) rfl g2 (by decide) dX11_pull_49 ?_
  refine r_iload C rfl dX11_pull_50 ?_
  refine r_imul C dX11_pull_52 ?_
  refine r_bipush C dX11_pull_53 rfl ?_
  refine r_iadd C dX11_pull_55 ?_
  refine r_bipush C dX11_pull_56 rfl ?_
  refine r_idiv C (inR_lit rfl) (by decide) dX11_pull_58 ?_
  obtain ⟨rfl, rfl⟩ := of_ret hf
  exact r_iret C rfl (zI_rng _) dX11_pull_59
set_option maxHeartbeats 4000000 in
set_option maxRecDepth 100000 in
theorem w_X11_pull_31 {p : Program} {l : Launch} {e : Env} {s : State} {m : MethodId} {args : Array Value} {below : List Frame} {meth : Method} {c : Code} {D : va_G} {cy : Nat → ClassId} {A : Nat → Prop} {ids : List Nat} {ad : Nat → Nat} {r : Int} {μ' : Mem} (C : Cx p s m args meth c D (tyl cy) A 5 cX11_pull yX11_pull.cls (some .int)) (hCF : CF ad A s) : ∀ (v1 v3 w0 : Int) (μ : Mem), inR v1 → inR v3 → inR w0 → f_X11_pull_31   v1 v3 w0 μ = some (r, μ') → V p l e (rmk 2) s m args below meth c 0 0 (MQ below (aI D (tyl cy) (lay cy) ids ad A r μ') args s 0 0 A) D A (lay cy) ids ad 5 μ 31 [some (rf 300), some (nu v1), none, some (nu v3), none] [nu w0, rf 312] := by
  intro v1 v3 w0 μ hv1 hv3 hw0 hf
  unfold f_X11_pull_31 at hf
  refine V_in (fun ho0 _ => ?_)
  refine r_iload_n C 3 rfl rfl dX11_pull_31 ?_
  refine r_if_eq C 39 hv3 rfl dX11_pull_32 (fun c1 => ?_) (fun c1 => ?_)
  · replace hf := if_t hf c1
    refine r_iconst C dX11_pull_39 ?_
    exact V_lw (w_X11_pull_40 C hCF v1 0 w0 μ hv1 (inR_lit rfl) hw0 hf) (And.intro rfl (And.intro rfl trivial))
  · replace hf := if_f hf c1
    refine r_iconst C dX11_pull_35 ?_
    refine r_goto C 40 rfl dX11_pull_36 ?_
    exact V_lw (w_X11_pull_40 C hCF v1 1 w0 μ hv1 (inR_lit rfl) hw0 hf) (And.intro rfl (And.intro rfl trivial))
set_option maxHeartbeats 4000000 in
set_option maxRecDepth 100000 in
theorem w_X11_pull_17 {p : Program} {l : Launch} {e : Env} {s : State} {m : MethodId} {args : Array Value} {below : List Frame} {meth : Method} {c : Code} {D : va_G} {cy : Nat → ClassId} {A : Nat → Prop} {ids : List Nat} {ad : Nat → Nat} {r : Int} {μ' : Mem} (C : Cx p s m args meth c D (tyl cy) A 5 cX11_pull yX11_pull.cls (some .int)) (hCF : CF ad A s) : ∀ (v1 v2 v3 : Int) (μ : Mem), inR v1 → inR v2 → inR v3 → f_X11_pull_17   v1 v2 v3 μ = some (r, μ') → V p l e (rmk 2) s m args below meth c 0 0 (MQ below (aI D (tyl cy) (lay cy) ids ad A r μ') args s 0 0 A) D A (lay cy) ids ad 5 μ 17 [some (rf 300), some (nu v1), some (nu v2), some (nu v3), none] [] := by
  intro v1 v2 v3 μ hv1 hv2 hv3 hf
  unfold f_X11_pull_17 at hf
  refine V_in (fun ho0 _ => ?_)
  refine r_aload_n C 0 rfl rfl dX11_pull_17 ?_
  refine r_getf C 300 (by decide) rfl (fx_m rfl) (ly_300 cy _ _) rfl in_X11 23 (by decide) tw_918 (v := rf 312) rfl dX11_pull_18 ?_
  refine r_iload_n C 2 rfl rfl dX11_pull_21 ?_
  refine r_iconst C dX11_pull_22 ?_
  refine r_icmp_ne C 30 hv2 (inR_lit rfl) rfl dX11_pull_23 (fun c1 => ?_) (fun c1 => ?_)
  · replace hf := if_f hf c1
    refine r_iconst C dX11_pull_30 ?_
    exact V_lw (w_X11_pull_31 C hCF v1 v3 0 μ hv1 hv3 (inR_lit rfl) hf) (And.intro rfl (And.intro rfl (And.intro rfl trivial)))
  · replace hf := if_t hf c1
    refine r_iconst C dX11_pull_26 ?_
    refine r_goto C 31 rfl dX11_pull_27 ?_
    exact V_lw (w_X11_pull_31 C hCF v1 v3 2 μ hv1 hv3 (inR_lit rfl) hf) (And.intro rfl (And.intro rfl (And.intro rfl trivial)))
set_option maxHeartbeats 4000000 in
set_option maxRecDepth 100000 in
theorem c_X11_pull {l : Launch} {D : va_G} {cy : Nat → ClassId} {ids : List Nat} {ad : Nat → Nat} {μ μ' : Mem} {a1 a2 a3 r : Int} (h1 : inR a1) (h2 : inR a2) (h3 : inR a3) (hf : f_X11_pull μ a1 a2 a3 = some (r, μ')) : KK aI l D (tyl cy) (lay cy) ids ad 2 yX11_pull cX11_pull 5 (some .int) [rf 300, nu a1, nu a2, nu a3] μ r μ' := by
  refine KK.of (by decide +kernel) (Nat.le_of_ble_eq_true rfl) ?_
  intro p e s m args below meth c A C hCF
  unfold f_X11_pull at hf
  refine V_in (fun ho0 _ => ?_)
  refine r_iload_n C 2 rfl rfl dX11_pull_0 ?_
  refine r_iconst C dX11_pull_1 ?_
  refine r_icmp_eq C 17 h2 (inR_lit rfl) rfl dX11_pull_2 (fun c1 => ?_) (fun c1 => ?_)
  · replace hf := if_t hf c1
    exact V_lw (w_X11_pull_17 C hCF a1 a2 a3 μ h1 h2 h3 hf) (And.intro rfl (And.intro rfl (And.intro rfl (And.intro rfl trivial))))
  · replace hf := if_f hf c1
    refine r_iload_n C 2 rfl rfl dX11_pull_5 ?_
    refine r_iconst C dX11_pull_6 ?_
    refine r_icmp_eq C 17 h2 (inR_lit rfl) rfl dX11_pull_7 (fun c2 => ?_) (fun c2 => ?_)
    · replace hf := if_t hf c2
      exact V_lw (w_X11_pull_17 C hCF a1 a2 a3 μ h1 h2 h3 hf) (And.intro rfl (And.intro rfl (And.intro rfl (And.intro rfl trivial))))
    · replace hf := if_f hf c2
      refine r_iload_n C 2 rfl rfl dX11_pull_10 ?_
      refine r_iconst C dX11_pull_11 ?_
      refine r_icmp_eq C 17 h2 (inR_lit rfl) rfl dX11_pull_12 (fun c3 => ?_) (fun c3 => ?_)
      · replace hf := if_t hf c3
        exact V_lw (w_X11_pull_17 C hCF a1 a2 a3 μ h1 h2 h3 hf) (And.intro rfl (And.intro rfl (And.intro rfl (And.intro rfl trivial))))
      · replace hf := if_f hf c3
        refine r_iconst C dX11_pull_15 ?_
        obtain ⟨rfl, rfl⟩ := of_ret hf
        exact r_iret C rfl (inR_lit rfl) dX11_pull_16
set_option maxHeartbeats 4000000 in
set_option maxRecDepth 100000 in
theorem w_X11_worker_2 {p : Program} {l : Launch} {e : Env} {s : State} {m : MethodId} {args : Array Value} {below : List Frame} {meth : Method} {c : Code} {D : va_G} {cy : Nat → ClassId} {A : Nat → Prop} {ids : List Nat} {ad : Nat → Nat} {r : Int} {μ' : Mem} (C : Cx p s m args meth c D (tyl cy) A 3 cX11_worker yX11_worker.cls (some .int)) (hCF : CF ad A s) : ∀ n : Nat, ∀ (v1 v2 : Int) (μ : Mem), inR v1 → inR v2 → f_X11_worker_2   n v1 v2 μ = some (r, μ') → V p l e (rmk 2) s m args below meth c 0 0 (MQ below (aI D (tyl cy) (lay cy) ids ad A r μ') args s 0 0 A) D A (lay cy) ids ad 3 μ 2 [some (rf 300), some (nu v1), some (nu v2)] [] := by
  intro n
  induction n with
  | zero =>
    intro v1 v2 μ hv1 hv2 hf
    cases hf
  | succ n ih =>
    intro v1 v2 μ hv1 hv2 hf
    rw [f_X11_worker_2_e] at hf
    refine V_in (fun ho0 _ => ?_)
    refine r_iload_n C 2 rfl rfl dX11_worker_2 ?_
    refine r_aload_n C 0 rfl rfl dX11_worker_3 ?_
    refine r_getf C 300 (by decide) rfl (fx_m rfl) (ly_300 cy _ _) rfl in_X11 2 (by decide) tw_897 (v := nu (μ 300 2)) rfl dX11_worker_4 ?_
    refine r_icmp_ge C 28 hv2 (ho0 _ _) rfl dX11_worker_7 (fun c1 => ?_) (fun c1 => ?_)
    · replace hf := if_t hf c1
      refine r_iconst C dX11_worker_28 ?_
      obtain ⟨rfl, rfl⟩ := of_ret hf
      exact r_iret C rfl (inR_lit rfl) dX11_worker_29
    · replace hf := if_f hf c1
      refine r_aload_n C 0 rfl rfl dX11_worker_10 ?_
      refine r_getf C 300 (by decide) rfl (fx_m rfl) (ly_300 cy _ _) rfl in_X11 6 (by decide) tw_901 (v := rf 302) rfl dX11_worker_11 ?_
      refine r_iload_n C 2 rfl rfl dX11_worker_14 ?_
      obtain ⟨g2, hf⟩ := of_g hf
      refine r_iald C 302 (by decide) rfl (fx_m rfl) 0 (cA := cy 0) (n := 6) (ly_302 cy _ _) rfl g2 (by decide) dX11_worker_15 ?_
      refine r_iload_n C 1 rfl rfl dX11_worker_16 ?_
      refine r_icmp_ne C 22 (ho0 _ _) hv1 rfl dX11_worker_17 (fun c3 => ?_) (fun c3 => ?_)
      · replace hf := if_f hf c3
        refine r_iinc C rfl (lw := [some (rf 300), some (nu v1), some (nu (v2 + 1))]) rfl (by decide) dX11_worker_22 ?_
        refine r_goto C 2 rfl dX11_worker_25 ?_
        obtain ⟨g4, hf⟩ := of_g hf
        exact V_lw (ih v1 (v2 + 1) μ hv1 g4 hf) (And.intro rfl (And.intro rfl (And.intro rfl trivial)))
      · replace hf := if_t hf c3
        refine r_iload_n C 2 rfl rfl dX11_worker_20 ?_
        obtain ⟨rfl, rfl⟩ := of_ret hf
        exact r_iret C rfl hv2 dX11_worker_21
set_option maxHeartbeats 4000000 in
set_option maxRecDepth 100000 in
theorem c_X11_worker {l : Launch} {D : va_G} {cy : Nat → ClassId} {ids : List Nat} {ad : Nat → Nat} {μ μ' : Mem} {a1 r : Int} (h1 : inR a1) (hf : f_X11_worker μ a1 = some (r, μ')) : KK aI l D (tyl cy) (lay cy) ids ad 2 yX11_worker cX11_worker 3 (some .int) [rf 300, nu a1] μ r μ' := by
  refine KK.of (by decide +kernel) (Nat.le_of_ble_eq_true rfl) ?_
  intro p e s m args below meth c A C hCF
  unfold f_X11_worker at hf
  refine V_in (fun ho0 _ => ?_)
  refine r_iconst C dX11_worker_0 ?_
  refine r_istore_n C 2 (lw := [some (rf 300), some (nu a1), some (nu 0)]) rfl rfl (by decide) dX11_worker_1 ?_
  exact V_lw (w_X11_worker_2 C hCF 64 a1 0 μ h1 (inR_lit rfl) hf) (And.intro rfl (And.intro rfl (And.intro rfl trivial)))
set_option maxHeartbeats 4000000 in
set_option maxRecDepth 100000 in
theorem w_X11_lacksLesser_4 {p : Program} {l : Launch} {e : Env} {s : State} {m : MethodId} {args : Array Value} {below : List Frame} {meth : Method} {c : Code} {D : va_G} {cy : Nat → ClassId} {A : Nat → Prop} {ids : List Nat} {ad : Nat → Nat} {r : Int} {μ' : Mem} (C : Cx p s m args meth c D (tyl cy) A 4 cX11_lacksLesser yX11_lacksLesser.cls (some .boolean)) (hCF : CF ad A s) : ∀ n : Nat, ∀ (v1 v2 v3 : Int) (μ : Mem), inR v1 → inR v2 → inR v3 → f_X11_lacksLesser_4   n v1 v2 v3 μ = some (r, μ') → V p l e (rmk 2) s m args below meth c 0 0 (MQ below (aI D (tyl cy) (lay cy) ids ad A r μ') args s 0 0 A) D A (lay cy) ids ad 4 μ 4 [some (rf 300), some (nu v1), some (nu v2), some (nu v3)] [] := by
  intro n
  induction n with
  | zero =>
    intro v1 v2 v3 μ hv1 hv2 hv3 hf
    cases hf
  | succ n ih =>
    intro v1 v2 v3 μ hv1 hv2 hv3 hf
    rw [f_X11_lacksLesser_4_e] at hf
    refine V_in (fun ho0 _ => ?_)
    refine r_iload_n C 3 rfl rfl dX11_lacksLesser_4 ?_
    refine r_aload_n C 0 rfl rfl dX11_lacksLesser_5 ?_
    refine r_getf C 300 (by decide) rfl (fx_m rfl) (ly_300 cy _ _) rfl in_X11 26 (by decide) tw_921 (v := nu (μ 300 26)) rfl dX11_lacksLesser_6 ?_
    refine r_icmp_ge C 53 hv3 (ho0 _ _) rfl dX11_lacksLesser_9 (fun c1 => ?_) (fun c1 => ?_)
    · replace hf := if_t hf c1
      refine r_iload_n C 2 rfl rfl dX11_lacksLesser_53 ?_
      obtain ⟨g2, hf⟩ := of_g hf
      obtain ⟨rfl, rfl⟩ := of_ret hf
      exact r_zret C rfl g2 dX11_lacksLesser_54
    · replace hf := if_f hf c1
      refine r_iload_n C 2 rfl rfl dX11_lacksLesser_12 ?_
      refine r_if_ne C 41 hv2 rfl dX11_lacksLesser_13 (fun c3 => ?_) (fun c3 => ?_)
      · replace hf := if_f hf c3
        refine r_iconst C dX11_lacksLesser_41 ?_
        refine r_goto C 46 rfl dX11_lacksLesser_42 ?_
        refine r_istore_n C 2 (lw := [some (rf 300), some (nu v1), some (nu 1), some (nu v3)]) rfl rfl (by decide) dX11_lacksLesser_46 ?_
        refine r_iinc C rfl (lw := [some (rf 300), some (nu v1), some (nu 1), some (nu (v3 + 1))]) rfl (by decide) dX11_lacksLesser_47 ?_
        refine r_goto C 4 rfl dX11_lacksLesser_50 ?_
        obtain ⟨g4, hf⟩ := of_g hf
        exact V_lw (ih v1 1 (v3 + 1) μ hv1 (inR_lit rfl) g4 hf) (And.intro rfl (And.intro rfl (And.intro rfl (And.intro rfl trivial))))
      · replace hf := if_t hf c3
        refine r_aload_n C 0 rfl rfl dX11_lacksLesser_16 ?_
        refine r_getf C 300 (by decide) rfl (fx_m rfl) (ly_300 cy _ _) rfl in_X11 28 (by decide) tw_923 (v := rf 316) rfl dX11_lacksLesser_17 ?_
        refine r_iload_n C 3 rfl rfl dX11_lacksLesser_20 ?_
        obtain ⟨g5, hf⟩ := of_g hf
        refine r_iald C 316 (by decide) rfl (fx_m rfl) 0 (cA := cy 0) (n := 30) (ly_316 cy _ _) rfl g5 (by decide) dX11_lacksLesser_21 ?_
        refine r_aload_n C 0 rfl rfl dX11_lacksLesser_22 ?_
        refine r_getf C 300 (by decide) rfl (fx_m rfl) (ly_300 cy _ _) rfl in_X11 28 (by decide) tw_923 (v := rf 316) rfl dX11_lacksLesser_23 ?_
        refine r_iload_n C 1 rfl rfl dX11_lacksLesser_26 ?_
        obtain ⟨g6, hf⟩ := of_g hf
        refine r_iald C 316 (by decide) rfl (fx_m rfl) 0 (cA := cy 0) (n := 30) (ly_316 cy _ _) rfl g6 (by decide) dX11_lacksLesser_27 ?_
        refine r_icmp_ge C 45 (ho0 _ _) (ho0 _ _) rfl dX11_lacksLesser_28 (fun c7 => ?_) (fun c7 => ?_)
        · replace hf := if_t hf c7
          refine r_iconst C dX11_lacksLesser_45 ?_
          refine r_istore_n C 2 (lw := [some (rf 300), some (nu v1), some (nu 0), some (nu v3)]) rfl rfl (by decide) dX11_lacksLesser_46 ?_
          refine r_iinc C rfl (lw := [some (rf 300), some (nu v1), some (nu 0), some (nu (v3 + 1))]) rfl (by decide) dX11_lacksLesser_47 ?_
          refine r_goto C 4 rfl dX11_lacksLesser_50 ?_
          obtain ⟨g8, hf⟩ := of_g hf
          exact V_lw (ih v1 0 (v3 + 1) μ hv1 (inR_lit rfl) g8 hf) (And.intro rfl (And.intro rfl (And.intro rfl (And.intro rfl trivial))))
        · replace hf := if_f hf c7
          refine r_aload_n C 0 rfl rfl dX11_lacksLesser_31 ?_
          refine r_getf C 300 (by decide) rfl (fx_m rfl) (ly_300 cy _ _) rfl in_X11 29 (by decide) tw_924 (v := rf 317) rfl dX11_lacksLesser_32 ?_
          refine r_iload_n C 3 rfl rfl dX11_lacksLesser_35 ?_
          refine r_iald C 317 (by decide) rfl (fx_m rfl) 0 (cA := cy 0) (n := 30) (ly_317 cy _ _) rfl g5 (by decide) dX11_lacksLesser_36 ?_
          refine r_iconst C dX11_lacksLesser_37 ?_
          refine r_icmp_ge C 45 (ho0 _ _) (inR_lit rfl) rfl dX11_lacksLesser_38 (fun c9 => ?_) (fun c9 => ?_)
          · replace hf := if_t hf c9
            refine r_iconst C dX11_lacksLesser_45 ?_
            refine r_istore_n C 2 (lw := [some (rf 300), some (nu v1), some (nu 0), some (nu v3)]) rfl rfl (by decide) dX11_lacksLesser_46 ?_
            refine r_iinc C rfl (lw := [some (rf 300), some (nu v1), some (nu 0), some (nu (v3 + 1))]) rfl (by decide) dX11_lacksLesser_47 ?_
            refine r_goto C 4 rfl dX11_lacksLesser_50 ?_
            obtain ⟨g10, hf⟩ := of_g hf
            exact V_lw (ih v1 0 (v3 + 1) μ hv1 (inR_lit rfl) g10 hf) (And.intro rfl (And.intro rfl (And.intro rfl (And.intro rfl trivial))))
          · replace hf := if_f hf c9
            refine r_iconst C dX11_lacksLesser_41 ?_
            refine r_goto C 46 rfl dX11_lacksLesser_42 ?_
            refine r_istore_n C 2 (lw := [some (rf 300), some (nu v1), some (nu 1), some (nu v3)]) rfl rfl (by decide) dX11_lacksLesser_46 ?_
            refine r_iinc C rfl (lw := [some (rf 300), some (nu v1), some (nu 1), some (nu (v3 + 1))]) rfl (by decide) dX11_lacksLesser_47 ?_
            refine r_goto C 4 rfl dX11_lacksLesser_50 ?_
            obtain ⟨g11, hf⟩ := of_g hf
            exact V_lw (ih v1 1 (v3 + 1) μ hv1 (inR_lit rfl) g11 hf) (And.intro rfl (And.intro rfl (And.intro rfl (And.intro rfl trivial))))
set_option maxHeartbeats 4000000 in
set_option maxRecDepth 100000 in
theorem c_X11_lacksLesser {l : Launch} {D : va_G} {cy : Nat → ClassId} {ids : List Nat} {ad : Nat → Nat} {μ μ' : Mem} {a1 r : Int} (h1 : inR a1) (hf : f_X11_lacksLesser μ a1 = some (r, μ')) : KK aI l D (tyl cy) (lay cy) ids ad 2 yX11_lacksLesser cX11_lacksLesser 4 (some .boolean) [rf 300, nu a1] μ r μ' := by
  refine KK.of (by decide +kernel) (Nat.le_of_ble_eq_true rfl) ?_
  intro p e s m args below meth c A C hCF
  unfold f_X11_lacksLesser at hf
  refine V_in (fun ho0 _ => ?_)
  refine r_iconst C dX11_lacksLesser_0 ?_
  refine r_istore_n C 2 (lw := [some (rf 300), some (nu a1), some (nu 0), none]) rfl rfl (by decide) dX11_lacksLesser_1 ?_
  refine r_iconst C dX11_lacksLesser_2 ?_
  refine r_istore_n C 3 (lw := [some (rf 300), some (nu a1), some (nu 0), some (nu 0)]) rfl rfl (by decide) dX11_lacksLesser_3 ?_
  exact V_lw (w_X11_lacksLesser_4 C hCF 64 a1 0 0 μ h1 (inR_lit rfl) (inR_lit rfl) hf) (And.intro rfl (And.intro rfl (And.intro rfl (And.intro rfl trivial))))
set_option maxHeartbeats 4000000 in
set_option maxRecDepth 100000 in
theorem w_X11_send_176 {p : Program} {l : Launch} {e : Env} {s : State} {m : MethodId} {args : Array Value} {below : List Frame} {meth : Method} {c : Code} {D : va_G} {cy : Nat → ClassId} {A : Nat → Prop} {ids : List Nat} {ad : Nat → Nat} {r : Int} {μ' : Mem} (C : Cx p s m args meth c D (tyl cy) A 5 cX11_send yX11_send.cls (some .int)) (hCF : CF ad A s) : ∀ (v1 v2 v3 : Int) (μ : Mem), inR v1 → inR v2 → inR v3 → f_X11_send_176   v1 v2 v3 μ = some (r, μ') → V p l e (rmk 6) s m args below meth c 0 0 (MQ below (aI D (tyl cy) (lay cy) ids ad A r μ') args s 0 0 A) D A (lay cy) ids ad 5 μ 176 [some (rf 300), some (nu v1), some (nu v2), some (nu v3), none] [] := by
  intro v1 v2 v3 μ hv1 hv2 hv3 hf
  unfold f_X11_send_176 at hf
  refine V_in (fun ho0 _ => ?_)
  refine r_aload_n C 0 rfl rfl dX11_send_176 ?_
  refine r_getf C 300 (by decide) rfl (fx_m rfl) (ly_300 cy _ _) rfl in_X11 6 (by decide) tw_901 (v := rf 302) rfl dX11_send_177 ?_
  refine r_iload_n C 1 rfl rfl dX11_send_180 ?_
  refine r_iload_n C 2 rfl rfl dX11_send_181 ?_
  obtain ⟨g1, hf⟩ := of_g hf
  refine r_iast C 302 (by decide) rfl (fx_m rfl) (by decide) 0 (cA := cy 0) (n := 6) (fun f => ly_302 cy _ f) rfl g1 (by decide) hv2 dX11_send_182 (fun μ2 hμ4 => ?_)
  replace hf := of_lm hf hμ4
  refine V_in (fun ho3 _ => ?_)
  refine r_aload_n C 0 rfl rfl dX11_send_183 ?_
  refine r_getf C 300 (by decide) rfl (fx_m rfl) (ly_300 cy _ _) rfl in_X11 7 (by decide) tw_902 (v := rf 303) rfl dX11_send_184 ?_
  refine r_iload_n C 1 rfl rfl dX11_send_187 ?_
  refine r_iload_n C 3 rfl rfl dX11_send_188 ?_
  refine r_if_ne C 208 hv3 rfl dX11_send_189 (fun c5 => ?_) (fun c5 => ?_)
  · replace hf := if_f hf c5
    refine r_iload_n C 3 rfl rfl dX11_send_208 ?_
    refine r_iconst C dX11_send_209 ?_
    refine r_icmp_ne C 222 hv3 (inR_lit rfl) rfl dX11_send_210 (fun c6 => ?_) (fun c6 => ?_)
    · replace hf := if_f hf c6
      refine r_iload_n C 3 rfl rfl dX11_send_222 ?_
      refine r_iconst C dX11_send_223 ?_
      refine r_icmp_ne C 237 hv3 (inR_lit rfl) rfl dX11_send_224 (fun c7 => ?_) (fun c7 => ?_)
      · replace hf := if_f hf c7
        refine r_iload_n C 3 rfl rfl dX11_send_237 ?_
        refine r_iconst C dX11_send_238 ?_
        refine r_icmp_ne C 253 hv3 (inR_lit rfl) rfl dX11_send_239 (fun c8 => ?_) (fun c8 => ?_)
        · replace hf := if_f hf c8
          refine r_iconst C dX11_send_253 ?_
          refine r_iast C 303 (by decide) rfl (fx_m rfl) (by decide) 0 (cA := cy 0) (n := 6) (fun f => ly_303 cy _ f) rfl g1 (by decide) (inR_lit rfl) dX11_send_254 (fun μ9 hμ11 => ?_)
          replace hf := of_lm hf hμ11
          refine V_in (fun ho10 _ => ?_)
          refine r_iconst C dX11_send_255 ?_
          obtain ⟨rfl, rfl⟩ := of_ret hf
          exact r_iret C rfl (inR_lit rfl) dX11_send_256
        · replace hf := if_t hf c8
          refine r_aload_n C 0 rfl rfl dX11_send_242 ?_
          refine r_getf C 300 (by decide) rfl (fx_m rfl) (ly_300 cy _ _) rfl in_X11 28 (by decide) tw_923 (v := rf 316) rfl dX11_send_243 ?_
          refine r_iload_n C 2 rfl rfl dX11_send_246 ?_
          obtain ⟨g12, hf⟩ := of_g hf
          refine r_iald C 316 (by decide) rfl (fx_m rfl) 0 (cA := cy 0) (n := 30) (ly_316 cy _ _) rfl g12 (by decide) dX11_send_247 ?_
          refine r_iconst C dX11_send_248 ?_
          refine r_iadd C dX11_send_249 ?_
          refine r_goto C 254 rfl dX11_send_250 ?_
          obtain ⟨g13, hf⟩ := of_g hf
          refine r_iast C 303 (by decide) rfl (fx_m rfl) (by decide) 0 (cA := cy 0) (n := 6) (fun f => ly_303 cy _ f) rfl g1 (by decide) g13 dX11_send_254 (fun μ14 hμ16 => ?_)
          replace hf := of_lm hf hμ16
          refine V_in (fun ho15 _ => ?_)
          refine r_iconst C dX11_send_255 ?_
          obtain ⟨rfl, rfl⟩ := of_ret hf
          exact r_iret C rfl (inR_lit rfl) dX11_send_256
      · replace hf := if_t hf c7
        refine r_aload_n C 0 rfl rfl dX11_send_227 ?_
        refine r_getf C 300 (by decide) rfl (fx_m rfl) (ly_300 cy _ _) rfl in_X11 23 (by decide) tw_918 (v := rf 312) rfl dX11_send_228 ?_
        refine r_bipush C dX11_send_231 rfl ?_
        refine r_iald C 312 (by decide) rfl (fx_m rfl) 0 (cA := cy 0) (n := 9) (ly_312 cy _ _) rfl ⟨by decide, by decide⟩ (by decide) dX11_send_233 ?_
        refine r_goto C 254 rfl dX11_send_234 ?_
        refine r_iast C 303 (by decide) rfl (fx_m rfl) (by decide) 0 (cA := cy 0) (n := 6) (fun f => ly_303 cy _ f) rfl g1 (by decide) (ho3 _ _) dX11_send_254 (fun μ17 hμ19 => ?_)
        replace hf := of_lm hf hμ19
        refine V_in (fun ho18 _ => ?_)
        refine r_iconst C dX11_send_255 ?_
        obtain ⟨rfl, rfl⟩ := of_ret hf
        exact r_iret C rfl (inR_lit rfl) dX11_send_256
    · replace hf := if_t hf c6
      refine r_aload_n C 0 rfl rfl dX11_send_213 ?_
      refine r_getf C 300 (by decide) rfl (fx_m rfl) (ly_300 cy _ _) rfl in_X11 23 (by decide) tw_918 (v := rf 312) rfl dX11_send_214 ?_
      refine r_iconst C dX11_send_217 ?_
      refine r_iald C 312 (by decide) rfl (fx_m rfl) 0 (cA := cy 0) (n := 9) (ly_312 cy _ _) rfl ⟨by decide, by decide⟩ (by decide) dX11_send_218 ?_
      refine r_goto C 254 rfl dX11_send_219 ?_
      refine r_iast C 303 (by decide) rfl (fx_m rfl) (by decide) 0 (cA := cy 0) (n := 6) (fun f => ly_303 cy _ f) rfl g1 (by decide) (ho3 _ _) dX11_send_254 (fun μ20 hμ22 => ?_)
      replace hf := of_lm hf hμ22
      refine V_in (fun ho21 _ => ?_)
      refine r_iconst C dX11_send_255 ?_
      obtain ⟨rfl, rfl⟩ := of_ret hf
      exact r_iret C rfl (inR_lit rfl) dX11_send_256
  · replace hf := if_t hf c5
    refine r_aload_n C 0 rfl rfl dX11_send_192 ?_
    refine r_getf C 300 (by decide) rfl (fx_m rfl) (ly_300 cy _ _) rfl in_X11 27 (by decide) tw_922 (v := rf 315) rfl dX11_send_193 ?_
    refine r_iload_n C 2 rfl rfl dX11_send_196 ?_
    obtain ⟨g23, hf⟩ := of_g hf
    refine r_iald C 315 (by decide) rfl (fx_m rfl) 0 (cA := cy 0) (n := 30) (ly_315 cy _ _) rfl g23 (by decide) dX11_send_197 ?_
    refine r_aload_n C 0 rfl rfl dX11_send_198 ?_
    refine r_getf C 300 (by decide) rfl (fx_m rfl) (ly_300 cy _ _) rfl in_X11 23 (by decide) tw_918 (v := rf 312) rfl dX11_send_199 ?_
    refine r_iconst C dX11_send_202 ?_
    refine r_iald C 312 (by decide) rfl (fx_m rfl) 0 (cA := cy 0) (n := 9) (ly_312 cy _ _) rfl ⟨by decide, by decide⟩ (by decide) dX11_send_203 ?_
    refine r_imul C dX11_send_204 ?_
    refine r_goto C 254 rfl dX11_send_205 ?_
    obtain ⟨g24, hf⟩ := of_g hf
    refine r_iast C 303 (by decide) rfl (fx_m rfl) (by decide) 0 (cA := cy 0) (n := 6) (fun f => ly_303 cy _ f) rfl g1 (by decide) g24 dX11_send_254 (fun μ25 hμ27 => ?_)
    replace hf := of_lm hf hμ27
    refine V_in (fun ho26 _ => ?_)
    refine r_iconst C dX11_send_255 ?_
    obtain ⟨rfl, rfl⟩ := of_ret hf
    exact r_iret C rfl (inR_lit rfl) dX11_send_256
set_option maxHeartbeats 4000000 in
set_option maxRecDepth 100000 in
theorem w_X11_send_160 {p : Program} {l : Launch} {e : Env} {s : State} {m : MethodId} {args : Array Value} {below : List Frame} {meth : Method} {c : Code} {D : va_G} {cy : Nat → ClassId} {A : Nat → Prop} {ids : List Nat} {ad : Nat → Nat} {r : Int} {μ' : Mem} (C : Cx p s m args meth c D (tyl cy) A 5 cX11_send yX11_send.cls (some .int)) (hCF : CF ad A s) : ∀ (v1 v2 v3 : Int) (μ : Mem), inR v1 → inR v2 → inR v3 → f_X11_send_160   v1 v2 v3 μ = some (r, μ') → V p l e (rmk 6) s m args below meth c 0 0 (MQ below (aI D (tyl cy) (lay cy) ids ad A r μ') args s 0 0 A) D A (lay cy) ids ad 5 μ 160 [some (rf 300), some (nu v1), some (nu v2), some (nu v3), none] [] := by
  intro v1 v2 v3 μ hv1 hv2 hv3 hf
  unfold f_X11_send_160 at hf
  refine V_in (fun ho0 _ => ?_)
  refine r_iload_n C 3 rfl rfl dX11_send_160 ?_
  refine r_iconst C dX11_send_161 ?_
  refine r_icmp_ne C 176 hv3 (inR_lit rfl) rfl dX11_send_162 (fun c1 => ?_) (fun c1 => ?_)
  · replace hf := if_f hf c1
    exact V_lw (w_X11_send_176 C hCF v1 v2 v3 μ hv1 hv2 hv3 hf) (And.intro rfl (And.intro rfl (And.intro rfl (And.intro rfl trivial))))
  · replace hf := if_t hf c1
    refine r_aload_n C 0 rfl rfl dX11_send_165 ?_
    refine r_iload_n C 2 rfl rfl dX11_send_166 ?_
    obtain ⟨r2, μ3, hc4, hf⟩ := of_bd hf
    refine r_callVI C hCF (As := [nu v2]) 300 (by decide) rfl (fx_m rfl) (ly_300 cy _ _) rfl (c_X11_lacksLesser hv2 hc4) rfl (by decide) (by decide) ⟨Nat.le_refl 0, Nat.le_refl 0⟩ tw_1151 tw_1154 tw_10 tw_1153 ts_49 1 (by decide) rfl (Nat.le_of_ble_eq_true rfl) dX11_send_167 (fun hr6 => ?_)
    refine V_in (fun ho5 _ => ?_)
    refine r_if_eq C 176 hr6 rfl dX11_send_170 (fun c7 => ?_) (fun c7 => ?_)
    · replace hf := if_t hf c7
      exact V_lw (w_X11_send_176 C hCF v1 v2 v3 μ3 hv1 hv2 hv3 hf) (And.intro rfl (And.intro rfl (And.intro rfl (And.intro rfl trivial))))
    · replace hf := if_f hf c7
      refine r_bipush C dX11_send_173 rfl ?_
      obtain ⟨rfl, rfl⟩ := of_ret hf
      exact r_iret C rfl (inR_lit rfl) dX11_send_175
set_option maxHeartbeats 4000000 in
set_option maxRecDepth 100000 in
theorem w_X11_send_139 {p : Program} {l : Launch} {e : Env} {s : State} {m : MethodId} {args : Array Value} {below : List Frame} {meth : Method} {c : Code} {D : va_G} {cy : Nat → ClassId} {A : Nat → Prop} {ids : List Nat} {ad : Nat → Nat} {r : Int} {μ' : Mem} (C : Cx p s m args meth c D (tyl cy) A 5 cX11_send yX11_send.cls (some .int)) (hCF : CF ad A s) : ∀ (v1 v2 v3 : Int) (μ : Mem), inR v1 → inR v2 → inR v3 → f_X11_send_139   v1 v2 v3 μ = some (r, μ') → V p l e (rmk 6) s m args below meth c 0 0 (MQ below (aI D (tyl cy) (lay cy) ids ad A r μ') args s 0 0 A) D A (lay cy) ids ad 5 μ 139 [some (rf 300), some (nu v1), some (nu v2), some (nu v3), none] [] := by
  intro v1 v2 v3 μ hv1 hv2 hv3 hf
  unfold f_X11_send_139 at hf
  refine V_in (fun ho0 _ => ?_)
  refine r_iload_n C 3 rfl rfl dX11_send_139 ?_
  refine r_iconst C dX11_send_140 ?_
  refine r_icmp_ne C 160 hv3 (inR_lit rfl) rfl dX11_send_141 (fun c1 => ?_) (fun c1 => ?_)
  · replace hf := if_f hf c1
    exact V_lw (w_X11_send_160 C hCF v1 v2 v3 μ hv1 hv2 hv3 hf) (And.intro rfl (And.intro rfl (And.intro rfl (And.intro rfl trivial))))
  · replace hf := if_t hf c1
    refine r_aload_n C 0 rfl rfl dX11_send_144 ?_
    refine r_getf C 300 (by decide) rfl (fx_m rfl) (ly_300 cy _ _) rfl in_X11 17 (by decide) tw_912 (v := nu (μ 300 17)) rfl dX11_send_145 ?_
    refine r_aload_n C 0 rfl rfl dX11_send_148 ?_
    refine r_getf C 300 (by decide) rfl (fx_m rfl) (ly_300 cy _ _) rfl in_X11 28 (by decide) tw_923 (v := rf 316) rfl dX11_send_149 ?_
    refine r_iload_n C 2 rfl rfl dX11_send_152 ?_
    obtain ⟨g2, hf⟩ := of_g hf
    refine r_iald C 316 (by decide) rfl (fx_m rfl) 0 (cA := cy 0) (n := 30) (ly_316 cy _ _) rfl g2 (by decide) dX11_send_153 ?_
    refine r_icmp_gt C 160 (ho0 _ _) (ho0 _ _) rfl dX11_send_154 (fun c3 => ?_) (fun c3 => ?_)
    · replace hf := if_t hf c3
      exact V_lw (w_X11_send_160 C hCF v1 v2 v3 μ hv1 hv2 hv3 hf) (And.intro rfl (And.intro rfl (And.intro rfl (And.intro rfl trivial))))
    · replace hf := if_f hf c3
      refine r_bipush C dX11_send_157 rfl ?_
      obtain ⟨rfl, rfl⟩ := of_ret hf
      exact r_iret C rfl (inR_lit rfl) dX11_send_159
set_option maxHeartbeats 4000000 in
set_option maxRecDepth 100000 in
theorem c_X11_send {l : Launch} {D : va_G} {cy : Nat → ClassId} {ids : List Nat} {ad : Nat → Nat} {μ μ' : Mem} {a1 a2 r : Int} (h1 : inR a1) (h2 : inR a2) (hf : f_X11_send μ a1 a2 = some (r, μ')) : KK aI l D (tyl cy) (lay cy) ids ad 6 yX11_send cX11_send 5 (some .int) [rf 300, nu a1, nu a2] μ r μ' := by
  refine KK.of (by decide +kernel) (Nat.le_of_ble_eq_true rfl) ?_
  intro p e s m args below meth c A C hCF
  unfold f_X11_send at hf
  refine V_in (fun ho0 _ => ?_)
  refine r_iload_n C 1 rfl rfl dX11_send_0 ?_
  refine r_iconst C dX11_send_1 ?_
  refine r_aload_n C 0 rfl rfl dX11_send_2 ?_
  refine r_getf C 300 (by decide) rfl (fx_m rfl) (ly_300 cy _ _) rfl in_X11 2 (by decide) tw_897 (v := nu (μ 300 2)) rfl dX11_send_3 ?_
  refine r_iconst C dX11_send_6 ?_
  refine r_isub C dX11_send_7 ?_
  obtain ⟨g1, hf⟩ := of_g hf
  obtain ⟨r2, μ3, hc4, hf⟩ := of_bd hf
  refine r_callSI C hCF (As := [nu a1, nu 0, nu ((μ 300 2) - 1)]) (c_X11_in h1 (inR_lit rfl) g1 hc4) rfl (by decide) (by decide) ⟨Nat.le_refl 0, Nat.le_refl 0⟩ tw_1063 tw_1065 tw_10 tw_1064 3 (by decide) rfl (Nat.le_of_ble_eq_true rfl) dX11_send_8 (fun hr6 => ?_)
  refine V_in (fun ho5 _ => ?_)
  refine r_if_eq C 35 hr6 rfl dX11_send_11 (fun c7 => ?_) (fun c7 => ?_)
  · replace hf := if_t hf c7
    refine r_iconst C dX11_send_35 ?_
    obtain ⟨rfl, rfl⟩ := of_ret hf
    exact r_iret C rfl (inR_lit rfl) dX11_send_36
  · replace hf := if_f hf c7
    refine r_iload_n C 2 rfl rfl dX11_send_14 ?_
    refine r_iconst C dX11_send_15 ?_
    refine r_aload_n C 0 rfl rfl dX11_send_16 ?_
    refine r_getf C 300 (by decide) rfl (fx_m rfl) (ly_300 cy _ _) rfl in_X11 26 (by decide) tw_921 (v := nu (μ3 300 26)) rfl dX11_send_17 ?_
    refine r_iconst C dX11_send_20 ?_
    refine r_isub C dX11_send_21 ?_
    obtain ⟨g8, hf⟩ := of_g hf
    obtain ⟨r9, μ10, hc11, hf⟩ := of_bd hf
    refine r_callSI C hCF (As := [nu a2, nu 0, nu ((μ3 300 26) - 1)]) (c_X11_in h2 (inR_lit rfl) g8 hc11) rfl (by decide) (by decide) ⟨Nat.le_refl 0, Nat.le_refl 0⟩ tw_1063 tw_1065 tw_10 tw_1064 3 (by decide) rfl (Nat.le_of_ble_eq_true rfl) dX11_send_22 (fun hr13 => ?_)
    refine V_in (fun ho12 _ => ?_)
    refine r_if_eq C 35 hr13 rfl dX11_send_25 (fun c14 => ?_) (fun c14 => ?_)
    · replace hf := if_t hf c14
      refine r_iconst C dX11_send_35 ?_
      obtain ⟨rfl, rfl⟩ := of_ret hf
      exact r_iret C rfl (inR_lit rfl) dX11_send_36
    · replace hf := if_f hf c14
      refine r_aload_n C 0 rfl rfl dX11_send_28 ?_
      obtain ⟨r15, μ16, hc17, hf⟩ := of_bd hf
      refine r_callVI C hCF (As := []) 300 (by decide) rfl (fx_m rfl) (ly_300 cy _ _) rfl (c_X11_isEnd hc17) rfl (by decide) (by decide) ⟨Nat.le_refl 0, Nat.le_refl 0⟩ tw_1135 tw_1138 tw_10 tw_1137 ts_45 0 (by decide) rfl (Nat.le_of_ble_eq_true rfl) dX11_send_29 (fun hr19 => ?_)
      refine V_in (fun ho18 _ => ?_)
      refine r_if_eq C 37 hr19 rfl dX11_send_32 (fun c20 => ?_) (fun c20 => ?_)
      · replace hf := if_t hf c20
        refine r_aload_n C 0 rfl rfl dX11_send_37 ?_
        refine r_getf C 300 (by decide) rfl (fx_m rfl) (ly_300 cy _ _) rfl in_X11 6 (by decide) tw_901 (v := rf 302) rfl dX11_send_38 ?_
        refine r_iload_n C 1 rfl rfl dX11_send_41 ?_
        obtain ⟨g21, hf⟩ := of_g hf
        refine r_iald C 302 (by decide) rfl (fx_m rfl) 0 (cA := cy 0) (n := 6) (ly_302 cy _ _) rfl g21 (by decide) dX11_send_42 ?_
        refine r_iconst C dX11_send_43 ?_
        refine r_icmp_eq C 49 (ho18 _ _) (inR_lit rfl) rfl dX11_send_44 (fun c22 => ?_) (fun c22 => ?_)
        · replace hf := if_t hf c22
          refine r_aload_n C 0 rfl rfl dX11_send_49 ?_
          refine r_iload_n C 2 rfl rfl dX11_send_50 ?_
          obtain ⟨r23, μ24, hc25, hf⟩ := of_bd hf
          refine r_callVI C hCF (As := [nu a2]) 300 (by decide) rfl (fx_m rfl) (ly_300 cy _ _) rfl (c_X11_worker h2 hc25) rfl (by decide) (by decide) ⟨Nat.le_refl 0, Nat.le_refl 0⟩ tw_1139 tw_1142 tw_10 tw_1141 ts_46 1 (by decide) rfl (Nat.le_of_ble_eq_true rfl) dX11_send_51 (fun hr27 => ?_)
          refine V_in (fun ho26 _ => ?_)
          refine r_iconst C dX11_send_54 ?_
          refine r_icmp_eq C 60 hr27 (inR_lit rfl) rfl dX11_send_55 (fun c28 => ?_) (fun c28 => ?_)
          · replace hf := if_t hf c28
            refine r_aload_n C 0 rfl rfl dX11_send_60 ?_
            refine r_getf C 300 (by decide) rfl (fx_m rfl) (ly_300 cy _ _) rfl in_X11 29 (by decide) tw_924 (v := rf 317) rfl dX11_send_61 ?_
            refine r_iload_n C 2 rfl rfl dX11_send_64 ?_
            obtain ⟨g29, hf⟩ := of_g hf
            refine r_iald C 317 (by decide) rfl (fx_m rfl) 0 (cA := cy 0) (n := 30) (ly_317 cy _ _) rfl g29 (by decide) dX11_send_65 ?_
            refine r_istore_n C 3 (lw := [some (rf 300), some (nu a1), some (nu a2), some (nu (μ24 317 a2.toNat)), none]) rfl rfl (by decide) dX11_send_66 ?_
            refine r_iload_n C 3 rfl rfl dX11_send_67 ?_
            refine r_iconst C dX11_send_68 ?_
            refine r_icmp_lt C 74 (ho26 _ _) (inR_lit rfl) rfl dX11_send_69 (fun c30 => ?_) (fun c30 => ?_)
            · replace hf := if_t hf c30
              refine r_aload_n C 0 rfl rfl dX11_send_74 ?_
              refine r_iload_n C 2 rfl rfl dX11_send_75 ?_
              refine r_iload_n C 3 rfl rfl dX11_send_76 ?_
              refine r_aload_n C 0 rfl rfl dX11_send_77 ?_
              refine r_iconst C dX11_send_78 ?_
              refine r_aload_n C 0 rfl rfl dX11_send_79 ?_
              refine r_getf C 300 (by decide) rfl (fx_m rfl) (ly_300 cy _ _) rfl in_X11 1 (by decide) tw_896 (v := nu (μ24 300 1)) rfl dX11_send_80 ?_
              obtain ⟨r31, μ32, hc33, hf⟩ := of_bd hf
              refine r_callVI C hCF (As := [nu 1, nu (μ24 300 1)]) 300 (by decide) rfl (fx_m rfl) (ly_300 cy _ _) rfl (c_X11_is (inR_lit rfl) (ho26 _ _) hc33) rfl (by decide) (by decide) ⟨Nat.le_refl 0, Nat.le_refl 0⟩ tw_1143 tw_1146 tw_10 tw_1145 ts_47 2 (by decide) rfl (Nat.le_of_ble_eq_true rfl) dX11_send_83 (fun hr35 => ?_)
              refine V_in (fun ho34 _ => ?_)
              obtain ⟨r36, μ37, hc38, hf⟩ := of_bd hf
              refine r_callVI C hCF (As := [nu a2, nu (μ24 317 a2.toNat), nu r31]) 300 (by decide) rfl (fx_m rfl) (ly_300 cy _ _) rfl (c_X11_pull h2 (ho26 _ _) hr35 hc38) rfl (by decide) (by decide) ⟨Nat.le_refl 0, Nat.le_refl 0⟩ tw_1147 tw_1150 tw_10 tw_1149 ts_48 3 (by decide) rfl (Nat.le_of_ble_eq_true rfl) dX11_send_86 (fun hr40 => ?_)
              refine V_in (fun ho39 _ => ?_)
              refine r_istore C (lw := [some (rf 300), some (nu a1), some (nu a2), some (nu (μ24 317 a2.toNat)), some (nu r36)]) rfl (by decide) dX11_send_89 ?_
              refine r_iload C rfl dX11_send_91 ?_
              refine r_aload_n C 0 rfl rfl dX11_send_93 ?_
              refine r_getf C 300 (by decide) rfl (fx_m rfl) (ly_300 cy _ _) rfl in_X11 23 (by decide) tw_918 (v := rf 312) rfl dX11_send_94 ?_
              refine r_bipush C dX11_send_97 rfl ?_
              refine r_iald C 312 (by decide) rfl (fx_m rfl) 0 (cA := cy 0) (n := 9) (ly_312 cy _ _) rfl ⟨by decide, by decide⟩ (by decide) dX11_send_99 ?_
              refine r_icmp_le C 105 hr40 (ho39 _ _) rfl dX11_send_100 (fun c41 => ?_) (fun c41 => ?_)
              · replace hf := if_t hf c41
                refine r_iload C rfl dX11_send_105 ?_
                refine r_aload_n C 0 rfl rfl dX11_send_107 ?_
                refine r_getf C 300 (by decide) rfl (fx_m rfl) (ly_300 cy _ _) rfl in_X11 5 (by decide) tw_900 (v := rf 301) rfl dX11_send_108 ?_
                refine r_iload_n C 1 rfl rfl dX11_send_111 ?_
                refine r_iald C 301 (by decide) rfl (fx_m rfl) 0 (cA := cy 0) (n := 6) (ly_301 cy _ _) rfl g21 (by decide) dX11_send_112 ?_
                refine r_icmp_le C 119 hr40 (ho39 _ _) rfl dX11_send_113 (fun c42 => ?_) (fun c42 => ?_)
                · replace hf := if_t hf c42
                  refine r_iload_n C 3 rfl rfl dX11_send_119 ?_
                  refine r_iconst C dX11_send_120 ?_
                  refine r_icmp_ne C 139 (ho26 _ _) (inR_lit rfl) rfl dX11_send_121 (fun c43 => ?_) (fun c43 => ?_)
                  · replace hf := if_f hf c43
                    exact V_lw (w_X11_send_139 C hCF a1 a2 (μ24 317 a2.toNat) μ37 h1 h2 (ho26 _ _) hf) (And.intro rfl (And.intro rfl (And.intro rfl (And.intro rfl trivial))))
                  · replace hf := if_t hf c43
                    refine r_aload_n C 0 rfl rfl dX11_send_124 ?_
                    refine r_iconst C dX11_send_125 ?_
                    refine r_aload_n C 0 rfl rfl dX11_send_126 ?_
                    refine r_getf C 300 (by decide) rfl (fx_m rfl) (ly_300 cy _ _) rfl in_X11 1 (by decide) tw_896 (v := nu (μ37 300 1)) rfl dX11_send_127 ?_
                    obtain ⟨r44, μ45, hc46, hf⟩ := of_bd hf
                    refine r_callVI C hCF (As := [nu 0, nu (μ37 300 1)]) 300 (by decide) rfl (fx_m rfl) (ly_300 cy _ _) rfl (c_X11_is (inR_lit rfl) (ho39 _ _) hc46) rfl (by decide) (by decide) ⟨Nat.le_refl 0, Nat.le_refl 0⟩ tw_1143 tw_1146 tw_10 tw_1145 ts_47 2 (by decide) rfl (Nat.le_of_ble_eq_true rfl) dX11_send_130 (fun hr48 => ?_)
                    refine V_in (fun ho47 _ => ?_)
                    refine r_if_ne C 139 hr48 rfl dX11_send_133 (fun c49 => ?_) (fun c49 => ?_)
                    · replace hf := if_f hf c49
                      exact V_lw (w_X11_send_139 C hCF a1 a2 (μ24 317 a2.toNat) μ45 h1 h2 (ho26 _ _) hf) (And.intro rfl (And.intro rfl (And.intro rfl (And.intro rfl trivial))))
                    · replace hf := if_t hf c49
                      refine r_bipush C dX11_send_136 rfl ?_
                      obtain ⟨rfl, rfl⟩ := of_ret hf
                      exact r_iret C rfl (inR_lit rfl) dX11_send_138
                · replace hf := if_f hf c42
                  refine r_bipush C dX11_send_116 rfl ?_
                  obtain ⟨rfl, rfl⟩ := of_ret hf
                  exact r_iret C rfl (inR_lit rfl) dX11_send_118
              · replace hf := if_f hf c41
                refine r_iconst C dX11_send_103 ?_
                obtain ⟨rfl, rfl⟩ := of_ret hf
                exact r_iret C rfl (inR_lit rfl) dX11_send_104
            · replace hf := if_f hf c30
              refine r_iconst C dX11_send_72 ?_
              obtain ⟨rfl, rfl⟩ := of_ret hf
              exact r_iret C rfl (inR_lit rfl) dX11_send_73
          · replace hf := if_f hf c28
            refine r_iconst C dX11_send_58 ?_
            obtain ⟨rfl, rfl⟩ := of_ret hf
            exact r_iret C rfl (inR_lit rfl) dX11_send_59
        · replace hf := if_f hf c22
          refine r_iconst C dX11_send_47 ?_
          obtain ⟨rfl, rfl⟩ := of_ret hf
          exact r_iret C rfl (inR_lit rfl) dX11_send_48
      · replace hf := if_f hf c20
        refine r_iconst C dX11_send_35 ?_
        obtain ⟨rfl, rfl⟩ := of_ret hf
        exact r_iret C rfl (inR_lit rfl) dX11_send_36
