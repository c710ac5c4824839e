set_option maxHeartbeats 4000000 in
set_option maxRecDepth 100000 in
theorem w_X7_begin_36 {p : Program} {l : Launch} {e : Env} {s : State} {m : MethodId} {args : Array Value} {below : List Frame} {meth : Method} {c : Code} {D : va_G} {cy : Nat → ClassId} {A : Nat → Prop} {ids : List Nat} {ad : Nat → Nat} {r : Int} {μ' : Mem} (C : Cx p s m args meth c D (tyl cy) A 2 cX7_begin yX7_begin.cls none) (hCF : CF ad A s) : ∀ (μ : Mem), f_X7_begin_36   μ = some (r, μ') → V p l e (rmk 2) s m args below meth c 0 0 (MQ below (aV D (tyl cy) (lay cy) ids ad A r μ') args s 0 0 A) D A (lay cy) ids ad 2 μ 36 [some (rf 5), none] [] := by
  intro  μ  hf
  unfold f_X7_begin_36 at hf
  refine V_in (fun ho0 _ => ?_)
  refine r_aload_n C 0 rfl rfl dX7_begin_36 ?_
  refine r_iconst C dX7_begin_37 ?_
  refine r_putf C 5 (by decide) rfl (fx_m rfl) (by decide) (ly_5 cy _ _) 2 (ly_5 cy _ _) rfl (Nat.le_of_ble_eq_true rfl) (inR_lit rfl) rfl in_X7 tyX7 tyX7_ok nmX7 (by decide) tw_120 rfl rfl dX7_begin_38 (fun μ1 hμ3 => ?_)
  replace hf := of_lm hf hμ3
  refine V_in (fun ho2 _ => ?_)
  refine r_aload_n C 0 rfl rfl dX7_begin_41 ?_
  refine r_iconst C dX7_begin_42 ?_
  refine r_putf C 5 (by decide) rfl (fx_m rfl) (by decide) (ly_5 cy _ _) 3 (ly_5 cy _ _) rfl (Nat.le_of_ble_eq_true rfl) (inR_lit rfl) rfl in_X7 tyX7 tyX7_ok nmX7 (by decide) tw_122 rfl rfl dX7_begin_43 (fun μ4 hμ6 => ?_)
  replace hf := of_lm hf hμ6
  refine V_in (fun ho5 _ => ?_)
  refine r_aload_n C 0 rfl rfl dX7_begin_46 ?_
  refine r_iconst C dX7_begin_47 ?_
  refine r_putf C 5 (by decide) rfl (fx_m rfl) (by decide) (ly_5 cy _ _) 4 (ly_5 cy _ _) rfl (Nat.le_of_ble_eq_true rfl) (inR_lit rfl) rfl in_X7 tyX7 tyX7_ok nmX7 (by decide) tw_123 rfl rfl dX7_begin_48 (fun μ7 hμ9 => ?_)
  replace hf := of_lm hf hμ9
  refine V_in (fun ho8 _ => ?_)
  refine r_aload_n C 0 rfl rfl dX7_begin_51 ?_
  refine r_iconst C dX7_begin_52 ?_
  refine r_putf C 5 (by decide) rfl (fx_m rfl) (by decide) (ly_5 cy _ _) 5 (ly_5 cy _ _) rfl (Nat.le_of_ble_eq_true rfl) (inR_lit rfl) rfl in_X7 tyX7 tyX7_ok nmX7 (by decide) tw_124 rfl rfl dX7_begin_53 (fun μ10 hμ12 => ?_)
  replace hf := of_lm hf hμ12
  refine V_in (fun ho11 _ => ?_)
  obtain ⟨-, rfl⟩ := of_ret hf
  exact r_vret C rfl dX7_begin_56
set_option maxHeartbeats 4000000 in
set_option maxRecDepth 100000 in
theorem w_X7_begin_2 {p : Program} {l : Launch} {e : Env} {s : State} {m : MethodId} {args : Array Value} {below : List Frame} {meth : Method} {c : Code} {D : va_G} {cy : Nat → ClassId} {A : Nat → Prop} {ids : List Nat} {ad : Nat → Nat} {r : Int} {μ' : Mem} (C : Cx p s m args meth c D (tyl cy) A 2 cX7_begin yX7_begin.cls none) (hCF : CF ad A s) : ∀ n : Nat, ∀ (v1 : Int) (μ : Mem), inR v1 → f_X7_begin_2   n v1 μ = some (r, μ') → V p l e (rmk 2) s m args below meth c 0 0 (MQ below (aV D (tyl cy) (lay cy) ids ad A r μ') args s 0 0 A) D A (lay cy) ids ad 2 μ 2 [some (rf 5), some (nu v1)] [] := by
  intro n
  induction n with
  | zero =>
    intro v1 μ hv1 hf
    cases hf
  | succ n ih =>
    intro v1 μ hv1 hf
    rw [f_X7_begin_2_e] at hf
    refine V_in (fun ho0 _ => ?_)
    refine r_iload_n C 1 rfl rfl dX7_begin_2 ?_
    refine r_aload_n C 0 rfl rfl dX7_begin_3 ?_
    refine r_getf C 5 (by decide) rfl (fx_m rfl) (ly_5 cy _ _) rfl in_X7 1 (by decide) tw_118 (v := rf 18) rfl dX7_begin_4 ?_
    refine r_alen C 18 (by decide) rfl (fx_m rfl) 0 (cA := cy 0) (n := 9) (ly_18 cy _ _) rfl dX7_begin_7 ?_
    refine r_icmp_ge C 36 hv1 (inR_lit rfl) rfl dX7_begin_8 (fun c1 => ?_) (fun c1 => ?_)
    · replace hf := if_t hf c1
      exact V_lw (w_X7_begin_36 C hCF μ hf) (And.intro rfl trivial)
    · replace hf := if_f hf c1
      refine r_iload_n C 1 rfl rfl dX7_begin_11 ?_
      refine r_gsWN C hCF tw_430 dX7_begin_12 ?_
      refine r_clW C hCF dX7_begin_15 ?_
      refine r_icmp_ge C 36 hv1 (inR_lit rfl) rfl dX7_begin_16 (fun c2 => ?_) (fun c2 => ?_)
      · replace hf := if_t hf c2
        exact V_lw (w_X7_begin_36 C hCF μ hf) (And.intro rfl trivial)
      · replace hf := if_f hf c2
        refine r_aload_n C 0 rfl rfl dX7_begin_19 ?_
        refine r_getf C 5 (by decide) rfl (fx_m rfl) (ly_5 cy _ _) rfl in_X7 1 (by decide) tw_118 (v := rf 18) rfl dX7_begin_20 ?_
        refine r_iload_n C 1 rfl rfl dX7_begin_23 ?_
        refine r_gsWN C hCF tw_430 dX7_begin_24 ?_
        refine r_iload_n C 1 rfl rfl dX7_begin_27 ?_
        obtain ⟨g3, hf⟩ := of_g hf
        refine r_caW C hCF g3 dX7_begin_28 ?_
        refine r_iast C 18 (by decide) rfl (fx_m rfl) (by decide) 0 (cA := cy 0) (n := 9) (fun f => ly_18 cy _ f) rfl g3 (by decide) (kWithout_r _) dX7_begin_29 (fun μ4 hμ6 => ?_)
        replace hf := of_lm hf hμ6
        refine V_in (fun ho5 _ => ?_)
        refine r_iinc C rfl (lw := [some (rf 5), some (nu (v1 + 1))]) rfl (by decide) dX7_begin_30 ?_
        refine r_goto C 2 rfl dX7_begin_33 ?_
        obtain ⟨g7, hf⟩ := of_g hf
        exact V_lw (ih (v1 + 1) μ4 g7 hf) (And.intro rfl (And.intro rfl trivial))
set_option maxHeartbeats 4000000 in
set_option maxRecDepth 100000 in
theorem c_X7_begin {l : Launch} {D : va_G} {cy : Nat → ClassId} {ids : List Nat} {ad : Nat → Nat} {μ μ' : Mem} { r : Int}  (hf : f_X7_begin μ  = some (r, μ')) : KK aV l D (tyl cy) (lay cy) ids ad 2 yX7_begin cX7_begin 2 none [rf 5] μ r μ' := by
  refine KK.of (by decide +kernel) (Nat.le_of_ble_eq_true rfl) ?_
  intro p e s m args below meth c A C hCF
  unfold f_X7_begin at hf
  refine V_in (fun ho0 _ => ?_)
  refine r_iconst C dX7_begin_0 ?_
  refine r_istore_n C 1 (lw := [some (rf 5), some (nu 0)]) rfl rfl (by decide) dX7_begin_1 ?_
  exact V_lw (w_X7_begin_2 C hCF 64 0 μ (inR_lit rfl) hf) (And.intro rfl (And.intro rfl trivial))
set_option maxHeartbeats 4000000 in
set_option maxRecDepth 100000 in
theorem c_X7_fail {l : Launch} {D : va_G} {cy : Nat → ClassId} {ids : List Nat} {ad : Nat → Nat} {μ μ' : Mem} {a1 a2 r : Int} (h1 : inR a1) (h2 : inR a2) (hf : f_X7_fail μ a1 a2 = some (r, μ')) : KK aI l D (tyl cy) (lay cy) ids ad 2 yX7_fail cX7_fail 3 (some .boolean) [rf 5, nu a1, nu a2] μ r μ' := by
  refine KK.of (by decide +kernel) (Nat.le_of_ble_eq_true rfl) ?_
  intro p e s m args below meth c A C hCF
  unfold f_X7_fail at hf
  refine V_in (fun ho0 _ => ?_)
  refine r_aload_n C 0 rfl rfl dX7_fail_0 ?_
  refine r_iconst C dX7_fail_1 ?_
  refine r_iconst C dX7_fail_2 ?_
  refine r_iload_n C 1 rfl rfl dX7_fail_3 ?_
  refine r_imul C dX7_fail_4 ?_
  refine r_iadd C dX7_fail_5 ?_
  refine r_iload_n C 2 rfl rfl dX7_fail_6 ?_
  refine r_iadd C dX7_fail_7 ?_
  obtain ⟨g1, hf⟩ := of_g hf
  refine r_putf C 5 (by decide) rfl (fx_m rfl) (by decide) (ly_5 cy _ _) 5 (ly_5 cy _ _) rfl (Nat.le_of_ble_eq_true rfl) g1 rfl in_X7 tyX7 tyX7_ok nmX7 (by decide) tw_124 rfl rfl dX7_fail_8 (fun μ2 hμ4 => ?_)
  replace hf := of_lm hf hμ4
  refine V_in (fun ho3 _ => ?_)
  refine r_iconst C dX7_fail_11 ?_
  obtain ⟨rfl, rfl⟩ := of_ret hf
  exact r_zret C rfl (by decide) dX7_fail_12
set_option maxHeartbeats 4000000 in
set_option maxRecDepth 100000 in
theorem w_X7_skipBlanks_0 {p : Program} {l : Launch} {e : Env} {s : State} {m : MethodId} {args : Array Value} {below : List Frame} {meth : Method} {c : Code} {D : va_G} {cy : Nat → ClassId} {A : Nat → Prop} {ids : List Nat} {ad : Nat → Nat} {r : Int} {μ' : Mem} (C : Cx p s m args meth c D (tyl cy) A 1 cX7_skipBlanks yX7_skipBlanks.cls none) (hCF : CF ad A s) : ∀ n : Nat, ∀ (μ : Mem), f_X7_skipBlanks_0   n μ = some (r, μ') → V p l e (rmk 4) s m args below meth c 0 0 (MQ below (aV D (tyl cy) (lay cy) ids ad A r μ') args s 0 0 A) D A (lay cy) ids ad 1 μ 0 [some (rf 5)] [] := by
  intro n
  induction n with
  | zero =>
    intro  μ  hf
    cases hf
  | succ n ih =>
    intro  μ  hf
    rw [f_X7_skipBlanks_0_e] at hf
    refine V_in (fun ho0 _ => ?_)
    refine r_aload_n C 0 rfl rfl dX7_skipBlanks_0 ?_
    refine r_getf C 5 (by decide) rfl (fx_m rfl) (ly_5 cy _ _) rfl in_X7 4 (by decide) tw_123 (v := nu (μ 5 4)) rfl dX7_skipBlanks_1 ?_
    refine r_aload_n C 0 rfl rfl dX7_skipBlanks_4 ?_
    refine r_getf C 5 (by decide) rfl (fx_m rfl) (ly_5 cy _ _) rfl in_X7 0 (by decide) tw_117 (v := rf 3) rfl dX7_skipBlanks_5 ?_
    refine r_getfN C 3 (by decide) rfl (fx_m rfl) (ly_3 cy _ _) rfl in_X9 1 (by decide) tw_87 (v := nu (μ 3 1)) rfl dX7_skipBlanks_8 ?_
    refine r_icmp_ge C 43 (ho0 _ _) (ho0 _ _) rfl dX7_skipBlanks_11 (fun c1 => ?_) (fun c1 => ?_)
    · replace hf := if_t hf c1
      obtain ⟨-, rfl⟩ := of_ret hf
      exact r_vret C rfl dX7_skipBlanks_43
    · replace hf := if_f hf c1
      refine r_aload_n C 0 rfl rfl dX7_skipBlanks_14 ?_
      refine r_getf C 5 (by decide) rfl (fx_m rfl) (ly_5 cy _ _) rfl in_X7 0 (by decide) tw_117 (v := rf 3) rfl dX7_skipBlanks_15 ?_
      refine r_aload_n C 0 rfl rfl dX7_skipBlanks_18 ?_
      refine r_getf C 5 (by decide) rfl (fx_m rfl) (ly_5 cy _ _) rfl in_X7 4 (by decide) tw_123 (v := nu (μ 5 4)) rfl dX7_skipBlanks_19 ?_
      obtain ⟨r2, μ3, hc4, hf⟩ := of_bd hf
      refine r_callVI C hCF (As := [nu (μ 5 4)]) 3 (by decide) rfl (fx_m rfl) (ly_3 cy _ _) rfl (c_X9_byteAt (ho0 _ _) hc4) rfl (by decide) (by decide) ⟨Nat.le_refl 0, Nat.le_refl 0⟩ tw_435 tw_438 tw_4 tw_436 tw_437 1 (by decide) rfl (Nat.le_of_ble_eq_true rfl) dX7_skipBlanks_22 (fun hr6 => ?_)
      refine V_in (fun ho5 _ => ?_)
      refine r_bipush C dX7_skipBlanks_25 rfl ?_
      refine r_icmp_ne C 43 hr6 (inR_lit rfl) rfl dX7_skipBlanks_27 (fun c7 => ?_) (fun c7 => ?_)
      · replace hf := if_f hf c7
        obtain ⟨-, rfl⟩ := of_ret hf
        exact r_vret C rfl dX7_skipBlanks_43
      · replace hf := if_t hf c7
        refine r_aload_n C 0 rfl rfl dX7_skipBlanks_30 ?_
        refine r_dup C dX7_skipBlanks_31 ?_
        refine r_getf C 5 (by decide) rfl (fx_m rfl) (ly_5 cy _ _) rfl in_X7 4 (by decide) tw_123 (v := nu (μ3 5 4)) rfl dX7_skipBlanks_32 ?_
        refine r_iconst C dX7_skipBlanks_35 ?_
        refine r_iadd C dX7_skipBlanks_36 ?_
        obtain ⟨g8, hf⟩ := of_g hf
        refine r_putf C 5 (by decide) rfl (fx_m rfl) (by decide) (ly_5 cy _ _) 4 (ly_5 cy _ _) rfl (Nat.le_of_ble_eq_true rfl) g8 rfl in_X7 tyX7 tyX7_ok nmX7 (by decide) tw_123 rfl rfl dX7_skipBlanks_37 (fun μ9 hμ11 => ?_)
        replace hf := of_lm hf hμ11
        refine V_in (fun ho10 _ => ?_)
        refine r_goto C 0 rfl dX7_skipBlanks_40 ?_
        exact V_lw (ih μ9 hf) (And.intro rfl trivial)
set_option maxHeartbeats 4000000 in
set_option maxRecDepth 100000 in
theorem c_X7_skipBlanks {l : Launch} {D : va_G} {cy : Nat → ClassId} {ids : List Nat} {ad : Nat → Nat} {μ μ' : Mem} { r : Int}  (hf : f_X7_skipBlanks μ  = some (r, μ')) : KK aV l D (tyl cy) (lay cy) ids ad 4 yX7_skipBlanks cX7_skipBlanks 1 none [rf 5] μ r μ' := by
  refine KK.of (by decide +kernel) (Nat.le_of_ble_eq_true rfl) ?_
  intro p e s m args below meth c A C hCF
  unfold f_X7_skipBlanks at hf
  refine V_in (fun ho0 _ => ?_)
  exact V_lw (w_X7_skipBlanks_0 C hCF 256 μ hf) (And.intro rfl trivial)
set_option maxHeartbeats 4000000 in
set_option maxRecDepth 100000 in
theorem w_X7_readNumber_82 {p : Program} {l : Launch} {e : Env} {s : State} {m : MethodId} {args : Array Value} {below : List Frame} {meth : Method} {c : Code} {D : va_G} {cy : Nat → ClassId} {A : Nat → Prop} {ids : List Nat} {ad : Nat → Nat} {r : Int} {μ' : Mem} (C : Cx p s m args meth c D (tyl cy) A 4 cX7_readNumber yX7_readNumber.cls (some .boolean)) (hCF : CF ad A s) : ∀ (v1 v2 v3 : Int) (μ : Mem), inR v1 → inR v2 → inR v3 → f_X7_readNumber_82   v1 v2 v3 μ = some (r, μ') → V p l e (rmk 6) s m args below meth c 0 0 (MQ below (aI D (tyl cy) (lay cy) ids ad A r μ') args s 0 0 A) D A (lay cy) ids ad 4 μ 82 [some (rf 5), some (nu v1), some (nu v2), some (nu v3)] [] := by
  intro v1 v2 v3 μ hv1 hv2 hv3 hf
  unfold f_X7_readNumber_82 at hf
  refine V_in (fun ho0 _ => ?_)
  refine r_aload_n C 0 rfl rfl dX7_readNumber_82 ?_
  refine r_getf C 5 (by decide) rfl (fx_m rfl) (ly_5 cy _ _) rfl in_X7 4 (by decide) tw_123 (v := nu (μ 5 4)) rfl dX7_readNumber_83 ?_
  refine r_iload_n C 2 rfl rfl dX7_readNumber_86 ?_
  refine r_icmp_eq C 100 (ho0 _ _) hv2 rfl dX7_readNumber_87 (fun c1 => ?_) (fun c1 => ?_)
  · replace hf := if_t hf c1
    refine r_aload_n C 0 rfl rfl dX7_readNumber_100 ?_
    refine r_iload_n C 2 rfl rfl dX7_readNumber_101 ?_
    refine r_iconst C dX7_readNumber_102 ?_
    obtain ⟨r2, μ3, hc4, hf⟩ := of_bd hf
    refine r_callVI C hCF (As := [nu v2, nu 0]) 5 (by decide) rfl (fx_m rfl) (ly_5 cy _ _) rfl (c_X7_fail hv2 (inR_lit rfl) hc4) rfl (by decide) (by decide) ⟨Nat.le_refl 0, Nat.le_refl 0⟩ tw_518 tw_521 tw_6 tw_520 ts_6 2 (by decide) rfl (Nat.le_of_ble_eq_true rfl) dX7_readNumber_103 (fun hr6 => ?_)
    refine V_in (fun ho5 _ => ?_)
    obtain ⟨g7, hf⟩ := of_g hf
    obtain ⟨rfl, rfl⟩ := of_ret hf
    exact r_zret C rfl g7 dX7_readNumber_106
  · replace hf := if_f hf c1
    refine r_iload_n C 1 rfl rfl dX7_readNumber_90 ?_
    refine r_if_lt C 100 hv1 rfl dX7_readNumber_91 (fun c8 => ?_) (fun c8 => ?_)
    · replace hf := if_t hf c8
      refine r_aload_n C 0 rfl rfl dX7_readNumber_100 ?_
      refine r_iload_n C 2 rfl rfl dX7_readNumber_101 ?_
      refine r_iconst C dX7_readNumber_102 ?_
      obtain ⟨r9, μ10, hc11, hf⟩ := of_bd hf
      refine r_callVI C hCF (As := [nu v2, nu 0]) 5 (by decide) rfl (fx_m rfl) (ly_5 cy _ _) rfl (c_X7_fail hv2 (inR_lit rfl) hc11) rfl (by decide) (by decide) ⟨Nat.le_refl 0, Nat.le_refl 0⟩ tw_518 tw_521 tw_6 tw_520 ts_6 2 (by decide) rfl (Nat.le_of_ble_eq_true rfl) dX7_readNumber_103 (fun hr13 => ?_)
      refine V_in (fun ho12 _ => ?_)
      obtain ⟨g14, hf⟩ := of_g hf
      obtain ⟨rfl, rfl⟩ := of_ret hf
      exact r_zret C rfl g14 dX7_readNumber_106
    · replace hf := if_f hf c8
      refine r_iload_n C 1 rfl rfl dX7_readNumber_94 ?_
      refine r_bipush C dX7_readNumber_95 rfl ?_
      refine r_icmp_lt C 107 hv1 (inR_lit rfl) rfl dX7_readNumber_97 (fun c15 => ?_) (fun c15 => ?_)
      · replace hf := if_t hf c15
        refine r_aload_n C 0 rfl rfl dX7_readNumber_107 ?_
        refine r_getf C 5 (by decide) rfl (fx_m rfl) (ly_5 cy _ _) rfl in_X7 4 (by decide) tw_123 (v := nu (μ 5 4)) rfl dX7_readNumber_108 ?_
        refine r_iload_n C 2 rfl rfl dX7_readNumber_111 ?_
        refine r_isub C dX7_readNumber_112 ?_
        refine r_iconst C dX7_readNumber_113 ?_
        obtain ⟨g16, hf⟩ := of_g hf
        refine r_icmp_gt C 131 g16 (inR_lit rfl) rfl dX7_readNumber_114 (fun c17 => ?_) (fun c17 => ?_)
        · replace hf := if_t hf c17
          refine r_aload_n C 0 rfl rfl dX7_readNumber_131 ?_
          refine r_iload_n C 2 rfl rfl dX7_readNumber_132 ?_
          refine r_iconst C dX7_readNumber_133 ?_
          obtain ⟨r18, μ19, hc20, hf⟩ := of_bd hf
          refine r_callVI C hCF (As := [nu v2, nu 1]) 5 (by decide) rfl (fx_m rfl) (ly_5 cy _ _) rfl (c_X7_fail hv2 (inR_lit rfl) hc20) rfl (by decide) (by decide) ⟨Nat.le_refl 0, Nat.le_refl 0⟩ tw_518 tw_521 tw_6 tw_520 ts_6 2 (by decide) rfl (Nat.le_of_ble_eq_true rfl) dX7_readNumber_134 (fun hr22 => ?_)
          refine V_in (fun ho21 _ => ?_)
          obtain ⟨g23, hf⟩ := of_g hf
          obtain ⟨rfl, rfl⟩ := of_ret hf
          exact r_zret C rfl g23 dX7_readNumber_137
        · replace hf := if_f hf c17
          refine r_iload_n C 3 rfl rfl dX7_readNumber_117 ?_
          refine r_iconst C dX7_readNumber_118 ?_
          refine r_icmp_lt C 131 hv3 (inR_lit rfl) rfl dX7_readNumber_119 (fun c24 => ?_) (fun c24 => ?_)
          · replace hf := if_t hf c24
            refine r_aload_n C 0 rfl rfl dX7_readNumber_131 ?_
            refine r_iload_n C 2 rfl rfl dX7_readNumber_132 ?_
            refine r_iconst C dX7_readNumber_133 ?_
            obtain ⟨r25, μ26, hc27, hf⟩ := of_bd hf
            refine r_callVI C hCF (As := [nu v2, nu 1]) 5 (by decide) rfl (fx_m rfl) (ly_5 cy _ _) rfl (c_X7_fail hv2 (inR_lit rfl) hc27) rfl (by decide) (by decide) ⟨Nat.le_refl 0, Nat.le_refl 0⟩ tw_518 tw_521 tw_6 tw_520 ts_6 2 (by decide) rfl (Nat.le_of_ble_eq_true rfl) dX7_readNumber_134 (fun hr29 => ?_)
            refine V_in (fun ho28 _ => ?_)
            obtain ⟨g30, hf⟩ := of_g hf
            obtain ⟨rfl, rfl⟩ := of_ret hf
            exact r_zret C rfl g30 dX7_readNumber_137
          · replace hf := if_f hf c24
            refine r_iload_n C 3 rfl rfl dX7_readNumber_122 ?_
            refine r_gsG C hCF tw_532 dX7_readNumber_123 ?_
            refine r_iload_n C 1 rfl rfl dX7_readNumber_126 ?_
            obtain ⟨g31, hf⟩ := of_g hf
            refine r_caG C hCF g31 dX7_readNumber_127 ?_
            refine r_icmp_le C 138 hv3 (kGreatest_r _) rfl dX7_readNumber_128 (fun c32 => ?_) (fun c32 => ?_)
            · replace hf := if_t hf c32
              refine r_aload_n C 0 rfl rfl dX7_readNumber_138 ?_
              refine r_getf C 5 (by decide) rfl (fx_m rfl) (ly_5 cy _ _) rfl in_X7 1 (by decide) tw_118 (v := rf 18) rfl dX7_readNumber_139 ?_
              refine r_iload_n C 1 rfl rfl dX7_readNumber_142 ?_
              refine r_iload_n C 3 rfl rfl dX7_readNumber_143 ?_
              refine r_iast C 18 (by decide) rfl (fx_m rfl) (by decide) 0 (cA := cy 0) (n := 9) (fun f => ly_18 cy _ f) rfl g31 (by decide) hv3 dX7_readNumber_144 (fun μ33 hμ35 => ?_)
              replace hf := of_lm hf hμ35
              refine V_in (fun ho34 _ => ?_)
              refine r_iconst C dX7_readNumber_145 ?_
              obtain ⟨rfl, rfl⟩ := of_ret hf
              exact r_zret C rfl (by decide) dX7_readNumber_146
            · replace hf := if_f hf c32
              refine r_aload_n C 0 rfl rfl dX7_readNumber_131 ?_
              refine r_iload_n C 2 rfl rfl dX7_readNumber_132 ?_
              refine r_iconst C dX7_readNumber_133 ?_
              obtain ⟨r36, μ37, hc38, hf⟩ := of_bd hf
              refine r_callVI C hCF (As := [nu v2, nu 1]) 5 (by decide) rfl (fx_m rfl) (ly_5 cy _ _) rfl (c_X7_fail hv2 (inR_lit rfl) hc38) rfl (by decide) (by decide) ⟨Nat.le_refl 0, Nat.le_refl 0⟩ tw_518 tw_521 tw_6 tw_520 ts_6 2 (by decide) rfl (Nat.le_of_ble_eq_true rfl) dX7_readNumber_134 (fun hr40 => ?_)
              refine V_in (fun ho39 _ => ?_)
              obtain ⟨g41, hf⟩ := of_g hf
              obtain ⟨rfl, rfl⟩ := of_ret hf
              exact r_zret C rfl g41 dX7_readNumber_137
      · replace hf := if_f hf c15
        refine r_aload_n C 0 rfl rfl dX7_readNumber_100 ?_
        refine r_iload_n C 2 rfl rfl dX7_readNumber_101 ?_
        refine r_iconst C dX7_readNumber_102 ?_
        obtain ⟨r42, μ43, hc44, hf⟩ := of_bd hf
        refine r_callVI C hCF (As := [nu v2, nu 0]) 5 (by decide) rfl (fx_m rfl) (ly_5 cy _ _) rfl (c_X7_fail hv2 (inR_lit rfl) hc44) rfl (by decide) (by decide) ⟨Nat.le_refl 0, Nat.le_refl 0⟩ tw_518 tw_521 tw_6 tw_520 ts_6 2 (by decide) rfl (Nat.le_of_ble_eq_true rfl) dX7_readNumber_103 (fun hr46 => ?_)
        refine V_in (fun ho45 _ => ?_)
        obtain ⟨g47, hf⟩ := of_g hf
        obtain ⟨rfl, rfl⟩ := of_ret hf
        exact r_zret C rfl g47 dX7_readNumber_106
set_option maxHeartbeats 4000000 in
set_option maxRecDepth 100000 in
theorem w_X7_readNumber_11 {p : Program} {l : Launch} {e : Env} {s : State} {m : MethodId} {args : Array Value} {below : List Frame} {meth : Method} {c : Code} {D : va_G} {cy : Nat → ClassId} {A : Nat → Prop} {ids : List Nat} {ad : Nat → Nat} {r : Int} {μ' : Mem} (C : Cx p s m args meth c D (tyl cy) A 4 cX7_readNumber yX7_readNumber.cls (some .boolean)) (hCF : CF ad A s) : ∀ n : Nat, ∀ (v1 v2 v3 : Int) (μ : Mem), inR v1 → inR v2 → inR v3 → f_X7_readNumber_11   n v1 v2 v3 μ = some (r, μ') → V p l e (rmk 6) s m args below meth c 0 0 (MQ below (aI D (tyl cy) (lay cy) ids ad A r μ') args s 0 0 A) D A (lay cy) ids ad 4 μ 11 [some (rf 5), some (nu v1), some (nu v2), some (nu v3)] [] := by
  intro n
  induction n with
  | zero =>
    intro v1 v2 v3 μ hv1 hv2 hv3 hf
    cases hf
  | succ n ih =>
    intro v1 v2 v3 μ hv1 hv2 hv3 hf
    rw [f_X7_readNumber_11_e] at hf
    refine V_in (fun ho0 _ => ?_)
    refine r_aload_n C 0 rfl rfl dX7_readNumber_11 ?_
    refine r_getf C 5 (by decide) rfl (fx_m rfl) (ly_5 cy _ _) rfl in_X7 4 (by decide) tw_123 (v := nu (μ 5 4)) rfl dX7_readNumber_12 ?_
    refine r_aload_n C 0 rfl rfl dX7_readNumber_15 ?_
    refine r_getf C 5 (by decide) rfl (fx_m rfl) (ly_5 cy _ _) rfl in_X7 0 (by decide) tw_117 (v := rf 3) rfl dX7_readNumber_16 ?_
    refine r_getfN C 3 (by decide) rfl (fx_m rfl) (ly_3 cy _ _) rfl in_X9 1 (by decide) tw_87 (v := nu (μ 3 1)) rfl dX7_readNumber_19 ?_
    refine r_icmp_ge C 82 (ho0 _ _) (ho0 _ _) rfl dX7_readNumber_22 (fun c1 => ?_) (fun c1 => ?_)
    · replace hf := if_t hf c1
      exact V_lw (w_X7_readNumber_82 C hCF v1 v2 v3 μ hv1 hv2 hv3 hf) (And.intro rfl (And.intro rfl (And.intro rfl (And.intro rfl trivial))))
    · replace hf := if_f hf c1
      refine r_aload_n C 0 rfl rfl dX7_readNumber_25 ?_
      refine r_getf C 5 (by decide) rfl (fx_m rfl) (ly_5 cy _ _) rfl in_X7 0 (by decide) tw_117 (v := rf 3) rfl dX7_readNumber_26 ?_
      refine r_aload_n C 0 rfl rfl dX7_readNumber_29 ?_
      refine r_getf C 5 (by decide) rfl (fx_m rfl) (ly_5 cy _ _) rfl in_X7 4 (by decide) tw_123 (v := nu (μ 5 4)) rfl dX7_readNumber_30 ?_
      obtain ⟨r2, μ3, hc4, hf⟩ := of_bd hf
      refine r_callVI C hCF (As := [nu (μ 5 4)]) 3 (by decide) rfl (fx_m rfl) (ly_3 cy _ _) rfl (c_X9_isDigit (ho0 _ _) hc4) rfl (by decide) (by decide) ⟨Nat.le_refl 0, Nat.le_refl 0⟩ tw_528 tw_531 tw_4 tw_529 tw_530 1 (by decide) rfl (Nat.le_of_ble_eq_true rfl) dX7_readNumber_33 (fun hr6 => ?_)
      refine V_in (fun ho5 _ => ?_)
      refine r_if_eq C 82 hr6 rfl dX7_readNumber_36 (fun c7 => ?_) (fun c7 => ?_)
      · replace hf := if_t hf c7
        exact V_lw (w_X7_readNumber_82 C hCF v1 v2 v3 μ3 hv1 hv2 hv3 hf) (And.intro rfl (And.intro rfl (And.intro rfl (And.intro rfl trivial))))
      · replace hf := if_f hf c7
        refine r_aload_n C 0 rfl rfl dX7_readNumber_39 ?_
        refine r_getf C 5 (by decide) rfl (fx_m rfl) (ly_5 cy _ _) rfl in_X7 4 (by decide) tw_123 (v := nu (μ3 5 4)) rfl dX7_readNumber_40 ?_
        refine r_iload_n C 2 rfl rfl dX7_readNumber_43 ?_
        refine r_isub C dX7_readNumber_44 ?_
        refine r_iconst C dX7_readNumber_45 ?_
        obtain ⟨g8, hf⟩ := of_g hf
        refine r_icmp_ge C 69 g8 (inR_lit rfl) rfl dX7_readNumber_46 (fun c9 => ?_) (fun c9 => ?_)
        · replace hf := if_t hf c9
          refine r_aload_n C 0 rfl rfl dX7_readNumber_69 ?_
          refine r_dup C dX7_readNumber_70 ?_
          refine r_getf C 5 (by decide) rfl (fx_m rfl) (ly_5 cy _ _) rfl in_X7 4 (by decide) tw_123 (v := nu (μ3 5 4)) rfl dX7_readNumber_71 ?_
          refine r_iconst C dX7_readNumber_74 ?_
          refine r_iadd C dX7_readNumber_75 ?_
          obtain ⟨g10, hf⟩ := of_g hf
          refine r_putf C 5 (by decide) rfl (fx_m rfl) (by decide) (ly_5 cy _ _) 4 (ly_5 cy _ _) rfl (Nat.le_of_ble_eq_true rfl) g10 rfl in_X7 tyX7 tyX7_ok nmX7 (by decide) tw_123 rfl rfl dX7_readNumber_76 (fun μ11 hμ13 => ?_)
          replace hf := of_lm hf hμ13
          refine V_in (fun ho12 _ => ?_)
          refine r_goto C 11 rfl dX7_readNumber_79 ?_
          exact V_lw (ih v1 v2 v3 μ11 hv1 hv2 hv3 hf) (And.intro rfl (And.intro rfl (And.intro rfl (And.intro rfl trivial))))
        · replace hf := if_f hf c9
          refine r_iload_n C 3 rfl rfl dX7_readNumber_49 ?_
          refine r_bipush C dX7_readNumber_50 rfl ?_
          refine r_imul C dX7_readNumber_52 ?_
          refine r_aload_n C 0 rfl rfl dX7_readNumber_53 ?_
          refine r_getf C 5 (by decide) rfl (fx_m rfl) (ly_5 cy _ _) rfl in_X7 0 (by decide) tw_117 (v := rf 3) rfl dX7_readNumber_54 ?_
          refine r_aload_n C 0 rfl rfl dX7_readNumber_57 ?_
          refine r_getf C 5 (by decide) rfl (fx_m rfl) (ly_5 cy _ _) rfl in_X7 4 (by decide) tw_123 (v := nu (μ3 5 4)) rfl dX7_readNumber_58 ?_
          obtain ⟨r14, μ15, hc16, hf⟩ := of_bd hf
          refine r_callVI C hCF (As := [nu (μ3 5 4)]) 3 (by decide) rfl (fx_m rfl) (ly_3 cy _ _) rfl (c_X9_byteAt (ho5 _ _) hc16) rfl (by decide) (by decide) ⟨Nat.le_refl 0, Nat.le_refl 0⟩ tw_435 tw_438 tw_4 tw_436 tw_437 1 (by decide) rfl (Nat.le_of_ble_eq_true rfl) dX7_readNumber_61 (fun hr18 => ?_)
          refine V_in (fun ho17 _ => ?_)
          refine r_iadd C dX7_readNumber_64 ?_
          refine r_bipush C dX7_readNumber_65 rfl ?_
          refine r_isub C dX7_readNumber_67 ?_
          refine r_istore_n C 3 (lw := [some (rf 5), some (nu v1), some (nu v2), some (nu (((v3 * 10) + r14) - 48))]) rfl rfl (by decide) dX7_readNumber_68 ?_
          refine r_aload_n C 0 rfl rfl dX7_readNumber_69 ?_
          refine r_dup C dX7_readNumber_70 ?_
          refine r_getf C 5 (by decide) rfl (fx_m rfl) (ly_5 cy _ _) rfl in_X7 4 (by decide) tw_123 (v := nu (μ15 5 4)) rfl dX7_readNumber_71 ?_
          refine r_iconst C dX7_readNumber_74 ?_
          refine r_iadd C dX7_readNumber_75 ?_
          obtain ⟨g19, hf⟩ := of_g hf
          refine r_putf C 5 (by decide) rfl (fx_m rfl) (by decide) (ly_5 cy _ _) 4 (ly_5 cy _ _) rfl (Nat.le_of_ble_eq_true rfl) g19 rfl in_X7 tyX7 tyX7_ok nmX7 (by decide) tw_123 rfl rfl dX7_readNumber_76 (fun μ20 hμ22 => ?_)
          replace hf := of_lm hf hμ22
          refine V_in (fun ho21 _ => ?_)
          refine r_goto C 11 rfl dX7_readNumber_79 ?_
          obtain ⟨g23, hf⟩ := of_g hf
          exact V_lw (ih v1 v2 (((v3 * 10) + r14) - 48) μ20 hv1 hv2 g23 hf) (And.intro rfl (And.intro rfl (And.intro rfl (And.intro rfl trivial))))
set_option maxHeartbeats 4000000 in
set_option maxRecDepth 100000 in
theorem c_X7_readNumber {l : Launch} {D : va_G} {cy : Nat → ClassId} {ids : List Nat} {ad : Nat → Nat} {μ μ' : Mem} {a1 r : Int} (h1 : inR a1) (hf : f_X7_readNumber μ a1 = some (r, μ')) : KK aI l D (tyl cy) (lay cy) ids ad 6 yX7_readNumber cX7_readNumber 4 (some .boolean) [rf 5, nu a1] μ r μ' := by
  refine KK.of (by decide +kernel) (Nat.le_of_ble_eq_true rfl) ?_
  intro p e s m args below meth c A C hCF
  unfold f_X7_readNumber at hf
  refine V_in (fun ho0 _ => ?_)
  refine r_aload_n C 0 rfl rfl dX7_readNumber_0 ?_
  obtain ⟨r1, μ2, hc3, hf⟩ := of_bd hf
  refine r_callVV C hCF (As := []) 5 (by decide) rfl (fx_m rfl) (ly_5 cy _ _) rfl (c_X7_skipBlanks hc3) rfl (by decide) (by decide) ⟨Nat.le_refl 0, Nat.le_refl 0⟩ tw_431 tw_434 tw_6 tw_433 ts_2 0 (by decide) rfl (Nat.le_of_ble_eq_true rfl) dX7_readNumber_1 ?_
  refine V_in (fun ho4 _ => ?_)
  refine r_aload_n C 0 rfl rfl dX7_readNumber_4 ?_
  refine r_getf C 5 (by decide) rfl (fx_m rfl) (ly_5 cy _ _) rfl in_X7 4 (by decide) tw_123 (v := nu (μ2 5 4)) rfl dX7_readNumber_5 ?_
  refine r_istore_n C 2 (lw := [some (rf 5), some (nu a1), some (nu (μ2 5 4)), none]) rfl rfl (by decide) dX7_readNumber_8 ?_
  refine r_iconst C dX7_readNumber_9 ?_
  refine r_istore_n C 3 (lw := [some (rf 5), some (nu a1), some (nu (μ2 5 4)), some (nu 0)]) rfl rfl (by decide) dX7_readNumber_10 ?_
  exact V_lw (w_X7_readNumber_11 C hCF 256 a1 (μ2 5 4) 0 μ2 h1 (ho4 _ _) (inR_lit rfl) hf) (And.intro rfl (And.intro rfl (And.intro rfl (And.intro rfl trivial))))
set_option maxHeartbeats 4000000 in
set_option maxRecDepth 100000 in
theorem c_X7_wordOf {l : Launch} {D : va_G} {cy : Nat → ClassId} {ids : List Nat} {ad : Nat → Nat} {μ μ' : Mem} {a1 r : Int} (h1 : inR a1) (hf : f_X7_wordOf μ a1 = some (r, μ')) : KK aR l D (tyl cy) (lay cy) ids ad 2 yX7_wordOf cX7_wordOf 1 (some (.object "java/lang/String")) [nu a1] μ r μ' := by
  refine KK.of (by decide +kernel) (Nat.le_of_ble_eq_true rfl) ?_
  intro p e s m args below meth c A C hCF
  unfold f_X7_wordOf at hf
  refine V_in (fun ho0 _ => ?_)
  refine r_iload_n C 0 rfl rfl dX7_wordOf_0 ?_
  by_cases c1 : a1 = 0
  · replace hf := if_t hf c1
    refine r_swIn C 40 0 c1 (inR_lit rfl) (by decide) (by decide) rfl rfl dX7_wordOf_1 ?_
    refine r_ldcS C hCF 0 rfl 1000 rfl dX7_wordOf_40 ?_
    obtain ⟨rfl, rfl⟩ := of_ret hf
    exact r_aret C rfl (Or.inl ⟨_, rfl⟩) dX7_wordOf_42
  replace hf := if_f hf c1
  by_cases c2 : a1 = 1
  · replace hf := if_t hf c2
    refine r_swIn C 43 1 c2 (inR_lit rfl) (by decide) (by decide) rfl rfl dX7_wordOf_1 ?_
    refine r_ldcS C hCF 1 rfl 1001 rfl dX7_wordOf_43 ?_
    obtain ⟨rfl, rfl⟩ := of_ret hf
    exact r_aret C rfl (Or.inl ⟨_, rfl⟩) dX7_wordOf_45
  replace hf := if_f hf c2
  by_cases c3 : a1 = 2
  · replace hf := if_t hf c3
    refine r_swIn C 46 2 c3 (inR_lit rfl) (by decide) (by decide) rfl rfl dX7_wordOf_1 ?_
    refine r_ldcS C hCF 2 rfl 1002 rfl dX7_wordOf_46 ?_
    obtain ⟨rfl, rfl⟩ := of_ret hf
    exact r_aret C rfl (Or.inl ⟨_, rfl⟩) dX7_wordOf_48
  replace hf := if_f hf c3
  by_cases c4 : a1 = 3
  · replace hf := if_t hf c4
    refine r_swIn C 49 3 c4 (inR_lit rfl) (by decide) (by decide) rfl rfl dX7_wordOf_1 ?_
    refine r_ldcS C hCF 3 rfl 1003 rfl dX7_wordOf_49 ?_
    obtain ⟨rfl, rfl⟩ := of_ret hf
    exact r_aret C rfl (Or.inl ⟨_, rfl⟩) dX7_wordOf_51
  replace hf := if_f hf c4
  by_cases c5 : a1 = 4
  · replace hf := if_t hf c5
    refine r_swIn C 52 4 c5 (inR_lit rfl) (by decide) (by decide) rfl rfl dX7_wordOf_1 ?_
    refine r_ldcS C hCF 4 rfl 1004 rfl dX7_wordOf_52 ?_
    obtain ⟨rfl, rfl⟩ := of_ret hf
    exact r_aret C rfl (Or.inl ⟨_, rfl⟩) dX7_wordOf_54
  replace hf := if_f hf c5
  by_cases c6 : a1 = 5
  · replace hf := if_t hf c6
    refine r_swIn C 55 5 c6 (inR_lit rfl) (by decide) (by decide) rfl rfl dX7_wordOf_1 ?_
    refine r_ldcS C hCF 5 rfl 1005 rfl dX7_wordOf_55 ?_
    obtain ⟨rfl, rfl⟩ := of_ret hf
    exact r_aret C rfl (Or.inl ⟨_, rfl⟩) dX7_wordOf_57
  replace hf := if_f hf c6
  refine r_swOut C 58 h1 (by omega) rfl dX7_wordOf_1 ?_
  refine r_ldcS C hCF 6 rfl 1006 rfl dX7_wordOf_58 ?_
  obtain ⟨rfl, rfl⟩ := of_ret hf
  exact r_aret C rfl (Or.inl ⟨_, rfl⟩) dX7_wordOf_60
set_option maxHeartbeats 4000000 in
set_option maxRecDepth 100000 in
theorem w_X7_clauseAt_2 {p : Program} {l : Launch} {e : Env} {s : State} {m : MethodId} {args : Array Value} {below : List Frame} {meth : Method} {c : Code} {D : va_G} {cy : Nat → ClassId} {A : Nat → Prop} {ids : List Nat} {ad : Nat → Nat} {r : Int} {μ' : Mem} (C : Cx p s m args meth c D (tyl cy) A 3 cX7_clauseAt yX7_clauseAt.cls (some .int)) (hCF : CF ad A s) : ∀ n : Nat, ∀ (v1 v2 : Int) (μ : Mem), inR v1 → inR v2 → f_X7_clauseAt_2   n v1 v2 μ = some (r, μ') → V p l e (rmk 14) s m args below meth c 0 0 (MQ below (aI D (tyl cy) (lay cy) ids ad A r μ') args s 0 0 A) D A (lay cy) ids ad 3 μ 2 [some (rf 5), some (nu v1), some (nu v2)] [] := by
  intro n
  induction n with
  | zero =>
    intro v1 v2 μ hv1 hv2 hf
    cases hf
  | succ n ih =>
    intro v1 v2 μ hv1 hv2 hf
    rw [f_X7_clauseAt_2_e] at hf
    refine V_in (fun ho0 _ => ?_)
    refine r_iload_n C 2 rfl rfl dX7_clauseAt_2 ?_
    refine r_bipush C dX7_clauseAt_3 rfl ?_
    refine r_icmp_ge C 35 hv2 (inR_lit rfl) rfl dX7_clauseAt_5 (fun c1 => ?_) (fun c1 => ?_)
    · replace hf := if_t hf c1
      refine r_iconst C dX7_clauseAt_35 ?_
      obtain ⟨rfl, rfl⟩ := of_ret hf
      exact r_iret C rfl (inR_lit rfl) dX7_clauseAt_36
    · replace hf := if_f hf c1
      refine r_aload_n C 0 rfl rfl dX7_clauseAt_8 ?_
      refine r_getf C 5 (by decide) rfl (fx_m rfl) (ly_5 cy _ _) rfl in_X7 0 (by decide) tw_117 (v := rf 3) rfl dX7_clauseAt_9 ?_
      refine r_iload_n C 1 rfl rfl dX7_clauseAt_12 ?_
      refine r_aload_n C 0 rfl rfl dX7_clauseAt_13 ?_
      refine r_getf C 5 (by decide) rfl (fx_m rfl) (ly_5 cy _ _) rfl in_X7 4 (by decide) tw_123 (v := nu (μ 5 4)) rfl dX7_clauseAt_14 ?_
      refine r_iload_n C 2 rfl rfl dX7_clauseAt_17 ?_
      obtain ⟨r2, μ3, hc4, hf⟩ := of_bd hf
      refine r_callSR C hCF (As := [nu v2]) (c_X7_wordOf hv2 hc4) rfl (by decide) (by decide) ⟨Nat.le_refl 0, Nat.le_refl 0⟩ tw_456 tw_458 tw_6 tw_457 1 (by decide) rfl (Nat.le_of_ble_eq_true rfl) dX7_clauseAt_18 ?_
      refine V_in (fun ho5 _ => ?_)
      obtain ⟨r7, μ8, hc9, hf⟩ := of_bd hf
      refine r_callVI C hCF (As := [nu v1, nu (μ 5 4), rf r2]) 3 (by decide) rfl (fx_m rfl) (ly_3 cy _ _) rfl (c_X9_hasWord hv1 (ho0 _ _) hc9) rfl (by decide) (by decide) ⟨Nat.le_refl 0, Nat.le_refl 0⟩ tw_466 tw_469 tw_4 tw_467 tw_468 3 (by decide) rfl (Nat.le_of_ble_eq_true rfl) dX7_clauseAt_21 (fun hr11 => ?_)
      refine V_in (fun ho10 _ => ?_)
      refine r_if_eq C 29 hr11 rfl dX7_clauseAt_24 (fun c12 => ?_) (fun c12 => ?_)
      · replace hf := if_t hf c12
        refine r_iinc C rfl (lw := [some (rf 5), some (nu v1), some (nu (v2 + 1))]) rfl (by decide) dX7_clauseAt_29 ?_
        refine r_goto C 2 rfl dX7_clauseAt_32 ?_
        obtain ⟨g13, hf⟩ := of_g hf
        exact V_lw (ih v1 (v2 + 1) μ8 hv1 g13 hf) (And.intro rfl (And.intro rfl (And.intro rfl trivial)))
      · replace hf := if_f hf c12
        refine r_iload_n C 2 rfl rfl dX7_clauseAt_27 ?_
        obtain ⟨rfl, rfl⟩ := of_ret hf
        exact r_iret C rfl hv2 dX7_clauseAt_28
set_option maxHeartbeats 4000000 in
set_option maxRecDepth 100000 in
theorem c_X7_clauseAt {l : Launch} {D : va_G} {cy : Nat → ClassId} {ids : List Nat} {ad : Nat → Nat} {μ μ' : Mem} {a1 r : Int} (h1 : inR a1) (hf : f_X7_clauseAt μ a1 = some (r, μ')) : KK aI l D (tyl cy) (lay cy) ids ad 14 yX7_clauseAt cX7_clauseAt 3 (some .int) [rf 5, nu a1] μ r μ' := by
  refine KK.of (by decide +kernel) (Nat.le_of_ble_eq_true rfl) ?_
  intro p e s m args below meth c A C hCF
  unfold f_X7_clauseAt at hf
  refine V_in (fun ho0 _ => ?_)
  refine r_iconst C dX7_clauseAt_0 ?_
  refine r_istore_n C 2 (lw := [some (rf 5), some (nu a1), some (nu 0)]) rfl rfl (by decide) dX7_clauseAt_1 ?_
  exact V_lw (w_X7_clauseAt_2 C hCF 64 a1 0 μ h1 (inR_lit rfl) hf) (And.intro rfl (And.intro rfl (And.intro rfl trivial)))
set_option maxHeartbeats 4000000 in
set_option maxRecDepth 100000 in
theorem w_X7_readWord_50 {p : Program} {l : Launch} {e : Env} {s : State} {m : MethodId} {args : Array Value} {below : List Frame} {meth : Method} {c : Code} {D : va_G} {cy : Nat → ClassId} {A : Nat → Prop} {ids : List Nat} {ad : Nat → Nat} {r : Int} {μ' : Mem} (C : Cx p s m args meth c D (tyl cy) A 3 cX7_readWord yX7_readWord.cls (some .int)) (hCF : CF ad A s) : ∀ (v1 : Int) (μ : Mem), inR v1 → f_X7_readWord_50   v1 μ = some (r, μ') → V p l e (rmk 16) s m args below meth c 0 0 (MQ below (aI D (tyl cy) (lay cy) ids ad A r μ') args s 0 0 A) D A (lay cy) ids ad 3 μ 50 [some (rf 5), some (nu v1), none] [] := by
  intro v1 μ hv1 hf
  unfold f_X7_readWord_50 at hf
  refine V_in (fun ho0 _ => ?_)
  refine r_aload_n C 0 rfl rfl dX7_readWord_50 ?_
  refine r_iload_n C 1 rfl rfl dX7_readWord_51 ?_
  obtain ⟨r1, μ2, hc3, hf⟩ := of_bd hf
  refine r_callVI C hCF (As := [nu v1]) 5 (by decide) rfl (fx_m rfl) (ly_5 cy _ _) rfl (c_X7_clauseAt hv1 hc3) rfl (by decide) (by decide) ⟨Nat.le_refl 0, Nat.le_refl 0⟩ tw_452 tw_455 tw_6 tw_454 ts_5 1 (by decide) rfl (Nat.le_of_ble_eq_true rfl) dX7_readWord_52 (fun hr5 => ?_)
  refine V_in (fun ho4 _ => ?_)
  refine r_istore_n C 2 (lw := [some (rf 5), some (nu v1), some (nu r1)]) rfl rfl (by decide) dX7_readWord_55 ?_
  refine r_iload_n C 2 rfl rfl dX7_readWord_56 ?_
  refine r_iconst C dX7_readWord_57 ?_
  refine r_icmp_ne C 70 hr5 (inR_lit rfl) rfl dX7_readWord_58 (fun c6 => ?_) (fun c6 => ?_)
  · replace hf := if_f hf c6
    refine r_aload_n C 0 rfl rfl dX7_readWord_70 ?_
    refine r_getf C 5 (by decide) rfl (fx_m rfl) (ly_5 cy _ _) rfl in_X7 3 (by decide) tw_122 (v := nu (μ2 5 3)) rfl dX7_readWord_71 ?_
    refine r_iconst C dX7_readWord_74 ?_
    refine r_iload_n C 2 rfl rfl dX7_readWord_75 ?_
    refine r_ishl C dX7_readWord_76 ?_
    refine r_iand C dX7_readWord_77 ?_
    refine r_if_eq C 90 (zI_rng _) rfl dX7_readWord_78 (fun c7 => ?_) (fun c7 => ?_)
    · replace hf := if_t hf c7
      refine r_aload_n C 0 rfl rfl dX7_readWord_90 ?_
      refine r_dup C dX7_readWord_91 ?_
      refine r_getf C 5 (by decide) rfl (fx_m rfl) (ly_5 cy _ _) rfl in_X7 3 (by decide) tw_122 (v := nu (μ2 5 3)) rfl dX7_readWord_92 ?_
      refine r_iconst C dX7_readWord_95 ?_
      refine r_iload_n C 2 rfl rfl dX7_readWord_96 ?_
      refine r_ishl C dX7_readWord_97 ?_
      refine r_ior C dX7_readWord_98 ?_
      refine r_putf C 5 (by decide) rfl (fx_m rfl) (by decide) (ly_5 cy _ _) 3 (ly_5 cy _ _) rfl (Nat.le_of_ble_eq_true rfl) (zI_rng _) rfl in_X7 tyX7 tyX7_ok nmX7 (by decide) tw_122 rfl rfl dX7_readWord_99 (fun μ8 hμ10 => ?_)
      replace hf := of_lm hf hμ10
      refine V_in (fun ho9 _ => ?_)
      refine r_iload_n C 2 rfl rfl dX7_readWord_102 ?_
      obtain ⟨rfl, rfl⟩ := of_ret hf
      exact r_iret C rfl hr5 dX7_readWord_103
    · replace hf := if_f hf c7
      refine r_aload_n C 0 rfl rfl dX7_readWord_81 ?_
      refine r_iload_n C 1 rfl rfl dX7_readWord_82 ?_
      refine r_iconst C dX7_readWord_83 ?_
      obtain ⟨r11, μ12, hc13, hf⟩ := of_bd hf
      refine r_callVI C hCF (As := [nu v1, nu 2]) 5 (by decide) rfl (fx_m rfl) (ly_5 cy _ _) rfl (c_X7_fail hv1 (inR_lit rfl) hc13) rfl (by decide) (by decide) ⟨Nat.le_refl 0, Nat.le_refl 0⟩ tw_518 tw_521 tw_6 tw_520 ts_6 2 (by decide) rfl (Nat.le_of_ble_eq_true rfl) dX7_readWord_84 (fun hr15 => ?_)
      refine V_in (fun ho14 _ => ?_)
      refine r_pop C dX7_readWord_87 ?_
      refine r_iconst C dX7_readWord_88 ?_
      obtain ⟨rfl, rfl⟩ := of_ret hf
      exact r_iret C rfl (inR_lit rfl) dX7_readWord_89
  · replace hf := if_t hf c6
    refine r_aload_n C 0 rfl rfl dX7_readWord_61 ?_
    refine r_iload_n C 1 rfl rfl dX7_readWord_62 ?_
    refine r_iconst C dX7_readWord_63 ?_
    obtain ⟨r16, μ17, hc18, hf⟩ := of_bd hf
    refine r_callVI C hCF (As := [nu v1, nu 0]) 5 (by decide) rfl (fx_m rfl) (ly_5 cy _ _) rfl (c_X7_fail hv1 (inR_lit rfl) hc18) rfl (by decide) (by decide) ⟨Nat.le_refl 0, Nat.le_refl 0⟩ tw_518 tw_521 tw_6 tw_520 ts_6 2 (by decide) rfl (Nat.le_of_ble_eq_true rfl) dX7_readWord_64 (fun hr20 => ?_)
    refine V_in (fun ho19 _ => ?_)
    refine r_pop C dX7_readWord_67 ?_
    refine r_iconst C dX7_readWord_68 ?_
    obtain ⟨rfl, rfl⟩ := of_ret hf
    exact r_iret C rfl (inR_lit rfl) dX7_readWord_69
set_option maxHeartbeats 4000000 in
set_option maxRecDepth 100000 in
theorem w_X7_readWord_9 {p : Program} {l : Launch} {e : Env} {s : State} {m : MethodId} {args : Array Value} {below : List Frame} {meth : Method} {c : Code} {D : va_G} {cy : Nat → ClassId} {A : Nat → Prop} {ids : List Nat} {ad : Nat → Nat} {r : Int} {μ' : Mem} (C : Cx p s m args meth c D (tyl cy) A 3 cX7_readWord yX7_readWord.cls (some .int)) (hCF : CF ad A s) : ∀ n : Nat, ∀ (v1 : Int) (μ : Mem), inR v1 → f_X7_readWord_9   n v1 μ = some (r, μ') → V p l e (rmk 16) s m args below meth c 0 0 (MQ below (aI D (tyl cy) (lay cy) ids ad A r μ') args s 0 0 A) D A (lay cy) ids ad 3 μ 9 [some (rf 5), some (nu v1), none] [] := by
  intro n
  induction n with
  | zero =>
    intro v1 μ hv1 hf
    cases hf
  | succ n ih =>
    intro v1 μ hv1 hf
    rw [f_X7_readWord_9_e] at hf
    refine V_in (fun ho0 _ => ?_)
    refine r_aload_n C 0 rfl rfl dX7_readWord_9 ?_
    refine r_getf C 5 (by decide) rfl (fx_m rfl) (ly_5 cy _ _) rfl in_X7 4 (by decide) tw_123 (v := nu (μ 5 4)) rfl dX7_readWord_10 ?_
    refine r_aload_n C 0 rfl rfl dX7_readWord_13 ?_
    refine r_getf C 5 (by decide) rfl (fx_m rfl) (ly_5 cy _ _) rfl in_X7 0 (by decide) tw_117 (v := rf 3) rfl dX7_readWord_14 ?_
    refine r_getfN C 3 (by decide) rfl (fx_m rfl) (ly_3 cy _ _) rfl in_X9 1 (by decide) tw_87 (v := nu (μ 3 1)) rfl dX7_readWord_17 ?_
    refine r_icmp_ge C 50 (ho0 _ _) (ho0 _ _) rfl dX7_readWord_20 (fun c1 => ?_) (fun c1 => ?_)
    · replace hf := if_t hf c1
      exact V_lw (w_X7_readWord_50 C hCF v1 μ hv1 hf) (And.intro rfl (And.intro rfl trivial))
    · replace hf := if_f hf c1
      refine r_aload_n C 0 rfl rfl dX7_readWord_23 ?_
      refine r_getf C 5 (by decide) rfl (fx_m rfl) (ly_5 cy _ _) rfl in_X7 0 (by decide) tw_117 (v := rf 3) rfl dX7_readWord_24 ?_
      refine r_aload_n C 0 rfl rfl dX7_readWord_27 ?_
      refine r_getf C 5 (by decide) rfl (fx_m rfl) (ly_5 cy _ _) rfl in_X7 4 (by decide) tw_123 (v := nu (μ 5 4)) rfl dX7_readWord_28 ?_
      obtain ⟨r2, μ3, hc4, hf⟩ := of_bd hf
      refine r_callVI C hCF (As := [nu (μ 5 4)]) 3 (by decide) rfl (fx_m rfl) (ly_3 cy _ _) rfl (c_X9_isLetter (ho0 _ _) hc4) rfl (by decide) (by decide) ⟨Nat.le_refl 0, Nat.le_refl 0⟩ tw_447 tw_450 tw_4 tw_448 tw_449 1 (by decide) rfl (Nat.le_of_ble_eq_true rfl) dX7_readWord_31 (fun hr6 => ?_)
      refine V_in (fun ho5 _ => ?_)
      refine r_if_eq C 50 hr6 rfl dX7_readWord_34 (fun c7 => ?_) (fun c7 => ?_)
      · replace hf := if_t hf c7
        exact V_lw (w_X7_readWord_50 C hCF v1 μ3 hv1 hf) (And.intro rfl (And.intro rfl trivial))
      · replace hf := if_f hf c7
        refine r_aload_n C 0 rfl rfl dX7_readWord_37 ?_
        refine r_dup C dX7_readWord_38 ?_
        refine r_getf C 5 (by decide) rfl (fx_m rfl) (ly_5 cy _ _) rfl in_X7 4 (by decide) tw_123 (v := nu (μ3 5 4)) rfl dX7_readWord_39 ?_
        refine r_iconst C dX7_readWord_42 ?_
        refine r_iadd C dX7_readWord_43 ?_
        obtain ⟨g8, hf⟩ := of_g hf
        refine r_putf C 5 (by decide) rfl (fx_m rfl) (by decide) (ly_5 cy _ _) 4 (ly_5 cy _ _) rfl (Nat.le_of_ble_eq_true rfl) g8 rfl in_X7 tyX7 tyX7_ok nmX7 (by decide) tw_123 rfl rfl dX7_readWord_44 (fun μ9 hμ11 => ?_)
        replace hf := of_lm hf hμ11
        refine V_in (fun ho10 _ => ?_)
        refine r_goto C 9 rfl dX7_readWord_47 ?_
        exact V_lw (ih v1 μ9 hv1 hf) (And.intro rfl (And.intro rfl trivial))
set_option maxHeartbeats 4000000 in
set_option maxRecDepth 100000 in
theorem c_X7_readWord {l : Launch} {D : va_G} {cy : Nat → ClassId} {ids : List Nat} {ad : Nat → Nat} {μ μ' : Mem} { r : Int}  (hf : f_X7_readWord μ  = some (r, μ')) : KK aI l D (tyl cy) (lay cy) ids ad 16 yX7_readWord cX7_readWord 3 (some .int) [rf 5] μ r μ' := by
  refine KK.of (by decide +kernel) (Nat.le_of_ble_eq_true rfl) ?_
  intro p e s m args below meth c A C hCF
  unfold f_X7_readWord at hf
  refine V_in (fun ho0 _ => ?_)
  refine r_aload_n C 0 rfl rfl dX7_readWord_0 ?_
  obtain ⟨r1, μ2, hc3, hf⟩ := of_bd hf
  refine r_callVV C hCF (As := []) 5 (by decide) rfl (fx_m rfl) (ly_5 cy _ _) rfl (c_X7_skipBlanks hc3) rfl (by decide) (by decide) ⟨Nat.le_refl 0, Nat.le_refl 0⟩ tw_431 tw_434 tw_6 tw_433 ts_2 0 (by decide) rfl (Nat.le_of_ble_eq_true rfl) dX7_readWord_1 ?_
  refine V_in (fun ho4 _ => ?_)
  refine r_aload_n C 0 rfl rfl dX7_readWord_4 ?_
  refine r_getf C 5 (by decide) rfl (fx_m rfl) (ly_5 cy _ _) rfl in_X7 4 (by decide) tw_123 (v := nu (μ2 5 4)) rfl dX7_readWord_5 ?_
  refine r_istore_n C 1 (lw := [some (rf 5), some (nu (μ2 5 4)), none]) rfl rfl (by decide) dX7_readWord_8 ?_
  exact V_lw (w_X7_readWord_9 C hCF 256 (μ2 5 4) μ2 (ho4 _ _) hf) (And.intro rfl (And.intro rfl trivial))
set_option maxHeartbeats 4000000 in
set_option maxRecDepth 100000 in
theorem w_X7_readClause_18 {p : Program} {l : Launch} {e : Env} {s : State} {m : MethodId} {args : Array Value} {below : List Frame} {meth : Method} {c : Code} {D : va_G} {cy : Nat → ClassId} {A : Nat → Prop} {ids : List Nat} {ad : Nat → Nat} {r : Int} {μ' : Mem} (C : Cx p s m args meth c D (tyl cy) A 3 cX7_readClause yX7_readClause.cls (some .boolean)) (hCF : CF ad A s) : ∀ n : Nat, ∀ (v1 v2 : Int) (μ : Mem), inR v1 → inR v2 → f_X7_readClause_18   n v1 v2 μ = some (r, μ') → V p l e (rmk 18) s m args below meth c 0 0 (MQ below (aI D (tyl cy) (lay cy) ids ad A r μ') args s 0 0 A) D A (lay cy) ids ad 3 μ 18 [some (rf 5), some (nu v1), some (nu v2)] [] := by
  intro n
  induction n with
  | zero =>
    intro v1 v2 μ hv1 hv2 hf
    cases hf
  | succ n ih =>
    intro v1 v2 μ hv1 hv2 hf
    rw [f_X7_readClause_18_e] at hf
    refine V_in (fun ho0 _ => ?_)
    refine r_iload_n C 2 rfl rfl dX7_readClause_18 ?_
    refine r_gsF C hCF tw_522 dX7_readClause_19 ?_
    refine r_iload_n C 1 rfl rfl dX7_readClause_22 ?_
    refine r_iconst C dX7_readClause_23 ?_
    refine r_iadd C dX7_readClause_24 ?_
    obtain ⟨g1, hf⟩ := of_g hf
    refine r_caF C hCF g1 dX7_readClause_25 ?_
    refine r_icmp_ge C 45 hv2 (kFrom_r _) rfl dX7_readClause_26 (fun c2 => ?_) (fun c2 => ?_)
    · replace hf := if_t hf c2
      refine r_aload_n C 0 rfl rfl dX7_readClause_45 ?_
      refine r_dup C dX7_readClause_46 ?_
      refine r_getf C 5 (by decide) rfl (fx_m rfl) (ly_5 cy _ _) rfl in_X7 2 (by decide) tw_120 (v := nu (μ 5 2)) rfl dX7_readClause_47 ?_
      refine r_iconst C dX7_readClause_50 ?_
      refine r_iadd C dX7_readClause_51 ?_
      obtain ⟨g3, hf⟩ := of_g hf
      refine r_putf C 5 (by decide) rfl (fx_m rfl) (by decide) (ly_5 cy _ _) 2 (ly_5 cy _ _) rfl (Nat.le_of_ble_eq_true rfl) g3 rfl in_X7 tyX7 tyX7_ok nmX7 (by decide) tw_120 rfl rfl dX7_readClause_52 (fun μ4 hμ6 => ?_)
      replace hf := of_lm hf hμ6
      refine V_in (fun ho5 _ => ?_)
      refine r_aload_n C 0 rfl rfl dX7_readClause_55 ?_
      obtain ⟨r7, μ8, hc9, hf⟩ := of_bd hf
      refine r_callVV C hCF (As := []) 5 (by decide) rfl (fx_m rfl) (ly_5 cy _ _) rfl (c_X7_skipBlanks hc9) rfl (by decide) (by decide) ⟨Nat.le_refl 0, Nat.le_refl 0⟩ tw_431 tw_434 tw_6 tw_433 ts_2 0 (by decide) rfl (Nat.le_of_ble_eq_true rfl) dX7_readClause_56 ?_
      refine V_in (fun ho10 _ => ?_)
      refine r_aload_n C 0 rfl rfl dX7_readClause_59 ?_
      refine r_getf C 5 (by decide) rfl (fx_m rfl) (ly_5 cy _ _) rfl in_X7 4 (by decide) tw_123 (v := nu (μ8 5 4)) rfl dX7_readClause_60 ?_
      refine r_aload_n C 0 rfl rfl dX7_readClause_63 ?_
      refine r_getf C 5 (by decide) rfl (fx_m rfl) (ly_5 cy _ _) rfl in_X7 0 (by decide) tw_117 (v := rf 3) rfl dX7_readClause_64 ?_
      refine r_getfN C 3 (by decide) rfl (fx_m rfl) (ly_3 cy _ _) rfl in_X9 1 (by decide) tw_87 (v := nu (μ8 3 1)) rfl dX7_readClause_67 ?_
      refine r_icmp_lt C 75 (ho10 _ _) (ho10 _ _) rfl dX7_readClause_70 (fun c12 => ?_) (fun c12 => ?_)
      · replace hf := if_t hf c12
        refine r_aload_n C 0 rfl rfl dX7_readClause_75 ?_
        refine r_getf C 5 (by decide) rfl (fx_m rfl) (ly_5 cy _ _) rfl in_X7 0 (by decide) tw_117 (v := rf 3) rfl dX7_readClause_76 ?_
        refine r_aload_n C 0 rfl rfl dX7_readClause_79 ?_
        refine r_getf C 5 (by decide) rfl (fx_m rfl) (ly_5 cy _ _) rfl in_X7 4 (by decide) tw_123 (v := nu (μ8 5 4)) rfl dX7_readClause_80 ?_
        obtain ⟨r13, μ14, hc15, hf⟩ := of_bd hf
        refine r_callVI C hCF (As := [nu (μ8 5 4)]) 3 (by decide) rfl (fx_m rfl) (ly_3 cy _ _) rfl (c_X9_byteAt (ho10 _ _) hc15) rfl (by decide) (by decide) ⟨Nat.le_refl 0, Nat.le_refl 0⟩ tw_435 tw_438 tw_4 tw_436 tw_437 1 (by decide) rfl (Nat.le_of_ble_eq_true rfl) dX7_readClause_83 (fun hr17 => ?_)
        refine V_in (fun ho16 _ => ?_)
        refine r_bipush C dX7_readClause_86 rfl ?_
        refine r_icmp_eq C 101 hr17 (inR_lit rfl) rfl dX7_readClause_88 (fun c18 => ?_) (fun c18 => ?_)
        · replace hf := if_t hf c18
          refine r_aload_n C 0 rfl rfl dX7_readClause_101 ?_
          refine r_dup C dX7_readClause_102 ?_
          refine r_getf C 5 (by decide) rfl (fx_m rfl) (ly_5 cy _ _) rfl in_X7 4 (by decide) tw_123 (v := nu (μ14 5 4)) rfl dX7_readClause_103 ?_
          refine r_iconst C dX7_readClause_106 ?_
          refine r_iadd C dX7_readClause_107 ?_
          obtain ⟨g19, hf⟩ := of_g hf
          refine r_putf C 5 (by decide) rfl (fx_m rfl) (by decide) (ly_5 cy _ _) 4 (ly_5 cy _ _) rfl (Nat.le_of_ble_eq_true rfl) g19 rfl in_X7 tyX7 tyX7_ok nmX7 (by decide) tw_123 rfl rfl dX7_readClause_108 (fun μ20 hμ22 => ?_)
          replace hf := of_lm hf hμ22
          refine V_in (fun ho21 _ => ?_)
          refine r_iconst C dX7_readClause_111 ?_
          obtain ⟨rfl, rfl⟩ := of_ret hf
          exact r_zret C rfl (by decide) dX7_readClause_112
        · replace hf := if_f hf c18
          refine r_aload_n C 0 rfl rfl dX7_readClause_91 ?_
          refine r_aload_n C 0 rfl rfl dX7_readClause_92 ?_
          refine r_getf C 5 (by decide) rfl (fx_m rfl) (ly_5 cy _ _) rfl in_X7 4 (by decide) tw_123 (v := nu (μ14 5 4)) rfl dX7_readClause_93 ?_
          refine r_iconst C dX7_readClause_96 ?_
          obtain ⟨r23, μ24, hc25, hf⟩ := of_bd hf
          refine r_callVI C hCF (As := [nu (μ14 5 4), nu 0]) 5 (by decide) rfl (fx_m rfl) (ly_5 cy _ _) rfl (c_X7_fail (ho16 _ _) (inR_lit rfl) hc25) rfl (by decide) (by decide) ⟨Nat.le_refl 0, Nat.le_refl 0⟩ tw_518 tw_521 tw_6 tw_520 ts_6 2 (by decide) rfl (Nat.le_of_ble_eq_true rfl) dX7_readClause_97 (fun hr27 => ?_)
          refine V_in (fun ho26 _ => ?_)
          obtain ⟨g28, hf⟩ := of_g hf
          obtain ⟨rfl, rfl⟩ := of_ret hf
          exact r_zret C rfl g28 dX7_readClause_100
      · replace hf := if_f hf c12
        refine r_iconst C dX7_readClause_73 ?_
        obtain ⟨rfl, rfl⟩ := of_ret hf
        exact r_zret C rfl (by decide) dX7_readClause_74
    · replace hf := if_f hf c2
      refine r_aload_n C 0 rfl rfl dX7_readClause_29 ?_
      refine r_iload_n C 2 rfl rfl dX7_readClause_30 ?_
      obtain ⟨r29, μ30, hc31, hf⟩ := of_bd hf
      refine r_callVI C hCF (As := [nu v2]) 5 (by decide) rfl (fx_m rfl) (ly_5 cy _ _) rfl (c_X7_readNumber hv2 hc31) rfl (by decide) (by decide) ⟨Nat.le_refl 0, Nat.le_refl 0⟩ tw_524 tw_527 tw_6 tw_526 ts_7 1 (by decide) rfl (Nat.le_of_ble_eq_true rfl) dX7_readClause_31 (fun hr33 => ?_)
      refine V_in (fun ho32 _ => ?_)
      refine r_if_ne C 39 hr33 rfl dX7_readClause_34 (fun c34 => ?_) (fun c34 => ?_)
      · replace hf := if_f hf c34
        refine r_iinc C rfl (lw := [some (rf 5), some (nu v1), some (nu (v2 + 1))]) rfl (by decide) dX7_readClause_39 ?_
        refine r_goto C 18 rfl dX7_readClause_42 ?_
        obtain ⟨g35, hf⟩ := of_g hf
        exact V_lw (ih v1 (v2 + 1) μ30 hv1 g35 hf) (And.intro rfl (And.intro rfl (And.intro rfl trivial)))
      · replace hf := if_t hf c34
        refine r_iconst C dX7_readClause_37 ?_
        obtain ⟨rfl, rfl⟩ := of_ret hf
        exact r_zret C rfl (by decide) dX7_readClause_38
set_option maxHeartbeats 4000000 in
set_option maxRecDepth 100000 in
theorem c_X7_readClause {l : Launch} {D : va_G} {cy : Nat → ClassId} {ids : List Nat} {ad : Nat → Nat} {μ μ' : Mem} { r : Int}  (hf : f_X7_readClause μ  = some (r, μ')) : KK aI l D (tyl cy) (lay cy) ids ad 18 yX7_readClause cX7_readClause 3 (some .boolean) [rf 5] μ r μ' := by
  refine KK.of (by decide +kernel) (Nat.le_of_ble_eq_true rfl) ?_
  intro p e s m args below meth c A C hCF
  unfold f_X7_readClause at hf
  refine V_in (fun ho0 _ => ?_)
  refine r_aload_n C 0 rfl rfl dX7_readClause_0 ?_
  obtain ⟨r1, μ2, hc3, hf⟩ := of_bd hf
  refine r_callVI C hCF (As := []) 5 (by decide) rfl (fx_m rfl) (ly_5 cy _ _) rfl (c_X7_readWord hc3) rfl (by decide) (by decide) ⟨Nat.le_refl 0, Nat.le_refl 0⟩ tw_443 tw_446 tw_6 tw_445 ts_4 0 (by decide) rfl (Nat.le_of_ble_eq_true rfl) dX7_readClause_1 (fun hr5 => ?_)
  refine V_in (fun ho4 _ => ?_)
  refine r_istore_n C 1 (lw := [some (rf 5), some (nu r1), none]) rfl rfl (by decide) dX7_readClause_4 ?_
  refine r_iload_n C 1 rfl rfl dX7_readClause_5 ?_
  refine r_iconst C dX7_readClause_6 ?_
  refine r_icmp_ne C 12 hr5 (inR_lit rfl) rfl dX7_readClause_7 (fun c6 => ?_) (fun c6 => ?_)
  · replace hf := if_f hf c6
    refine r_gsF C hCF tw_522 dX7_readClause_12 ?_
    refine r_iload_n C 1 rfl rfl dX7_readClause_15 ?_
    obtain ⟨g7, hf⟩ := of_g hf
    refine r_caF C hCF g7 dX7_readClause_16 ?_
    refine r_istore_n C 2 (lw := [some (rf 5), some (nu r1), some (nu (kFrom.getD r1.toNat 0))]) rfl rfl (by decide) dX7_readClause_17 ?_
    exact V_lw (w_X7_readClause_18 C hCF 64 r1 (kFrom.getD r1.toNat 0) μ2 hr5 (kFrom_r _) hf) (And.intro rfl (And.intro rfl (And.intro rfl trivial)))
  · replace hf := if_t hf c6
    refine r_iconst C dX7_readClause_10 ?_
    obtain ⟨rfl, rfl⟩ := of_ret hf
    exact r_zret C rfl (by decide) dX7_readClause_11
set_option maxHeartbeats 4000000 in
set_option maxRecDepth 100000 in
theorem w_X7_readTape_30 {p : Program} {l : Launch} {e : Env} {s : State} {m : MethodId} {args : Array Value} {below : List Frame} {meth : Method} {c : Code} {D : va_G} {cy : Nat → ClassId} {A : Nat → Prop} {ids : List Nat} {ad : Nat → Nat} {r : Int} {μ' : Mem} (C : Cx p s m args meth c D (tyl cy) A 3 cX7_readTape yX7_readTape.cls (some .int)) (hCF : CF ad A s) : ∀ n : Nat, ∀ (v1 v2 : Int) (μ : Mem), inR v1 → inR v2 → f_X7_readTape_30   n v1 v2 μ = some (r, μ') → V p l e (rmk 20) s m args below meth c 0 0 (MQ below (aI D (tyl cy) (lay cy) ids ad A r μ') args s 0 0 A) D A (lay cy) ids ad 3 μ 30 [some (rf 5), some (nu v1), some (nu v2)] [] := by
  intro n
  induction n with
  | zero =>
    intro v1 v2 μ hv1 hv2 hf
    cases hf
  | succ n ih =>
    intro v1 v2 μ hv1 hv2 hf
    rw [f_X7_readTape_30_e] at hf
    refine V_in (fun ho0 _ => ?_)
    refine r_iload_n C 1 rfl rfl dX7_readTape_30 ?_
    refine r_if_eq C 51 hv1 rfl dX7_readTape_31 (fun c1 => ?_) (fun c1 => ?_)
    · replace hf := if_t hf c1
      refine r_aload_n C 0 rfl rfl dX7_readTape_51 ?_
      refine r_getf C 5 (by decide) rfl (fx_m rfl) (ly_5 cy _ _) rfl in_X7 5 (by decide) tw_124 (v := nu (μ 5 5)) rfl dX7_readTape_52 ?_
      obtain ⟨rfl, rfl⟩ := of_ret hf
      exact r_iret C rfl (ho0 _ _) dX7_readTape_55
    · replace hf := if_f hf c1
      refine r_iload_n C 2 rfl rfl dX7_readTape_34 ?_
      refine r_bipush C dX7_readTape_35 rfl ?_
      refine r_icmp_gt C 51 hv2 (inR_lit rfl) rfl dX7_readTape_37 (fun c2 => ?_) (fun c2 => ?_)
      · replace hf := if_t hf c2
        refine r_aload_n C 0 rfl rfl dX7_readTape_51 ?_
        refine r_getf C 5 (by decide) rfl (fx_m rfl) (ly_5 cy _ _) rfl in_X7 5 (by decide) tw_124 (v := nu (μ 5 5)) rfl dX7_readTape_52 ?_
        obtain ⟨rfl, rfl⟩ := of_ret hf
        exact r_iret C rfl (ho0 _ _) dX7_readTape_55
      · replace hf := if_f hf c2
        refine r_aload_n C 0 rfl rfl dX7_readTape_40 ?_
        obtain ⟨r3, μ4, hc5, hf⟩ := of_bd hf
        refine r_callVI C hCF (As := []) 5 (by decide) rfl (fx_m rfl) (ly_5 cy _ _) rfl (c_X7_readClause hc5) rfl (by decide) (by decide) ⟨Nat.le_refl 0, Nat.le_refl 0⟩ tw_439 tw_442 tw_6 tw_441 ts_3 0 (by decide) rfl (Nat.le_of_ble_eq_true rfl) dX7_readTape_41 (fun hr7 => ?_)
        refine V_in (fun ho6 _ => ?_)
        refine r_istore_n C 1 (lw := [some (rf 5), some (nu r3), some (nu v2)]) rfl rfl (by decide) dX7_readTape_44 ?_
        refine r_iinc C rfl (lw := [some (rf 5), some (nu r3), some (nu (v2 + 1))]) rfl (by decide) dX7_readTape_45 ?_
        refine r_goto C 30 rfl dX7_readTape_48 ?_
        obtain ⟨g8, hf⟩ := of_g hf
        exact V_lw (ih r3 (v2 + 1) μ4 hr7 g8 hf) (And.intro rfl (And.intro rfl (And.intro rfl trivial)))
set_option maxHeartbeats 4000000 in
set_option maxRecDepth 100000 in
theorem c_X7_readTape {l : Launch} {D : va_G} {cy : Nat → ClassId} {ids : List Nat} {ad : Nat → Nat} {μ μ' : Mem} { r : Int}  (hf : f_X7_readTape μ  = some (r, μ')) : KK aI l D (tyl cy) (lay cy) ids ad 20 yX7_readTape cX7_readTape 3 (some .int) [rf 5] μ r μ' := by
  refine KK.of (by decide +kernel) (Nat.le_of_ble_eq_true rfl) ?_
  intro p e s m args below meth c A C hCF
  unfold f_X7_readTape at hf
  refine V_in (fun ho0 _ => ?_)
  refine r_aload_n C 0 rfl rfl dX7_readTape_0 ?_
  obtain ⟨r1, μ2, hc3, hf⟩ := of_bd hf
  refine r_callVV C hCF (As := []) 5 (by decide) rfl (fx_m rfl) (ly_5 cy _ _) rfl (c_X7_begin hc3) rfl (by decide) (by decide) ⟨Nat.le_refl 0, Nat.le_refl 0⟩ tw_426 tw_429 tw_6 tw_428 ts_1 0 (by decide) rfl (Nat.le_of_ble_eq_true rfl) dX7_readTape_1 ?_
  refine V_in (fun ho4 _ => ?_)
  refine r_aload_n C 0 rfl rfl dX7_readTape_4 ?_
  obtain ⟨r6, μ7, hc8, hf⟩ := of_bd hf
  refine r_callVV C hCF (As := []) 5 (by decide) rfl (fx_m rfl) (ly_5 cy _ _) rfl (c_X7_skipBlanks hc8) rfl (by decide) (by decide) ⟨Nat.le_refl 0, Nat.le_refl 0⟩ tw_431 tw_434 tw_6 tw_433 ts_2 0 (by decide) rfl (Nat.le_of_ble_eq_true rfl) dX7_readTape_5 ?_
  refine V_in (fun ho9 _ => ?_)
  refine r_aload_n C 0 rfl rfl dX7_readTape_8 ?_
  refine r_getf C 5 (by decide) rfl (fx_m rfl) (ly_5 cy _ _) rfl in_X7 4 (by decide) tw_123 (v := nu (μ7 5 4)) rfl dX7_readTape_9 ?_
  refine r_aload_n C 0 rfl rfl dX7_readTape_12 ?_
  refine r_getf C 5 (by decide) rfl (fx_m rfl) (ly_5 cy _ _) rfl in_X7 0 (by decide) tw_117 (v := rf 3) rfl dX7_readTape_13 ?_
  refine r_getfN C 3 (by decide) rfl (fx_m rfl) (ly_3 cy _ _) rfl in_X9 1 (by decide) tw_87 (v := nu (μ7 3 1)) rfl dX7_readTape_16 ?_
  refine r_icmp_ge C 26 (ho9 _ _) (ho9 _ _) rfl dX7_readTape_19 (fun c11 => ?_) (fun c11 => ?_)
  · replace hf := if_t hf c11
    refine r_iconst C dX7_readTape_26 ?_
    refine r_istore_n C 1 (lw := [some (rf 5), some (nu 0), none]) rfl rfl (by decide) dX7_readTape_27 ?_
    refine r_iconst C dX7_readTape_28 ?_
    refine r_istore_n C 2 (lw := [some (rf 5), some (nu 0), some (nu 0)]) rfl rfl (by decide) dX7_readTape_29 ?_
    exact V_lw (w_X7_readTape_30 C hCF 64 0 0 μ7 (inR_lit rfl) (inR_lit rfl) hf) (And.intro rfl (And.intro rfl (And.intro rfl trivial)))
  · replace hf := if_f hf c11
    refine r_iconst C dX7_readTape_22 ?_
    refine r_goto C 27 rfl dX7_readTape_23 ?_
    refine r_istore_n C 1 (lw := [some (rf 5), some (nu 1), none]) rfl rfl (by decide) dX7_readTape_27 ?_
    refine r_iconst C dX7_readTape_28 ?_
    refine r_istore_n C 2 (lw := [some (rf 5), some (nu 1), some (nu 0)]) rfl rfl (by decide) dX7_readTape_29 ?_
    exact V_lw (w_X7_readTape_30 C hCF 64 1 0 μ7 (inR_lit rfl) (inR_lit rfl) hf) (And.intro rfl (And.intro rfl (And.intro rfl trivial)))
