set_option maxHeartbeats 4000000 in
set_option maxRecDepth 100000 in
theorem c_X3_stoneAt {l : Launch} {D : va_G} {cy : Nat → ClassId} {ids : List Nat} {ad : Nat → Nat} {μ μ' : Mem} {a1 r : Int} (h1 : inR a1) (hf : f_X3_stoneAt μ a1 = some (r, μ')) : KK aR l D (tyl cy) (lay cy) ids ad 2 yX3_stoneAt cX3_stoneAt 2 (some (.object "StoneWorks$Stone")) [rf 6, nu a1] μ r μ' := by
  refine KK.of (by decide +kernel) (Nat.le_of_ble_eq_true rfl) ?_
  intro p e s m args below meth c A C hCF
  unfold f_X3_stoneAt at hf
  refine V_in (fun ho0 _ => ?_)
  refine r_iload_n C 1 rfl rfl dX3_stoneAt_0 ?_
  refine r_if_lt C 12 h1 rfl dX3_stoneAt_1 (fun c1 => ?_) (fun c1 => ?_)
  · replace hf := if_t hf c1
    refine r_null C dX3_stoneAt_12 ?_
    refine r_goto C 22 rfl dX3_stoneAt_13 ?_
    obtain ⟨rfl, rfl⟩ := of_ret hf
    exact r_aret C rfl (Or.inl ⟨_, rfl⟩) dX3_stoneAt_22
  · replace hf := if_f hf c1
    refine r_iload_n C 1 rfl rfl dX3_stoneAt_4 ?_
    refine r_aload_n C 0 rfl rfl dX3_stoneAt_5 ?_
    refine r_getf C 6 (by decide) rfl (fx_m rfl) (ly_6 cy _ _) rfl in_X3 6 (by decide) tw_155 (v := nu (μ 6 6)) rfl dX3_stoneAt_6 ?_
    refine r_icmp_lt C 16 h1 (ho0 _ _) rfl dX3_stoneAt_9 (fun c2 => ?_) (fun c2 => ?_)
    · replace hf := if_t hf c2
      refine r_aload_n C 0 rfl rfl dX3_stoneAt_16 ?_
      refine r_getf C 6 (by decide) rfl (fx_m rfl) (ly_6 cy _ _) rfl in_X3 4 (by decide) tw_152 (v := rf 20) rfl dX3_stoneAt_17 ?_
      refine r_iload_n C 1 rfl rfl dX3_stoneAt_20 ?_
      obtain ⟨g3, hf⟩ := of_g hf
      refine r_aald C 20 (by decide) rfl (fx_m rfl) 4 (cA := cy 4) (n := 30) (ly_20 cy _ _) rfl rfl g3 (by decide) dX3_stoneAt_21 ?_
      obtain ⟨rfl, rfl⟩ := of_ret hf
      exact r_aret C rfl (Or.inl ⟨_, rfl⟩) dX3_stoneAt_22
    · replace hf := if_f hf c2
      refine r_null C dX3_stoneAt_12 ?_
      refine r_goto C 22 rfl dX3_stoneAt_13 ?_
      obtain ⟨rfl, rfl⟩ := of_ret hf
      exact r_aret C rfl (Or.inl ⟨_, rfl⟩) dX3_stoneAt_22
set_option maxHeartbeats 4000000 in
set_option maxRecDepth 100000 in
theorem c_X3_gangAt {l : Launch} {D : va_G} {cy : Nat → ClassId} {ids : List Nat} {ad : Nat → Nat} {μ μ' : Mem} {a1 r : Int} (h1 : inR a1) (hf : f_X3_gangAt μ a1 = some (r, μ')) : KK aR l D (tyl cy) (lay cy) ids ad 2 yX3_gangAt cX3_gangAt 2 (some (.object "StoneWorks$Gang")) [rf 6, nu a1] μ r μ' := by
  refine KK.of (by decide +kernel) (Nat.le_of_ble_eq_true rfl) ?_
  intro p e s m args below meth c A C hCF
  unfold f_X3_gangAt at hf
  refine V_in (fun ho0 _ => ?_)
  refine r_iload_n C 1 rfl rfl dX3_gangAt_0 ?_
  refine r_if_lt C 12 h1 rfl dX3_gangAt_1 (fun c1 => ?_) (fun c1 => ?_)
  · replace hf := if_t hf c1
    refine r_null C dX3_gangAt_12 ?_
    refine r_goto C 22 rfl dX3_gangAt_13 ?_
    obtain ⟨rfl, rfl⟩ := of_ret hf
    exact r_aret C rfl (Or.inl ⟨_, rfl⟩) dX3_gangAt_22
  · replace hf := if_f hf c1
    refine r_iload_n C 1 rfl rfl dX3_gangAt_4 ?_
    refine r_aload_n C 0 rfl rfl dX3_gangAt_5 ?_
    refine r_getf C 6 (by decide) rfl (fx_m rfl) (ly_6 cy _ _) rfl in_X3 5 (by decide) tw_153 (v := nu (μ 6 5)) rfl dX3_gangAt_6 ?_
    refine r_icmp_lt C 16 h1 (ho0 _ _) rfl dX3_gangAt_9 (fun c2 => ?_) (fun c2 => ?_)
    · replace hf := if_t hf c2
      refine r_aload_n C 0 rfl rfl dX3_gangAt_16 ?_
      refine r_getf C 6 (by decide) rfl (fx_m rfl) (ly_6 cy _ _) rfl in_X3 3 (by decide) tw_151 (v := rf 19) rfl dX3_gangAt_17 ?_
      refine r_iload_n C 1 rfl rfl dX3_gangAt_20 ?_
      obtain ⟨g3, hf⟩ := of_g hf
      refine r_aald C 19 (by decide) rfl (fx_m rfl) 3 (cA := cy 3) (n := 6) (ly_19 cy _ _) rfl rfl g3 (by decide) dX3_gangAt_21 ?_
      obtain ⟨rfl, rfl⟩ := of_ret hf
      exact r_aret C rfl (Or.inl ⟨_, rfl⟩) dX3_gangAt_22
    · replace hf := if_f hf c2
      refine r_null C dX3_gangAt_12 ?_
      refine r_goto C 22 rfl dX3_gangAt_13 ?_
      obtain ⟨rfl, rfl⟩ := of_ret hf
      exact r_aret C rfl (Or.inl ⟨_, rfl⟩) dX3_gangAt_22
set_option maxHeartbeats 4000000 in
set_option maxRecDepth 100000 in
theorem w_X3_stonesThatAre_4 {p : Program} {l : Launch} {e : Env} {s : State} {m : MethodId} {args : Array Value} {below : List Frame} {meth : Method} {c : Code} {D : va_G} {cy : Nat → ClassId} {A : Nat → Prop} {ids : List Nat} {ad : Nat → Nat} {r : Int} {μ' : Mem} (C : Cx p s m args meth c D (tyl cy) A 4 cX3_stonesThatAre yX3_stonesThatAre.cls (some .int)) (hCF : CF ad A s) : ∀ n : Nat, ∀ (v1 v2 v3 : Int) (μ : Mem), inR v1 → inR v2 → inR v3 → f_X3_stonesThatAre_4   n v1 v2 v3 μ = some (r, μ') → V p l e (rmk 2) s m args below meth c 0 0 (MQ below (aI D (tyl cy) (lay cy) ids ad A r μ') args s 0 0 A) D A (lay cy) ids ad 4 μ 4 [some (rf 6), some (nu v1), some (nu v2), some (nu v3)] [] := by
  intro n
  induction n with
  | zero =>
    intro v1 v2 v3 μ hv1 hv2 hv3 hf
    cases hf
  | succ n ih =>
    intro v1 v2 v3 μ hv1 hv2 hv3 hf
    rw [f_X3_stonesThatAre_4_e] at hf
    refine V_in (fun ho0 _ => ?_)
    refine r_iload_n C 3 rfl rfl dX3_stonesThatAre_4 ?_
    refine r_aload_n C 0 rfl rfl dX3_stonesThatAre_5 ?_
    refine r_getf C 6 (by decide) rfl (fx_m rfl) (ly_6 cy _ _) rfl in_X3 6 (by decide) tw_155 (v := nu (μ 6 6)) rfl dX3_stonesThatAre_6 ?_
    refine r_icmp_ge C 34 hv3 (ho0 _ _) rfl dX3_stonesThatAre_9 (fun c1 => ?_) (fun c1 => ?_)
    · replace hf := if_t hf c1
      refine r_iload_n C 2 rfl rfl dX3_stonesThatAre_34 ?_
      obtain ⟨rfl, rfl⟩ := of_ret hf
      exact r_iret C rfl hv2 dX3_stonesThatAre_35
    · replace hf := if_f hf c1
      refine r_aload_n C 0 rfl rfl dX3_stonesThatAre_12 ?_
      refine r_getf C 6 (by decide) rfl (fx_m rfl) (ly_6 cy _ _) rfl in_X3 4 (by decide) tw_152 (v := rf 20) rfl dX3_stonesThatAre_13 ?_
      refine r_iload_n C 3 rfl rfl dX3_stonesThatAre_16 ?_
      obtain ⟨g2, hf⟩ := of_g hf
      refine r_aald C 20 (by decide) rfl (fx_m rfl) 4 (cA := cy 4) (n := 30) (ly_20 cy _ _) rfl rfl g2 (by decide) dX3_stonesThatAre_17 ?_
      obtain ⟨g3, hf⟩ := of_g hf
      refine r_getfN C _ (st_0 g3) rfl (st_m g3) (ly_st cy _ g3 _) rfl in_X4 2 (by decide) tw_558 (v := nu (μ (μ 20 v3.toNat).toNat 2)) rfl dX3_stonesThatAre_18 ?_
      refine r_iload_n C 1 rfl rfl dX3_stonesThatAre_21 ?_
      refine r_icmp_ne C 28 (ho0 _ _) hv1 rfl dX3_stonesThatAre_22 (fun c4 => ?_) (fun c4 => ?_)
      · replace hf := if_f hf c4
        refine r_iinc C rfl (lw := [some (rf 6), some (nu v1), some (nu v2), some (nu (v3 + 1))]) rfl (by decide) dX3_stonesThatAre_28 ?_
        refine r_goto C 4 rfl dX3_stonesThatAre_31 ?_
        obtain ⟨g5, hf⟩ := of_g hf
        exact V_lw (ih v1 v2 (v3 + 1) μ hv1 hv2 g5 hf) (And.intro rfl (And.intro rfl (And.intro rfl (And.intro rfl trivial))))
      · replace hf := if_t hf c4
        refine r_iinc C rfl (lw := [some (rf 6), some (nu v1), some (nu (v2 + 1)), some (nu v3)]) rfl (by decide) dX3_stonesThatAre_25 ?_
        refine r_iinc C rfl (lw := [some (rf 6), some (nu v1), some (nu (v2 + 1)), some (nu (v3 + 1))]) rfl (by decide) dX3_stonesThatAre_28 ?_
        refine r_goto C 4 rfl dX3_stonesThatAre_31 ?_
        obtain ⟨g6, hf⟩ := of_g hf
        obtain ⟨g7, hf⟩ := of_g hf
        exact V_lw (ih v1 (v2 + 1) (v3 + 1) μ hv1 g6 g7 hf) (And.intro rfl (And.intro rfl (And.intro rfl (And.intro rfl trivial))))
set_option maxHeartbeats 4000000 in
set_option maxRecDepth 100000 in
theorem c_X3_stonesThatAre {l : Launch} {D : va_G} {cy : Nat → ClassId} {ids : List Nat} {ad : Nat → Nat} {μ μ' : Mem} {a1 r : Int} (h1 : inR a1) (hf : f_X3_stonesThatAre μ a1 = some (r, μ')) : KK aI l D (tyl cy) (lay cy) ids ad 2 yX3_stonesThatAre cX3_stonesThatAre 4 (some .int) [rf 6, nu a1] μ r μ' := by
  refine KK.of (by decide +kernel) (Nat.le_of_ble_eq_true rfl) ?_
  intro p e s m args below meth c A C hCF
  unfold f_X3_stonesThatAre at hf
  refine V_in (fun ho0 _ => ?_)
  refine r_iconst C dX3_stonesThatAre_0 ?_
  refine r_istore_n C 2 (lw := [some (rf 6), some (nu a1), some (nu 0), none]) rfl rfl (by decide) dX3_stonesThatAre_1 ?_
  refine r_iconst C dX3_stonesThatAre_2 ?_
  refine r_istore_n C 3 (lw := [some (rf 6), some (nu a1), some (nu 0), some (nu 0)]) rfl rfl (by decide) dX3_stonesThatAre_3 ?_
  exact V_lw (w_X3_stonesThatAre_4 C hCF 64 a1 0 0 μ h1 (inR_lit rfl) (inR_lit rfl) hf) (And.intro rfl (And.intro rfl (And.intro rfl (And.intro rfl trivial))))
set_option maxHeartbeats 4000000 in
set_option maxRecDepth 100000 in
theorem w_X3_stonesLaidBy_6 {p : Program} {l : Launch} {e : Env} {s : State} {m : MethodId} {args : Array Value} {below : List Frame} {meth : Method} {c : Code} {D : va_G} {cy : Nat → ClassId} {A : Nat → Prop} {ids : List Nat} {ad : Nat → Nat} {r : Int} {μ' : Mem} (C : Cx p s m args meth c D (tyl cy) A 7 cX3_stonesLaidBy yX3_stonesLaidBy.cls (some .int)) (hCF : CF ad A s) : ∀ n : Nat, ∀ (v1 v2 v3 v4 v5 : Int) (μ : Mem), inR v1 → inR v2 → inR v3 → inR v4 → inR v5 → f_X3_stonesLaidBy_6   n v1 v2 v3 v4 v5 μ = some (r, μ') → V p l e (rmk 2) s m args below meth c 0 0 (MQ below (aI D (tyl cy) (lay cy) ids ad A r μ') args s 0 0 A) D A (lay cy) ids ad 7 μ 6 [some (rf 6), some (nu v1), some (nu v2), some (nu v3), some (nu v4), some (nu v5), none] [] := by
  intro n
  induction n with
  | zero =>
    intro v1 v2 v3 v4 v5 μ hv1 hv2 hv3 hv4 hv5 hf
    cases hf
  | succ n ih =>
    intro v1 v2 v3 v4 v5 μ hv1 hv2 hv3 hv4 hv5 hf
    rw [f_X3_stonesLaidBy_6_e] at hf
    refine V_in (fun ho0 _ => ?_)
    refine r_iload C rfl dX3_stonesLaidBy_6 ?_
    refine r_aload_n C 0 rfl rfl dX3_stonesLaidBy_8 ?_
    refine r_getf C 6 (by decide) rfl (fx_m rfl) (ly_6 cy _ _) rfl in_X3 6 (by decide) tw_155 (v := nu (μ 6 6)) rfl dX3_stonesLaidBy_9 ?_
    refine r_icmp_ge C 60 hv5 (ho0 _ _) rfl dX3_stonesLaidBy_12 (fun c1 => ?_) (fun c1 => ?_)
    · replace hf := if_t hf c1
      refine r_iload C rfl dX3_stonesLaidBy_60 ?_
      obtain ⟨rfl, rfl⟩ := of_ret hf
      exact r_iret C rfl hv4 dX3_stonesLaidBy_62
    · replace hf := if_f hf c1
      refine r_aload_n C 0 rfl rfl dX3_stonesLaidBy_15 ?_
      refine r_getf C 6 (by decide) rfl (fx_m rfl) (ly_6 cy _ _) rfl in_X3 4 (by decide) tw_152 (v := rf 20) rfl dX3_stonesLaidBy_16 ?_
      refine r_iload C rfl dX3_stonesLaidBy_19 ?_
      obtain ⟨g2, hf⟩ := of_g hf
      refine r_aald C 20 (by decide) rfl (fx_m rfl) 4 (cA := cy 4) (n := 30) (ly_20 cy _ _) rfl rfl g2 (by decide) dX3_stonesLaidBy_21 ?_
      refine r_astore C (lw := [some (rf 6), some (nu v1), some (nu v2), some (nu v3), some (nu v4), some (nu v5), some (rf (μ 20 v5.toNat))]) rfl (by decide) dX3_stonesLaidBy_22 ?_
      refine r_aload C rfl dX3_stonesLaidBy_24 ?_
      obtain ⟨g3, hf⟩ := of_g hf
      refine r_getfN C _ (st_0 g3) rfl (st_m g3) (ly_st cy _ g3 _) rfl in_X4 4 (by decide) tw_565 (v := nu (μ (μ 20 v5.toNat).toNat 4)) rfl dX3_stonesLaidBy_26 ?_
      refine r_iload_n C 1 rfl rfl dX3_stonesLaidBy_29 ?_
      refine r_icmp_ne C 54 (ho0 _ _) hv1 rfl dX3_stonesLaidBy_30 (fun c4 => ?_) (fun c4 => ?_)
      · replace hf := if_f hf c4
        refine r_iinc C rfl (lw := [some (rf 6), some (nu v1), some (nu v2), some (nu v3), some (nu v4), some (nu (v5 + 1)), some (rf (μ 20 v5.toNat))]) rfl (by decide) dX3_stonesLaidBy_54 ?_
        refine r_goto C 6 rfl dX3_stonesLaidBy_57 ?_
        obtain ⟨g5, hf⟩ := of_g hf
        exact V_lw (ih v1 v2 v3 v4 (v5 + 1) μ hv1 hv2 hv3 hv4 g5 hf) (And.intro rfl (And.intro rfl (And.intro rfl (And.intro rfl (And.intro rfl (And.intro rfl trivial))))))
      · replace hf := if_t hf c4
        refine r_aload C rfl dX3_stonesLaidBy_33 ?_
        refine r_getfN C _ (st_0 g3) rfl (st_m g3) (ly_st cy _ g3 _) rfl in_X4 5 (by decide) tw_568 (v := nu (μ (μ 20 v5.toNat).toNat 5)) rfl dX3_stonesLaidBy_35 ?_
        refine r_iload_n C 2 rfl rfl dX3_stonesLaidBy_38 ?_
        refine r_icmp_lt C 54 (ho0 _ _) hv2 rfl dX3_stonesLaidBy_39 (fun c6 => ?_) (fun c6 => ?_)
        · replace hf := if_t hf c6
          refine r_iinc C rfl (lw := [some (rf 6), some (nu v1), some (nu v2), some (nu v3), some (nu v4), some (nu (v5 + 1)), some (rf (μ 20 v5.toNat))]) rfl (by decide) dX3_stonesLaidBy_54 ?_
          refine r_goto C 6 rfl dX3_stonesLaidBy_57 ?_
          obtain ⟨g7, hf⟩ := of_g hf
          exact V_lw (ih v1 v2 v3 v4 (v5 + 1) μ hv1 hv2 hv3 hv4 g7 hf) (And.intro rfl (And.intro rfl (And.intro rfl (And.intro rfl (And.intro rfl (And.intro rfl trivial))))))
        · replace hf := if_f hf c6
          refine r_aload C rfl dX3_stonesLaidBy_42 ?_
          refine r_getfN C _ (st_0 g3) rfl (st_m g3) (ly_st cy _ g3 _) rfl in_X4 5 (by decide) tw_568 (v := nu (μ (μ 20 v5.toNat).toNat 5)) rfl dX3_stonesLaidBy_44 ?_
          refine r_iload_n C 3 rfl rfl dX3_stonesLaidBy_47 ?_
          refine r_icmp_gt C 54 (ho0 _ _) hv3 rfl dX3_stonesLaidBy_48 (fun c8 => ?_) (fun c8 => ?_)
          · replace hf := if_t hf c8
            refine r_iinc C rfl (lw := [some (rf 6), some (nu v1), some (nu v2), some (nu v3), some (nu v4), some (nu (v5 + 1)), some (rf (μ 20 v5.toNat))]) rfl (by decide) dX3_stonesLaidBy_54 ?_
            refine r_goto C 6 rfl dX3_stonesLaidBy_57 ?_
            obtain ⟨g9, hf⟩ := of_g hf
            exact V_lw (ih v1 v2 v3 v4 (v5 + 1) μ hv1 hv2 hv3 hv4 g9 hf) (And.intro rfl (And.intro rfl (And.intro rfl (And.intro rfl (And.intro rfl (And.intro rfl trivial))))))
          · replace hf := if_f hf c8
            refine r_iinc C rfl (lw := [some (rf 6), some (nu v1), some (nu v2), some (nu v3), some (nu (v4 + 1)), some (nu v5), some (rf (μ 20 v5.toNat))]) rfl (by decide) dX3_stonesLaidBy_51 ?_
            refine r_iinc C rfl (lw := [some (rf 6), some (nu v1), some (nu v2), some (nu v3), some (nu (v4 + 1)), some (nu (v5 + 1)), some (rf (μ 20 v5.toNat))]) rfl (by decide) dX3_stonesLaidBy_54 ?_
            refine r_goto C 6 rfl dX3_stonesLaidBy_57 ?_
            obtain ⟨g10, hf⟩ := of_g hf
            obtain ⟨g11, hf⟩ := of_g hf
            exact V_lw (ih v1 v2 v3 (v4 + 1) (v5 + 1) μ hv1 hv2 hv3 g10 g11 hf) (And.intro rfl (And.intro rfl (And.intro rfl (And.intro rfl (And.intro rfl (And.intro rfl trivial))))))
set_option maxHeartbeats 4000000 in
set_option maxRecDepth 100000 in
theorem c_X3_stonesLaidBy {l : Launch} {D : va_G} {cy : Nat → ClassId} {ids : List Nat} {ad : Nat → Nat} {μ μ' : Mem} {a1 a2 a3 r : Int} (h1 : inR a1) (h2 : inR a2) (h3 : inR a3) (hf : f_X3_stonesLaidBy μ a1 a2 a3 = some (r, μ')) : KK aI l D (tyl cy) (lay cy) ids ad 2 yX3_stonesLaidBy cX3_stonesLaidBy 7 (some .int) [rf 6, nu a1, nu a2, nu a3] μ r μ' := by
  refine KK.of (by decide +kernel) (Nat.le_of_ble_eq_true rfl) ?_
  intro p e s m args below meth c A C hCF
  unfold f_X3_stonesLaidBy at hf
  refine V_in (fun ho0 _ => ?_)
  refine r_iconst C dX3_stonesLaidBy_0 ?_
  refine r_istore C (lw := [some (rf 6), some (nu a1), some (nu a2), some (nu a3), some (nu 0), none, none]) rfl (by decide) dX3_stonesLaidBy_1 ?_
  refine r_iconst C dX3_stonesLaidBy_3 ?_
  refine r_istore C (lw := [some (rf 6), some (nu a1), some (nu a2), some (nu a3), some (nu 0), some (nu 0), none]) rfl (by decide) dX3_stonesLaidBy_4 ?_
  exact V_lw (w_X3_stonesLaidBy_6 C hCF 64 a1 a2 a3 0 0 μ h1 h2 h3 (inR_lit rfl) (inR_lit rfl) hf) (And.intro rfl (And.intro rfl (And.intro rfl (And.intro rfl (And.intro rfl (And.intro rfl trivial))))))
set_option maxHeartbeats 4000000 in
set_option maxRecDepth 100000 in
theorem w_X3_waitsForLesser_2 {p : Program} {l : Launch} {e : Env} {s : State} {m : MethodId} {args : Array Value} {below : List Frame} {meth : Method} {c : Code} {D : va_G} {cy : Nat → ClassId} {A : Nat → Prop} {ids : List Nat} {ad : Nat → Nat} {r : Int} {μ' : Mem} (C : Cx p s m args meth c D (tyl cy) A 3 cX3_waitsForLesser yX3_waitsForLesser.cls (some .boolean)) (hCF : CF ad A s) : ∀ n : Nat, ∀ (v1 v2 : Int) (μ : Mem), inR v2 → f_X3_waitsForLesser_2   n v1 v2 μ = some (r, μ') → V p l e (rmk 4) s m args below meth c 0 0 (MQ below (aI D (tyl cy) (lay cy) ids ad A r μ') args s 0 0 A) D A (lay cy) ids ad 3 μ 2 [some (rf 6), some (rf v1), some (nu v2)] [] := by
  intro n
  induction n with
  | zero =>
    intro v1 v2 μ hv2 hf
    cases hf
  | succ n ih =>
    intro v1 v2 μ hv2 hf
    rw [f_X3_waitsForLesser_2_e] at hf
    refine V_in (fun ho0 _ => ?_)
    refine r_iload_n C 2 rfl rfl dX3_waitsForLesser_2 ?_
    refine r_aload_n C 0 rfl rfl dX3_waitsForLesser_3 ?_
    refine r_getf C 6 (by decide) rfl (fx_m rfl) (ly_6 cy _ _) rfl in_X3 6 (by decide) tw_155 (v := nu (μ 6 6)) rfl dX3_waitsForLesser_4 ?_
    refine r_icmp_ge C 46 hv2 (ho0 _ _) rfl dX3_waitsForLesser_7 (fun c1 => ?_) (fun c1 => ?_)
    · replace hf := if_t hf c1
      refine r_iconst C dX3_waitsForLesser_46 ?_
      obtain ⟨rfl, rfl⟩ := of_ret hf
      exact r_zret C rfl (by decide) dX3_waitsForLesser_47
    · replace hf := if_f hf c1
      refine r_aload_n C 0 rfl rfl dX3_waitsForLesser_10 ?_
      refine r_getf C 6 (by decide) rfl (fx_m rfl) (ly_6 cy _ _) rfl in_X3 4 (by decide) tw_152 (v := rf 20) rfl dX3_waitsForLesser_11 ?_
      refine r_iload_n C 2 rfl rfl dX3_waitsForLesser_14 ?_
      obtain ⟨g2, hf⟩ := of_g hf
      refine r_aald C 20 (by decide) rfl (fx_m rfl) 4 (cA := cy 4) (n := 30) (ly_20 cy _ _) rfl rfl g2 (by decide) dX3_waitsForLesser_15 ?_
      obtain ⟨g3, hf⟩ := of_g hf
      refine r_getfN C _ (st_0 g3) rfl (st_m g3) (ly_st cy _ g3 _) rfl in_X4 1 (by decide) tw_554 (v := nu (μ (μ 20 v2.toNat).toNat 1)) rfl dX3_waitsForLesser_16 ?_
      refine r_aload_n C 1 rfl rfl dX3_waitsForLesser_19 ?_
      obtain ⟨g4, hf⟩ := of_g hf
      refine r_getfN C _ (st_0 g4) rfl (st_m g4) (ly_st cy _ g4 _) rfl in_X4 1 (by decide) tw_554 (v := nu (μ v1.toNat 1)) rfl dX3_waitsForLesser_20 ?_
      refine r_icmp_ge C 40 (ho0 _ _) (ho0 _ _) rfl dX3_waitsForLesser_23 (fun c5 => ?_) (fun c5 => ?_)
      · replace hf := if_t hf c5
        refine r_iinc C rfl (lw := [some (rf 6), some (rf v1), some (nu (v2 + 1))]) rfl (by decide) dX3_waitsForLesser_40 ?_
        refine r_goto C 2 rfl dX3_waitsForLesser_43 ?_
        obtain ⟨g6, hf⟩ := of_g hf
        exact V_lw (ih v1 (v2 + 1) μ g6 hf) (And.intro rfl (And.intro rfl (And.intro rfl trivial)))
      · replace hf := if_f hf c5
        refine r_aload_n C 0 rfl rfl dX3_waitsForLesser_26 ?_
        refine r_getf C 6 (by decide) rfl (fx_m rfl) (ly_6 cy _ _) rfl in_X3 4 (by decide) tw_152 (v := rf 20) rfl dX3_waitsForLesser_27 ?_
        refine r_iload_n C 2 rfl rfl dX3_waitsForLesser_30 ?_
        refine r_aald C 20 (by decide) rfl (fx_m rfl) 4 (cA := cy 4) (n := 30) (ly_20 cy _ _) rfl rfl g2 (by decide) dX3_waitsForLesser_31 ?_
        obtain ⟨r7, μ8, hc9, hf⟩ := of_bd hf
        refine r_callVI C hCF (As := []) _ (st_0 g3) rfl (st_m g3) (ly_st cy _ g3 _) rfl (c_X4_isDone hc9) rfl (by decide) (by decide) ⟨Nat.le_refl 0, Nat.le_refl 0⟩ tw_599 tw_602 tw_17 tw_600 tw_601 0 (by decide) rfl (Nat.le_of_ble_eq_true rfl) dX3_waitsForLesser_32 (fun hr11 => ?_)
        refine V_in (fun ho10 _ => ?_)
        refine r_if_ne C 40 hr11 rfl dX3_waitsForLesser_35 (fun c12 => ?_) (fun c12 => ?_)
        · replace hf := if_f hf c12
          refine r_iinc C rfl (lw := [some (rf 6), some (rf v1), some (nu (v2 + 1))]) rfl (by decide) dX3_waitsForLesser_40 ?_
          refine r_goto C 2 rfl dX3_waitsForLesser_43 ?_
          obtain ⟨g13, hf⟩ := of_g hf
          exact V_lw (ih v1 (v2 + 1) μ8 g13 hf) (And.intro rfl (And.intro rfl (And.intro rfl trivial)))
        · replace hf := if_t hf c12
          refine r_iconst C dX3_waitsForLesser_38 ?_
          obtain ⟨rfl, rfl⟩ := of_ret hf
          exact r_zret C rfl (by decide) dX3_waitsForLesser_39
set_option maxHeartbeats 4000000 in
set_option maxRecDepth 100000 in
theorem c_X3_waitsForLesser {l : Launch} {D : va_G} {cy : Nat → ClassId} {ids : List Nat} {ad : Nat → Nat} {μ μ' : Mem} {a1 r : Int}  (hf : f_X3_waitsForLesser μ a1 = some (r, μ')) : KK aI l D (tyl cy) (lay cy) ids ad 4 yX3_waitsForLesser cX3_waitsForLesser 3 (some .boolean) [rf 6, rf a1] μ r μ' := by
  refine KK.of (by decide +kernel) (Nat.le_of_ble_eq_true rfl) ?_
  intro p e s m args below meth c A C hCF
  unfold f_X3_waitsForLesser at hf
  refine V_in (fun ho0 _ => ?_)
  refine r_iconst C dX3_waitsForLesser_0 ?_
  refine r_istore_n C 2 (lw := [some (rf 6), some (rf a1), some (nu 0)]) rfl rfl (by decide) dX3_waitsForLesser_1 ?_
  exact V_lw (w_X3_waitsForLesser_2 C hCF 64 a1 0 μ (inR_lit rfl) hf) (And.intro rfl (And.intro rfl (And.intro rfl trivial)))
set_option maxHeartbeats 4000000 in
set_option maxRecDepth 100000 in
theorem w_X3_hindranceOfNext_95 {p : Program} {l : Launch} {e : Env} {s : State} {m : MethodId} {args : Array Value} {below : List Frame} {meth : Method} {c : Code} {D : va_G} {cy : Nat → ClassId} {A : Nat → Prop} {ids : List Nat} {ad : Nat → Nat} {r : Int} {μ' : Mem} (C : Cx p s m args meth c D (tyl cy) A 4 cX3_hindranceOfNext yX3_hindranceOfNext.cls (some .int)) (hCF : CF ad A s) : ∀ (v2 : Int) (μ : Mem), f_X3_hindranceOfNext_95   v2 μ = some (r, μ') → V p l e (rmk 8) s m args below meth c 0 0 (MQ below (aI D (tyl cy) (lay cy) ids ad A r μ') args s 0 0 A) D A (lay cy) ids ad 4 μ 95 [some (rf 6), none, some (rf v2), none] [] := by
  intro v2 μ  hf
  unfold f_X3_hindranceOfNext_95 at hf
  refine V_in (fun ho0 _ => ?_)
  refine r_aload_n C 2 rfl rfl dX3_hindranceOfNext_95 ?_
  obtain ⟨g1, hf⟩ := of_g hf
  refine r_getfN C _ (st_0 g1) rfl (st_m g1) (ly_st cy _ g1 _) rfl in_X4 2 (by decide) tw_558 (v := nu (μ v2.toNat 2)) rfl dX3_hindranceOfNext_96 ?_
  refine r_iconst C dX3_hindranceOfNext_99 ?_
  refine r_icmp_ne C 116 (ho0 _ _) (inR_lit rfl) rfl dX3_hindranceOfNext_100 (fun c2 => ?_) (fun c2 => ?_)
  · replace hf := if_f hf c2
    refine r_iconst C dX3_hindranceOfNext_116 ?_
    obtain ⟨rfl, rfl⟩ := of_ret hf
    exact r_iret C rfl (inR_lit rfl) dX3_hindranceOfNext_117
  · replace hf := if_t hf c2
    refine r_aload_n C 0 rfl rfl dX3_hindranceOfNext_103 ?_
    refine r_aload_n C 2 rfl rfl dX3_hindranceOfNext_104 ?_
    obtain ⟨r3, μ4, hc5, hf⟩ := of_bd hf
    refine r_callVI C hCF (As := [rf v2]) 6 (by decide) rfl (fx_m rfl) (ly_6 cy _ _) rfl (c_X3_waitsForLesser hc5) rfl (by decide) (by decide) ⟨Nat.le_refl 0, Nat.le_refl 0⟩ tw_631 tw_634 tw_7 tw_633 ts_9 1 (by decide) rfl (Nat.le_of_ble_eq_true rfl) dX3_hindranceOfNext_105 (fun hr7 => ?_)
    refine V_in (fun ho6 _ => ?_)
    refine r_if_eq C 116 hr7 rfl dX3_hindranceOfNext_108 (fun c8 => ?_) (fun c8 => ?_)
    · replace hf := if_t hf c8
      refine r_iconst C dX3_hindranceOfNext_116 ?_
      obtain ⟨rfl, rfl⟩ := of_ret hf
      exact r_iret C rfl (inR_lit rfl) dX3_hindranceOfNext_117
    · replace hf := if_f hf c8
      refine r_bipush C dX3_hindranceOfNext_111 rfl ?_
      refine r_goto C 117 rfl dX3_hindranceOfNext_113 ?_
      obtain ⟨rfl, rfl⟩ := of_ret hf
      exact r_iret C rfl (inR_lit rfl) dX3_hindranceOfNext_117
set_option maxHeartbeats 4000000 in
set_option maxRecDepth 100000 in
theorem w_X3_hindranceOfNext_73 {p : Program} {l : Launch} {e : Env} {s : State} {m : MethodId} {args : Array Value} {below : List Frame} {meth : Method} {c : Code} {D : va_G} {cy : Nat → ClassId} {A : Nat → Prop} {ids : List Nat} {ad : Nat → Nat} {r : Int} {μ' : Mem} (C : Cx p s m args meth c D (tyl cy) A 4 cX3_hindranceOfNext yX3_hindranceOfNext.cls (some .int)) (hCF : CF ad A s) : ∀ (v2 : Int) (μ : Mem), f_X3_hindranceOfNext_73   v2 μ = some (r, μ') → V p l e (rmk 8) s m args below meth c 0 0 (MQ below (aI D (tyl cy) (lay cy) ids ad A r μ') args s 0 0 A) D A (lay cy) ids ad 4 μ 73 [some (rf 6), none, some (rf v2), none] [] := by
  intro v2 μ  hf
  unfold f_X3_hindranceOfNext_73 at hf
  refine V_in (fun ho0 _ => ?_)
  refine r_aload_n C 2 rfl rfl dX3_hindranceOfNext_73 ?_
  obtain ⟨g1, hf⟩ := of_g hf
  refine r_getfN C _ (st_0 g1) rfl (st_m g1) (ly_st cy _ g1 _) rfl in_X4 2 (by decide) tw_558 (v := nu (μ v2.toNat 2)) rfl dX3_hindranceOfNext_74 ?_
  refine r_iconst C dX3_hindranceOfNext_77 ?_
  refine r_icmp_ne C 95 (ho0 _ _) (inR_lit rfl) rfl dX3_hindranceOfNext_78 (fun c2 => ?_) (fun c2 => ?_)
  · replace hf := if_f hf c2
    exact V_lw (w_X3_hindranceOfNext_95 C hCF v2 μ hf) (And.intro rfl (And.intro rfl trivial))
  · replace hf := if_t hf c2
    refine r_aload_n C 0 rfl rfl dX3_hindranceOfNext_81 ?_
    refine r_getf C 6 (by decide) rfl (fx_m rfl) (ly_6 cy _ _) rfl in_X3 8 (by decide) tw_159 (v := nu (μ 6 8)) rfl dX3_hindranceOfNext_82 ?_
    refine r_aload_n C 2 rfl rfl dX3_hindranceOfNext_85 ?_
    refine r_getfN C _ (st_0 g1) rfl (st_m g1) (ly_st cy _ g1 _) rfl in_X4 1 (by decide) tw_554 (v := nu (μ v2.toNat 1)) rfl dX3_hindranceOfNext_86 ?_
    refine r_icmp_gt C 95 (ho0 _ _) (ho0 _ _) rfl dX3_hindranceOfNext_89 (fun c3 => ?_) (fun c3 => ?_)
    · replace hf := if_t hf c3
      exact V_lw (w_X3_hindranceOfNext_95 C hCF v2 μ hf) (And.intro rfl (And.intro rfl trivial))
    · replace hf := if_f hf c3
      refine r_bipush C dX3_hindranceOfNext_92 rfl ?_
      obtain ⟨rfl, rfl⟩ := of_ret hf
      exact r_iret C rfl (inR_lit rfl) dX3_hindranceOfNext_94
set_option maxHeartbeats 4000000 in
set_option maxRecDepth 100000 in
theorem c_X3_hindranceOfNext {l : Launch} {D : va_G} {cy : Nat → ClassId} {ids : List Nat} {ad : Nat → Nat} {μ μ' : Mem} {a1 a2 r : Int}  (hf : f_X3_hindranceOfNext μ a1 a2 = some (r, μ')) : KK aI l D (tyl cy) (lay cy) ids ad 8 yX3_hindranceOfNext cX3_hindranceOfNext 4 (some .int) [rf 6, rf a1, rf a2] μ r μ' := by
  refine KK.of (by decide +kernel) (Nat.le_of_ble_eq_true rfl) ?_
  intro p e s m args below meth c A C hCF
  unfold f_X3_hindranceOfNext at hf
  refine V_in (fun ho0 _ => ?_)
  refine r_aload_n C 0 rfl rfl dX3_hindranceOfNext_0 ?_
  refine r_getf C 6 (by decide) rfl (fx_m rfl) (ly_6 cy _ _) rfl in_X3 0 (by decide) tw_148 (v := rf 4) rfl dX3_hindranceOfNext_1 ?_
  refine r_aload_n C 2 rfl rfl dX3_hindranceOfNext_4 ?_
  refine r_aload_n C 0 rfl rfl dX3_hindranceOfNext_5 ?_
  refine r_getf C 6 (by decide) rfl (fx_m rfl) (ly_6 cy _ _) rfl in_X3 1 (by decide) tw_149 (v := rf 1) rfl dX3_hindranceOfNext_6 ?_
  refine r_iconst C dX3_hindranceOfNext_9 ?_
  refine r_aload_n C 0 rfl rfl dX3_hindranceOfNext_10 ?_
  refine r_getf C 6 (by decide) rfl (fx_m rfl) (ly_6 cy _ _) rfl in_X3 9 (by decide) tw_162 (v := nu (μ 6 9)) rfl dX3_hindranceOfNext_11 ?_
  obtain ⟨r1, μ2, hc3, hf⟩ := of_bd hf
  refine r_callVI C hCF (As := [nu 1, nu (μ 6 9)]) 1 (by decide) rfl (fx_m rfl) (ly_1 cy _ _) rfl (c_X2_isOn (inR_lit rfl) (ho0 _ _) hc3) rfl (by decide) (by decide) ⟨Nat.le_refl 0, Nat.le_refl 0⟩ tw_607 tw_610 tw_2 tw_608 tw_609 2 (by decide) rfl (Nat.le_of_ble_eq_true rfl) dX3_hindranceOfNext_14 (fun hr5 => ?_)
  refine V_in (fun ho4 _ => ?_)
  obtain ⟨r6, μ7, hc8, hf⟩ := of_bd hf
  refine r_callVI C hCF (As := [rf a2, nu r1]) 4 (by decide) rfl (fx_m rfl) (ly_4 cy _ _) rfl (c_X6_pullOf hr5 hc8) rfl (by decide) (by decide) ⟨Nat.le_refl 0, Nat.le_refl 0⟩ tw_611 tw_614 tw_5 tw_612 tw_613 2 (by decide) rfl (Nat.le_of_ble_eq_true rfl) dX3_hindranceOfNext_17 (fun hr10 => ?_)
  refine V_in (fun ho9 _ => ?_)
  refine r_istore_n C 3 (lw := [some (rf 6), some (rf a1), some (rf a2), some (nu r6)]) rfl rfl (by decide) dX3_hindranceOfNext_20 ?_
  refine r_iload_n C 3 rfl rfl dX3_hindranceOfNext_21 ?_
  refine r_aload_n C 0 rfl rfl dX3_hindranceOfNext_22 ?_
  refine r_getf C 6 (by decide) rfl (fx_m rfl) (ly_6 cy _ _) rfl in_X3 0 (by decide) tw_148 (v := rf 4) rfl dX3_hindranceOfNext_23 ?_
  refine r_bipush C dX3_hindranceOfNext_26 rfl ?_
  obtain ⟨r11, μ12, hc13, hf⟩ := of_bd hf
  refine r_callVI C hCF (As := [nu 7]) 4 (by decide) rfl (fx_m rfl) (ly_4 cy _ _) rfl (c_X6_numberAt (inR_lit rfl) hc13) rfl (by decide) (by decide) ⟨Nat.le_refl 0, Nat.le_refl 0⟩ tw_630 tw_626 tw_5 tw_624 tw_625 1 (by decide) rfl (Nat.le_of_ble_eq_true rfl) dX3_hindranceOfNext_28 (fun hr15 => ?_)
  refine V_in (fun ho14 _ => ?_)
  refine r_icmp_le C 36 hr10 hr15 rfl dX3_hindranceOfNext_31 (fun c16 => ?_) (fun c16 => ?_)
  · replace hf := if_t hf c16
    refine r_iload_n C 3 rfl rfl dX3_hindranceOfNext_36 ?_
    refine r_aload_n C 1 rfl rfl dX3_hindranceOfNext_37 ?_
    obtain ⟨g17, hf⟩ := of_g hf
    refine r_getfN C _ (ga_0 g17) rfl (ga_m g17) (ly_ga cy _ g17 _) rfl in_X0 0 (by decide) tw_341 (v := nu (μ12 a1.toNat 0)) rfl dX3_hindranceOfNext_38 ?_
    refine r_icmp_le C 47 hr10 (ho14 _ _) rfl dX3_hindranceOfNext_41 (fun c18 => ?_) (fun c18 => ?_)
    · replace hf := if_t hf c18
      refine r_aload_n C 2 rfl rfl dX3_hindranceOfNext_47 ?_
      obtain ⟨g19, hf⟩ := of_g hf
      refine r_getfN C _ (st_0 g19) rfl (st_m g19) (ly_st cy _ g19 _) rfl in_X4 2 (by decide) tw_558 (v := nu (μ12 a2.toNat 2)) rfl dX3_hindranceOfNext_48 ?_
      refine r_iconst C dX3_hindranceOfNext_51 ?_
      refine r_icmp_ne C 73 (ho14 _ _) (inR_lit rfl) rfl dX3_hindranceOfNext_52 (fun c20 => ?_) (fun c20 => ?_)
      · replace hf := if_f hf c20
        exact V_lw (w_X3_hindranceOfNext_73 C hCF a2 μ12 hf) (And.intro rfl (And.intro rfl trivial))
      · replace hf := if_t hf c20
        refine r_aload_n C 0 rfl rfl dX3_hindranceOfNext_55 ?_
        refine r_getf C 6 (by decide) rfl (fx_m rfl) (ly_6 cy _ _) rfl in_X3 1 (by decide) tw_149 (v := rf 1) rfl dX3_hindranceOfNext_56 ?_
        refine r_iconst C dX3_hindranceOfNext_59 ?_
        refine r_aload_n C 0 rfl rfl dX3_hindranceOfNext_60 ?_
        refine r_getf C 6 (by decide) rfl (fx_m rfl) (ly_6 cy _ _) rfl in_X3 9 (by decide) tw_162 (v := nu (μ12 6 9)) rfl dX3_hindranceOfNext_61 ?_
        obtain ⟨r21, μ22, hc23, hf⟩ := of_bd hf
        refine r_callVI C hCF (As := [nu 0, nu (μ12 6 9)]) 1 (by decide) rfl (fx_m rfl) (ly_1 cy _ _) rfl (c_X2_isOn (inR_lit rfl) (ho14 _ _) hc23) rfl (by decide) (by decide) ⟨Nat.le_refl 0, Nat.le_refl 0⟩ tw_607 tw_610 tw_2 tw_608 tw_609 2 (by decide) rfl (Nat.le_of_ble_eq_true rfl) dX3_hindranceOfNext_64 (fun hr25 => ?_)
        refine V_in (fun ho24 _ => ?_)
        refine r_if_ne C 73 hr25 rfl dX3_hindranceOfNext_67 (fun c26 => ?_) (fun c26 => ?_)
        · replace hf := if_f hf c26
          exact V_lw (w_X3_hindranceOfNext_73 C hCF a2 μ22 hf) (And.intro rfl (And.intro rfl trivial))
        · replace hf := if_t hf c26
          refine r_bipush C dX3_hindranceOfNext_70 rfl ?_
          obtain ⟨rfl, rfl⟩ := of_ret hf
          exact r_iret C rfl (inR_lit rfl) dX3_hindranceOfNext_72
    · replace hf := if_f hf c18
      refine r_bipush C dX3_hindranceOfNext_44 rfl ?_
      obtain ⟨rfl, rfl⟩ := of_ret hf
      exact r_iret C rfl (inR_lit rfl) dX3_hindranceOfNext_46
  · replace hf := if_f hf c16
    refine r_iconst C dX3_hindranceOfNext_34 ?_
    obtain ⟨rfl, rfl⟩ := of_ret hf
    exact r_iret C rfl (inR_lit rfl) dX3_hindranceOfNext_35
set_option maxHeartbeats 4000000 in
set_option maxRecDepth 100000 in
theorem w_X3_sendToStone_74 {p : Program} {l : Launch} {e : Env} {s : State} {m : MethodId} {args : Array Value} {below : List Frame} {meth : Method} {c : Code} {D : va_G} {cy : Nat → ClassId} {A : Nat → Prop} {ids : List Nat} {ad : Nat → Nat} {r : Int} {μ' : Mem} (C : Cx p s m args meth c D (tyl cy) A 6 cX3_sendToStone yX3_sendToStone.cls (some .int)) (hCF : CF ad A s) : ∀ (v1 v2 v3 v4 w0 : Int) (μ : Mem), inR v1 → inR v2 → inR w0 → f_X3_sendToStone_74   v1 v2 v3 v4 w0 μ = some (r, μ') → V p l e (rmk 10) s m args below meth c 0 0 (MQ below (aI D (tyl cy) (lay cy) ids ad A r μ') args s 0 0 A) D A (lay cy) ids ad 6 μ 74 [some (rf 6), some (nu v1), some (nu v2), some (rf v3), some (rf v4), none] [nu w0] := by
  intro v1 v2 v3 v4 w0 μ hv1 hv2 hw0 hf
  unfold f_X3_sendToStone_74 at hf
  refine V_in (fun ho0 _ => ?_)
  refine r_istore C (lw := [some (rf 6), some (nu v1), some (nu v2), some (rf v3), some (rf v4), some (nu w0)]) rfl (by decide) dX3_sendToStone_74 ?_
  refine r_iload C rfl dX3_sendToStone_76 ?_
  refine r_if_ne C 101 hw0 rfl dX3_sendToStone_78 (fun c1 => ?_) (fun c1 => ?_)
  · replace hf := if_f hf c1
    refine r_iload C rfl dX3_sendToStone_101 ?_
    obtain ⟨rfl, rfl⟩ := of_ret hf
    exact r_iret C rfl hw0 dX3_sendToStone_103
  · replace hf := if_t hf c1
    refine r_aload_n C 3 rfl rfl dX3_sendToStone_81 ?_
    refine r_iload_n C 2 rfl rfl dX3_sendToStone_82 ?_
    refine r_aload_n C 0 rfl rfl dX3_sendToStone_83 ?_
    refine r_getf C 6 (by decide) rfl (fx_m rfl) (ly_6 cy _ _) rfl in_X3 0 (by decide) tw_148 (v := rf 4) rfl dX3_sendToStone_84 ?_
    refine r_aload C rfl dX3_sendToStone_87 ?_
    obtain ⟨r2, μ3, hc4, hf⟩ := of_bd hf
    refine r_callVI C hCF (As := [rf v4]) 4 (by decide) rfl (fx_m rfl) (ly_4 cy _ _) rfl (c_X6_lengthOfNext hc4) rfl (by decide) (by decide) ⟨Nat.le_refl 0, Nat.le_refl 0⟩ tw_635 tw_638 tw_5 tw_636 tw_637 1 (by decide) rfl (Nat.le_of_ble_eq_true rfl) dX3_sendToStone_89 (fun hr6 => ?_)
    refine V_in (fun ho5 _ => ?_)
    obtain ⟨g7, hf⟩ := of_g hf
    obtain ⟨r8, μ9, hc10, hf⟩ := of_bd hf
    refine r_callVV C hCF (As := [nu v2, nu r2]) _ (ga_0 g7) rfl (ga_m g7) (ly_ga cy _ g7 _) rfl (c_X0_takeWork hv2 hr6 hc10) rfl (by decide) (by decide) ⟨Nat.le_refl 0, Nat.le_refl 0⟩ tw_639 tw_642 tw_11 tw_640 tw_641 2 (by decide) rfl (Nat.le_of_ble_eq_true rfl) dX3_sendToStone_92 ?_
    refine V_in (fun ho11 _ => ?_)
    refine r_aload C rfl dX3_sendToStone_95 ?_
    refine r_iload_n C 1 rfl rfl dX3_sendToStone_97 ?_
    obtain ⟨g13, hf⟩ := of_g hf
    refine r_putfN C _ (st_0 g13) rfl (st_m g13) (st_9 g13) (ly_st cy _ g13 _) 3 (ly_st cy _ g13 _) rfl (Nat.le_of_ble_eq_true rfl) hv1 rfl in_X4 tyX4 tyX4_ok nmX4 (by decide) tw_562 rfl rfl dX3_sendToStone_98 (fun μ14 hμ16 => ?_)
    replace hf := of_lm hf hμ16
    refine V_in (fun ho15 _ => ?_)
    refine r_iload C rfl dX3_sendToStone_101 ?_
    obtain ⟨rfl, rfl⟩ := of_ret hf
    exact r_iret C rfl hw0 dX3_sendToStone_103
set_option maxHeartbeats 4000000 in
set_option maxRecDepth 100000 in
theorem c_X3_sendToStone {l : Launch} {D : va_G} {cy : Nat → ClassId} {ids : List Nat} {ad : Nat → Nat} {μ μ' : Mem} {a1 a2 r : Int} (h1 : inR a1) (h2 : inR a2) (hf : f_X3_sendToStone μ a1 a2 = some (r, μ')) : KK aI l D (tyl cy) (lay cy) ids ad 10 yX3_sendToStone cX3_sendToStone 6 (some .int) [rf 6, nu a1, nu a2] μ r μ' := by
  refine KK.of (by decide +kernel) (Nat.le_of_ble_eq_true rfl) ?_
  intro p e s m args below meth c A C hCF
  unfold f_X3_sendToStone at hf
  refine V_in (fun ho0 _ => ?_)
  refine r_aload_n C 0 rfl rfl dX3_sendToStone_0 ?_
  refine r_iload_n C 1 rfl rfl dX3_sendToStone_1 ?_
  obtain ⟨r1, μ2, hc3, hf⟩ := of_bd hf
  refine r_callVR C hCF (As := [nu a1]) 6 (by decide) rfl (fx_m rfl) (ly_6 cy _ _) rfl (c_X3_gangAt h1 hc3) rfl (by decide) (by decide) ⟨Nat.le_refl 0, Nat.le_refl 0⟩ tw_591 tw_594 tw_7 tw_592 tw_593 1 (by decide) rfl (Nat.le_of_ble_eq_true rfl) dX3_sendToStone_2 ?_
  refine V_in (fun ho4 _ => ?_)
  refine r_astore_n C 3 (lw := [some (rf 6), some (nu a1), some (nu a2), some (rf r1), none, none]) rfl rfl (by decide) dX3_sendToStone_5 ?_
  refine r_aload_n C 0 rfl rfl dX3_sendToStone_6 ?_
  refine r_iload_n C 2 rfl rfl dX3_sendToStone_7 ?_
  obtain ⟨r6, μ7, hc8, hf⟩ := of_bd hf
  refine r_callVR C hCF (As := [nu a2]) 6 (by decide) rfl (fx_m rfl) (ly_6 cy _ _) rfl (c_X3_stoneAt h2 hc8) rfl (by decide) (by decide) ⟨Nat.le_refl 0, Nat.le_refl 0⟩ tw_595 tw_598 tw_7 tw_596 tw_597 1 (by decide) rfl (Nat.le_of_ble_eq_true rfl) dX3_sendToStone_8 ?_
  refine V_in (fun ho9 _ => ?_)
  refine r_astore C (lw := [some (rf 6), some (nu a1), some (nu a2), some (rf r1), some (rf r6), none]) rfl (by decide) dX3_sendToStone_11 ?_
  refine r_aload_n C 3 rfl rfl dX3_sendToStone_13 ?_
  refine r_ifnull C 32 rfl dX3_sendToStone_14 (fun c11 => ?_) (fun c11 => ?_)
  · replace hf := if_t hf c11
    refine r_iconst C dX3_sendToStone_32 ?_
    obtain ⟨rfl, rfl⟩ := of_ret hf
    exact r_iret C rfl (inR_lit rfl) dX3_sendToStone_33
  · replace hf := if_f hf c11
    refine r_aload C rfl dX3_sendToStone_17 ?_
    refine r_ifnull C 32 rfl dX3_sendToStone_19 (fun c12 => ?_) (fun c12 => ?_)
    · replace hf := if_t hf c12
      refine r_iconst C dX3_sendToStone_32 ?_
      obtain ⟨rfl, rfl⟩ := of_ret hf
      exact r_iret C rfl (inR_lit rfl) dX3_sendToStone_33
    · replace hf := if_f hf c12
      refine r_aload_n C 0 rfl rfl dX3_sendToStone_22 ?_
      refine r_getf C 6 (by decide) rfl (fx_m rfl) (ly_6 cy _ _) rfl in_X3 9 (by decide) tw_162 (v := nu (μ7 6 9)) rfl dX3_sendToStone_23 ?_
      refine r_sipush C dX3_sendToStone_26 rfl ?_
      refine r_icmp_le C 34 (ho9 _ _) (inR_lit rfl) rfl dX3_sendToStone_29 (fun c13 => ?_) (fun c13 => ?_)
      · replace hf := if_t hf c13
        refine r_aload_n C 3 rfl rfl dX3_sendToStone_34 ?_
        obtain ⟨g14, hf⟩ := of_g hf
        refine r_getfN C _ (ga_0 g14) rfl (ga_m g14) (ly_ga cy _ g14 _) rfl in_X0 1 (by decide) tw_345 (v := nu (μ7 r1.toNat 1)) rfl dX3_sendToStone_35 ?_
        refine r_iconst C dX3_sendToStone_38 ?_
        refine r_icmp_eq C 44 (ho9 _ _) (inR_lit rfl) rfl dX3_sendToStone_39 (fun c15 => ?_) (fun c15 => ?_)
        · replace hf := if_t hf c15
          refine r_aload C rfl dX3_sendToStone_44 ?_
          obtain ⟨g16, hf⟩ := of_g hf
          refine r_getfN C _ (st_0 g16) rfl (st_m g16) (ly_st cy _ g16 _) rfl in_X4 3 (by decide) tw_562 (v := nu (μ7 r6.toNat 3)) rfl dX3_sendToStone_46 ?_
          refine r_iconst C dX3_sendToStone_49 ?_
          refine r_icmp_eq C 55 (ho9 _ _) (inR_lit rfl) rfl dX3_sendToStone_50 (fun c17 => ?_) (fun c17 => ?_)
          · replace hf := if_t hf c17
            refine r_aload C rfl dX3_sendToStone_55 ?_
            obtain ⟨r18, μ19, hc20, hf⟩ := of_bd hf
            refine r_callVI C hCF (As := []) _ (st_0 g16) rfl (st_m g16) (ly_st cy _ g16 _) rfl (c_X4_isDone hc20) rfl (by decide) (by decide) ⟨Nat.le_refl 0, Nat.le_refl 0⟩ tw_599 tw_602 tw_17 tw_600 tw_601 0 (by decide) rfl (Nat.le_of_ble_eq_true rfl) dX3_sendToStone_57 (fun hr22 => ?_)
            refine V_in (fun ho21 _ => ?_)
            refine r_if_eq C 67 hr22 rfl dX3_sendToStone_60 (fun c23 => ?_) (fun c23 => ?_)
            · replace hf := if_t hf c23
              refine r_aload_n C 0 rfl rfl dX3_sendToStone_67 ?_
              refine r_aload_n C 3 rfl rfl dX3_sendToStone_68 ?_
              refine r_aload C rfl dX3_sendToStone_69 ?_
              obtain ⟨r24, μ25, hc26, hf⟩ := of_bd hf
              refine r_callVI C hCF (As := [rf r1, rf r6]) 6 (by decide) rfl (fx_m rfl) (ly_6 cy _ _) rfl (c_X3_hindranceOfNext hc26) rfl (by decide) (by decide) ⟨Nat.le_refl 0, Nat.le_refl 0⟩ tw_603 tw_606 tw_7 tw_605 ts_8 2 (by decide) rfl (Nat.le_of_ble_eq_true rfl) dX3_sendToStone_71 (fun hr28 => ?_)
              refine V_in (fun ho27 _ => ?_)
              exact V_lw (w_X3_sendToStone_74 C hCF a1 a2 r1 r6 r24 μ25 h1 h2 hr28 hf) (And.intro rfl (And.intro rfl (And.intro rfl (And.intro rfl (And.intro rfl trivial)))))
            · replace hf := if_f hf c23
              refine r_iconst C dX3_sendToStone_63 ?_
              refine r_goto C 74 rfl dX3_sendToStone_64 ?_
              exact V_lw (w_X3_sendToStone_74 C hCF a1 a2 r1 r6 4 μ19 h1 h2 (inR_lit rfl) hf) (And.intro rfl (And.intro rfl (And.intro rfl (And.intro rfl (And.intro rfl trivial)))))
          · replace hf := if_f hf c17
            refine r_iconst C dX3_sendToStone_53 ?_
            obtain ⟨rfl, rfl⟩ := of_ret hf
            exact r_iret C rfl (inR_lit rfl) dX3_sendToStone_54
        · replace hf := if_f hf c15
          refine r_iconst C dX3_sendToStone_42 ?_
          obtain ⟨rfl, rfl⟩ := of_ret hf
          exact r_iret C rfl (inR_lit rfl) dX3_sendToStone_43
      · replace hf := if_f hf c13
        refine r_iconst C dX3_sendToStone_32 ?_
        obtain ⟨rfl, rfl⟩ := of_ret hf
        exact r_iret C rfl (inR_lit rfl) dX3_sendToStone_33
set_option maxHeartbeats 4000000 in
set_option maxRecDepth 100000 in
theorem w_X3_isRampRaised_2 {p : Program} {l : Launch} {e : Env} {s : State} {m : MethodId} {args : Array Value} {below : List Frame} {meth : Method} {c : Code} {D : va_G} {cy : Nat → ClassId} {A : Nat → Prop} {ids : List Nat} {ad : Nat → Nat} {r : Int} {μ' : Mem} (C : Cx p s m args meth c D (tyl cy) A 2 cX3_isRampRaised yX3_isRampRaised.cls (some .boolean)) (hCF : CF ad A s) : ∀ n : Nat, ∀ (v1 : Int) (μ : Mem), inR v1 → f_X3_isRampRaised_2   n v1 μ = some (r, μ') → V p l e (rmk 2) s m args below meth c 0 0 (MQ below (aI D (tyl cy) (lay cy) ids ad A r μ') args s 0 0 A) D A (lay cy) ids ad 2 μ 2 [some (rf 6), some (nu v1)] [] := by
  intro n
  induction n with
  | zero =>
    intro v1 μ hv1 hf
    cases hf
  | succ n ih =>
    intro v1 μ hv1 hf
    rw [f_X3_isRampRaised_2_e] at hf
    refine V_in (fun ho0 _ => ?_)
    refine r_iload_n C 1 rfl rfl dX3_isRampRaised_2 ?_
    refine r_aload_n C 0 rfl rfl dX3_isRampRaised_3 ?_
    refine r_getf C 6 (by decide) rfl (fx_m rfl) (ly_6 cy _ _) rfl in_X3 5 (by decide) tw_153 (v := nu (μ 6 5)) rfl dX3_isRampRaised_4 ?_
    refine r_icmp_ge C 32 hv1 (ho0 _ _) rfl dX3_isRampRaised_7 (fun c1 => ?_) (fun c1 => ?_)
    · replace hf := if_t hf c1
      refine r_iconst C dX3_isRampRaised_32 ?_
      obtain ⟨rfl, rfl⟩ := of_ret hf
      exact r_zret C rfl (by decide) dX3_isRampRaised_33
    · replace hf := if_f hf c1
      refine r_aload_n C 0 rfl rfl dX3_isRampRaised_10 ?_
      refine r_getf C 6 (by decide) rfl (fx_m rfl) (ly_6 cy _ _) rfl in_X3 3 (by decide) tw_151 (v := rf 19) rfl dX3_isRampRaised_11 ?_
      refine r_iload_n C 1 rfl rfl dX3_isRampRaised_14 ?_
      obtain ⟨g2, hf⟩ := of_g hf
      refine r_aald C 19 (by decide) rfl (fx_m rfl) 3 (cA := cy 3) (n := 6) (ly_19 cy _ _) rfl rfl g2 (by decide) dX3_isRampRaised_15 ?_
      obtain ⟨g3, hf⟩ := of_g hf
      refine r_getfN C _ (ga_0 g3) rfl (ga_m g3) (ly_ga cy _ g3 _) rfl in_X0 1 (by decide) tw_345 (v := nu (μ (μ 19 v1.toNat).toNat 1)) rfl dX3_isRampRaised_16 ?_
      refine r_bipush C dX3_isRampRaised_19 rfl ?_
      refine r_icmp_ne C 26 (ho0 _ _) (inR_lit rfl) rfl dX3_isRampRaised_21 (fun c4 => ?_) (fun c4 => ?_)
      · replace hf := if_f hf c4
        refine r_iinc C rfl (lw := [some (rf 6), some (nu (v1 + 1))]) rfl (by decide) dX3_isRampRaised_26 ?_
        refine r_goto C 2 rfl dX3_isRampRaised_29 ?_
        obtain ⟨g5, hf⟩ := of_g hf
        exact V_lw (ih (v1 + 1) μ g5 hf) (And.intro rfl (And.intro rfl trivial))
      · replace hf := if_t hf c4
        refine r_iconst C dX3_isRampRaised_24 ?_
        obtain ⟨rfl, rfl⟩ := of_ret hf
        exact r_zret C rfl (by decide) dX3_isRampRaised_25
set_option maxHeartbeats 4000000 in
set_option maxRecDepth 100000 in
theorem c_X3_isRampRaised {l : Launch} {D : va_G} {cy : Nat → ClassId} {ids : List Nat} {ad : Nat → Nat} {μ μ' : Mem} { r : Int}  (hf : f_X3_isRampRaised μ  = some (r, μ')) : KK aI l D (tyl cy) (lay cy) ids ad 2 yX3_isRampRaised cX3_isRampRaised 2 (some .boolean) [rf 6] μ r μ' := by
  refine KK.of (by decide +kernel) (Nat.le_of_ble_eq_true rfl) ?_
  intro p e s m args below meth c A C hCF
  unfold f_X3_isRampRaised at hf
  refine V_in (fun ho0 _ => ?_)
  refine r_iconst C dX3_isRampRaised_0 ?_
  refine r_istore_n C 1 (lw := [some (rf 6), some (nu 0)]) rfl rfl (by decide) dX3_isRampRaised_1 ?_
  exact V_lw (w_X3_isRampRaised_2 C hCF 64 0 μ (inR_lit rfl) hf) (And.intro rfl (And.intro rfl trivial))
set_option maxHeartbeats 4000000 in
set_option maxRecDepth 100000 in
theorem c_X3_sendToRamp {l : Launch} {D : va_G} {cy : Nat → ClassId} {ids : List Nat} {ad : Nat → Nat} {μ μ' : Mem} {a1 r : Int} (h1 : inR a1) (hf : f_X3_sendToRamp μ a1 = some (r, μ')) : KK aI l D (tyl cy) (lay cy) ids ad 4 yX3_sendToRamp cX3_sendToRamp 3 (some .int) [rf 6, nu a1] μ r μ' := by
  refine KK.of (by decide +kernel) (Nat.le_of_ble_eq_true rfl) ?_
  intro p e s m args below meth c A C hCF
  unfold f_X3_sendToRamp at hf
  refine V_in (fun ho0 _ => ?_)
  refine r_aload_n C 0 rfl rfl dX3_sendToRamp_0 ?_
  refine r_iload_n C 1 rfl rfl dX3_sendToRamp_1 ?_
  obtain ⟨r1, μ2, hc3, hf⟩ := of_bd hf
  refine r_callVR C hCF (As := [nu a1]) 6 (by decide) rfl (fx_m rfl) (ly_6 cy _ _) rfl (c_X3_gangAt h1 hc3) rfl (by decide) (by decide) ⟨Nat.le_refl 0, Nat.le_refl 0⟩ tw_591 tw_594 tw_7 tw_592 tw_593 1 (by decide) rfl (Nat.le_of_ble_eq_true rfl) dX3_sendToRamp_2 ?_
  refine V_in (fun ho4 _ => ?_)
  refine r_astore_n C 2 (lw := [some (rf 6), some (nu a1), some (rf r1)]) rfl rfl (by decide) dX3_sendToRamp_5 ?_
  refine r_aload_n C 2 rfl rfl dX3_sendToRamp_6 ?_
  refine r_ifnull C 20 rfl dX3_sendToRamp_7 (fun c6 => ?_) (fun c6 => ?_)
  · replace hf := if_t hf c6
    refine r_iconst C dX3_sendToRamp_20 ?_
    obtain ⟨rfl, rfl⟩ := of_ret hf
    exact r_iret C rfl (inR_lit rfl) dX3_sendToRamp_21
  · replace hf := if_f hf c6
    refine r_aload_n C 0 rfl rfl dX3_sendToRamp_10 ?_
    refine r_getf C 6 (by decide) rfl (fx_m rfl) (ly_6 cy _ _) rfl in_X3 9 (by decide) tw_162 (v := nu (μ2 6 9)) rfl dX3_sendToRamp_11 ?_
    refine r_sipush C dX3_sendToRamp_14 rfl ?_
    refine r_icmp_le C 22 (ho4 _ _) (inR_lit rfl) rfl dX3_sendToRamp_17 (fun c7 => ?_) (fun c7 => ?_)
    · replace hf := if_t hf c7
      refine r_aload_n C 2 rfl rfl dX3_sendToRamp_22 ?_
      obtain ⟨g8, hf⟩ := of_g hf
      refine r_getfN C _ (ga_0 g8) rfl (ga_m g8) (ly_ga cy _ g8 _) rfl in_X0 1 (by decide) tw_345 (v := nu (μ2 r1.toNat 1)) rfl dX3_sendToRamp_23 ?_
      refine r_iconst C dX3_sendToRamp_26 ?_
      refine r_icmp_eq C 32 (ho4 _ _) (inR_lit rfl) rfl dX3_sendToRamp_27 (fun c9 => ?_) (fun c9 => ?_)
      · replace hf := if_t hf c9
        refine r_aload_n C 0 rfl rfl dX3_sendToRamp_32 ?_
        obtain ⟨r10, μ11, hc12, hf⟩ := of_bd hf
        refine r_callVI C hCF (As := []) 6 (by decide) rfl (fx_m rfl) (ly_6 cy _ _) rfl (c_X3_isRampRaised hc12) rfl (by decide) (by decide) ⟨Nat.le_refl 0, Nat.le_refl 0⟩ tw_651 tw_654 tw_7 tw_653 ts_10 0 (by decide) rfl (Nat.le_of_ble_eq_true rfl) dX3_sendToRamp_33 (fun hr14 => ?_)
        refine V_in (fun ho13 _ => ?_)
        refine r_if_eq C 41 hr14 rfl dX3_sendToRamp_36 (fun c15 => ?_) (fun c15 => ?_)
        · replace hf := if_t hf c15
          refine r_aload_n C 0 rfl rfl dX3_sendToRamp_41 ?_
          refine r_getf C 6 (by decide) rfl (fx_m rfl) (ly_6 cy _ _) rfl in_X3 8 (by decide) tw_159 (v := nu (μ11 6 8)) rfl dX3_sendToRamp_42 ?_
          refine r_bipush C dX3_sendToRamp_45 rfl ?_
          refine r_icmp_lt C 52 (ho13 _ _) (inR_lit rfl) rfl dX3_sendToRamp_47 (fun c16 => ?_) (fun c16 => ?_)
          · replace hf := if_t hf c16
            refine r_aload_n C 2 rfl rfl dX3_sendToRamp_52 ?_
            refine r_bipush C dX3_sendToRamp_53 rfl ?_
            refine r_aload_n C 0 rfl rfl dX3_sendToRamp_55 ?_
            refine r_getf C 6 (by decide) rfl (fx_m rfl) (ly_6 cy _ _) rfl in_X3 0 (by decide) tw_148 (v := rf 4) rfl dX3_sendToRamp_56 ?_
            refine r_bipush C dX3_sendToRamp_59 rfl ?_
            obtain ⟨r17, μ18, hc19, hf⟩ := of_bd hf
            refine r_callVI C hCF (As := [nu 8]) 4 (by decide) rfl (fx_m rfl) (ly_4 cy _ _) rfl (c_X6_numberAt (inR_lit rfl) hc19) rfl (by decide) (by decide) ⟨Nat.le_refl 0, Nat.le_refl 0⟩ tw_630 tw_626 tw_5 tw_624 tw_625 1 (by decide) rfl (Nat.le_of_ble_eq_true rfl) dX3_sendToRamp_61 (fun hr21 => ?_)
            refine V_in (fun ho20 _ => ?_)
            refine r_aload_n C 0 rfl rfl dX3_sendToRamp_64 ?_
            refine r_getf C 6 (by decide) rfl (fx_m rfl) (ly_6 cy _ _) rfl in_X3 8 (by decide) tw_159 (v := nu (μ18 6 8)) rfl dX3_sendToRamp_65 ?_
            refine r_iconst C dX3_sendToRamp_68 ?_
            refine r_iadd C dX3_sendToRamp_69 ?_
            refine r_imul C dX3_sendToRamp_70 ?_
            obtain ⟨g22, hf⟩ := of_g hf
            obtain ⟨g23, hf⟩ := of_g hf
            obtain ⟨r24, μ25, hc26, hf⟩ := of_bd hf
            refine r_callVV C hCF (As := [nu 30, nu (r17 * ((μ18 6 8) + 1))]) _ (ga_0 g23) rfl (ga_m g23) (ly_ga cy _ g23 _) rfl (c_X0_takeWork (inR_lit rfl) g22 hc26) rfl (by decide) (by decide) ⟨Nat.le_refl 0, Nat.le_refl 0⟩ tw_639 tw_642 tw_11 tw_640 tw_641 2 (by decide) rfl (Nat.le_of_ble_eq_true rfl) dX3_sendToRamp_71 ?_
            refine V_in (fun ho27 _ => ?_)
            refine r_iconst C dX3_sendToRamp_74 ?_
            obtain ⟨rfl, rfl⟩ := of_ret hf
            exact r_iret C rfl (inR_lit rfl) dX3_sendToRamp_75
          · replace hf := if_f hf c16
            refine r_iconst C dX3_sendToRamp_50 ?_
            obtain ⟨rfl, rfl⟩ := of_ret hf
            exact r_iret C rfl (inR_lit rfl) dX3_sendToRamp_51
        · replace hf := if_f hf c15
          refine r_iconst C dX3_sendToRamp_39 ?_
          obtain ⟨rfl, rfl⟩ := of_ret hf
          exact r_iret C rfl (inR_lit rfl) dX3_sendToRamp_40
      · replace hf := if_f hf c9
        refine r_iconst C dX3_sendToRamp_30 ?_
        obtain ⟨rfl, rfl⟩ := of_ret hf
        exact r_iret C rfl (inR_lit rfl) dX3_sendToRamp_31
    · replace hf := if_f hf c7
      refine r_iconst C dX3_sendToRamp_20 ?_
      obtain ⟨rfl, rfl⟩ := of_ret hf
      exact r_iret C rfl (inR_lit rfl) dX3_sendToRamp_21
set_option maxHeartbeats 4000000 in
set_option maxRecDepth 100000 in
theorem c_X3_leaveWork {l : Launch} {D : va_G} {cy : Nat → ClassId} {ids : List Nat} {ad : Nat → Nat} {μ μ' : Mem} {a1 r : Int}  (hf : f_X3_leaveWork μ a1 = some (r, μ')) : KK aV l D (tyl cy) (lay cy) ids ad 4 yX3_leaveWork cX3_leaveWork 3 none [rf 6, rf a1] μ r μ' := by
  refine KK.of (by decide +kernel) (Nat.le_of_ble_eq_true rfl) ?_
  intro p e s m args below meth c A C hCF
  unfold f_X3_leaveWork at hf
  refine V_in (fun ho0 _ => ?_)
  refine r_aload_n C 0 rfl rfl dX3_leaveWork_0 ?_
  refine r_aload_n C 1 rfl rfl dX3_leaveWork_1 ?_
  obtain ⟨g1, hf⟩ := of_g hf
  refine r_getfN C _ (ga_0 g1) rfl (ga_m g1) (ly_ga cy _ g1 _) rfl in_X0 1 (by decide) tw_345 (v := nu (μ a1.toNat 1)) rfl dX3_leaveWork_2 ?_
  obtain ⟨r2, μ3, hc4, hf⟩ := of_bd hf
  refine r_callVR C hCF (As := [nu (μ a1.toNat 1)]) 6 (by decide) rfl (fx_m rfl) (ly_6 cy _ _) rfl (c_X3_stoneAt (ho0 _ _) hc4) rfl (by decide) (by decide) ⟨Nat.le_refl 0, Nat.le_refl 0⟩ tw_595 tw_598 tw_7 tw_596 tw_597 1 (by decide) rfl (Nat.le_of_ble_eq_true rfl) dX3_leaveWork_5 ?_
  refine V_in (fun ho5 _ => ?_)
  refine r_astore_n C 2 (lw := [some (rf 6), some (rf a1), some (rf r2)]) rfl rfl (by decide) dX3_leaveWork_8 ?_
  refine r_aload_n C 2 rfl rfl dX3_leaveWork_9 ?_
  refine r_ifnull C 32 rfl dX3_leaveWork_10 (fun c7 => ?_) (fun c7 => ?_)
  · replace hf := if_t hf c7
    refine r_aload_n C 1 rfl rfl dX3_leaveWork_32 ?_
    obtain ⟨g8, hf⟩ := of_g hf
    obtain ⟨r9, μ10, hc11, hf⟩ := of_bd hf
    refine r_callVV C hCF (As := []) _ (ga_0 g8) rfl (ga_m g8) (ly_ga cy _ g8 _) rfl (c_X0_dropWork hc11) rfl (by decide) (by decide) ⟨Nat.le_refl 0, Nat.le_refl 0⟩ tw_667 tw_670 tw_11 tw_668 tw_669 0 (by decide) rfl (Nat.le_of_ble_eq_true rfl) dX3_leaveWork_33 ?_
    refine V_in (fun ho12 _ => ?_)
    obtain ⟨-, rfl⟩ := of_ret hf
    exact r_vret C rfl dX3_leaveWork_36
  · replace hf := if_f hf c7
    refine r_aload_n C 2 rfl rfl dX3_leaveWork_13 ?_
    refine r_iconst C dX3_leaveWork_14 ?_
    obtain ⟨g14, hf⟩ := of_g hf
    refine r_putfN C _ (st_0 g14) rfl (st_m g14) (st_9 g14) (ly_st cy _ g14 _) 3 (ly_st cy _ g14 _) rfl (Nat.le_of_ble_eq_true rfl) (inR_lit rfl) rfl in_X4 tyX4 tyX4_ok nmX4 (by decide) tw_562 rfl rfl dX3_leaveWork_15 (fun μ15 hμ17 => ?_)
    replace hf := of_lm hf hμ17
    refine V_in (fun ho16 _ => ?_)
    refine r_aload_n C 2 rfl rfl dX3_leaveWork_18 ?_
    obtain ⟨g18, hf⟩ := of_g hf
    refine r_getfN C _ (st_0 g18) rfl (st_m g18) (ly_st cy _ g18 _) rfl in_X4 2 (by decide) tw_558 (v := nu (μ15 r2.toNat 2)) rfl dX3_leaveWork_19 ?_
    refine r_iconst C dX3_leaveWork_22 ?_
    refine r_icmp_ne C 32 (ho16 _ _) (inR_lit rfl) rfl dX3_leaveWork_23 (fun c19 => ?_) (fun c19 => ?_)
    · replace hf := if_f hf c19
      refine r_aload_n C 1 rfl rfl dX3_leaveWork_32 ?_
      obtain ⟨g20, hf⟩ := of_g hf
      obtain ⟨r21, μ22, hc23, hf⟩ := of_bd hf
      refine r_callVV C hCF (As := []) _ (ga_0 g20) rfl (ga_m g20) (ly_ga cy _ g20 _) rfl (c_X0_dropWork hc23) rfl (by decide) (by decide) ⟨Nat.le_refl 0, Nat.le_refl 0⟩ tw_667 tw_670 tw_11 tw_668 tw_669 0 (by decide) rfl (Nat.le_of_ble_eq_true rfl) dX3_leaveWork_33 ?_
      refine V_in (fun ho24 _ => ?_)
      obtain ⟨-, rfl⟩ := of_ret hf
      exact r_vret C rfl dX3_leaveWork_36
    · replace hf := if_t hf c19
      refine r_aload_n C 2 rfl rfl dX3_leaveWork_26 ?_
      refine r_bipush C dX3_leaveWork_27 rfl ?_
      refine r_putfN C _ (st_0 g18) rfl (st_m g18) (st_9 g18) (ly_st cy _ g18 _) 2 (ly_st cy _ g18 _) rfl (Nat.le_of_ble_eq_true rfl) (inR_lit rfl) rfl in_X4 tyX4 tyX4_ok nmX4 (by decide) tw_558 rfl rfl dX3_leaveWork_29 (fun μ26 hμ28 => ?_)
      replace hf := of_lm hf hμ28
      refine V_in (fun ho27 _ => ?_)
      refine r_aload_n C 1 rfl rfl dX3_leaveWork_32 ?_
      obtain ⟨g29, hf⟩ := of_g hf
      obtain ⟨r30, μ31, hc32, hf⟩ := of_bd hf
      refine r_callVV C hCF (As := []) _ (ga_0 g29) rfl (ga_m g29) (ly_ga cy _ g29 _) rfl (c_X0_dropWork hc32) rfl (by decide) (by decide) ⟨Nat.le_refl 0, Nat.le_refl 0⟩ tw_667 tw_670 tw_11 tw_668 tw_669 0 (by decide) rfl (Nat.le_of_ble_eq_true rfl) dX3_leaveWork_33 ?_
      refine V_in (fun ho33 _ => ?_)
      obtain ⟨-, rfl⟩ := of_ret hf
      exact r_vret C rfl dX3_leaveWork_36
set_option maxHeartbeats 4000000 in
set_option maxRecDepth 100000 in
theorem c_X3_stopWork {l : Launch} {D : va_G} {cy : Nat → ClassId} {ids : List Nat} {ad : Nat → Nat} {μ μ' : Mem} {a1 r : Int} (h1 : inR a1) (hf : f_X3_stopWork μ a1 = some (r, μ')) : KK aI l D (tyl cy) (lay cy) ids ad 6 yX3_stopWork cX3_stopWork 3 (some .boolean) [rf 6, nu a1] μ r μ' := by
  refine KK.of (by decide +kernel) (Nat.le_of_ble_eq_true rfl) ?_
  intro p e s m args below meth c A C hCF
  unfold f_X3_stopWork at hf
  refine V_in (fun ho0 _ => ?_)
  refine r_aload_n C 0 rfl rfl dX3_stopWork_0 ?_
  refine r_iload_n C 1 rfl rfl dX3_stopWork_1 ?_
  obtain ⟨r1, μ2, hc3, hf⟩ := of_bd hf
  refine r_callVR C hCF (As := [nu a1]) 6 (by decide) rfl (fx_m rfl) (ly_6 cy _ _) rfl (c_X3_gangAt h1 hc3) rfl (by decide) (by decide) ⟨Nat.le_refl 0, Nat.le_refl 0⟩ tw_591 tw_594 tw_7 tw_592 tw_593 1 (by decide) rfl (Nat.le_of_ble_eq_true rfl) dX3_stopWork_2 ?_
  refine V_in (fun ho4 _ => ?_)
  refine r_astore_n C 2 (lw := [some (rf 6), some (nu a1), some (rf r1)]) rfl rfl (by decide) dX3_stopWork_5 ?_
  refine r_aload_n C 2 rfl rfl dX3_stopWork_6 ?_
  refine r_ifnull C 18 rfl dX3_stopWork_7 (fun c6 => ?_) (fun c6 => ?_)
  · replace hf := if_t hf c6
    refine r_iconst C dX3_stopWork_18 ?_
    obtain ⟨rfl, rfl⟩ := of_ret hf
    exact r_zret C rfl (by decide) dX3_stopWork_19
  · replace hf := if_f hf c6
    refine r_aload_n C 2 rfl rfl dX3_stopWork_10 ?_
    obtain ⟨g7, hf⟩ := of_g hf
    refine r_getfN C _ (ga_0 g7) rfl (ga_m g7) (ly_ga cy _ g7 _) rfl in_X0 1 (by decide) tw_345 (v := nu (μ2 r1.toNat 1)) rfl dX3_stopWork_11 ?_
    refine r_iconst C dX3_stopWork_14 ?_
    refine r_icmp_ne C 20 (ho4 _ _) (inR_lit rfl) rfl dX3_stopWork_15 (fun c8 => ?_) (fun c8 => ?_)
    · replace hf := if_f hf c8
      refine r_aload_n C 0 rfl rfl dX3_stopWork_20 ?_
      refine r_aload_n C 2 rfl rfl dX3_stopWork_21 ?_
      obtain ⟨r9, μ10, hc11, hf⟩ := of_bd hf
      refine r_callVV C hCF (As := [rf r1]) 6 (by decide) rfl (fx_m rfl) (ly_6 cy _ _) rfl (c_X3_leaveWork hc11) rfl (by decide) (by decide) ⟨Nat.le_refl 0, Nat.le_refl 0⟩ tw_663 tw_666 tw_7 tw_665 ts_11 1 (by decide) rfl (Nat.le_of_ble_eq_true rfl) dX3_stopWork_22 ?_
      refine V_in (fun ho12 _ => ?_)
      refine r_iconst C dX3_stopWork_25 ?_
      obtain ⟨rfl, rfl⟩ := of_ret hf
      exact r_zret C rfl (by decide) dX3_stopWork_26
    · replace hf := if_t hf c8
      refine r_iconst C dX3_stopWork_18 ?_
      obtain ⟨rfl, rfl⟩ := of_ret hf
      exact r_zret C rfl (by decide) dX3_stopWork_19
set_option maxHeartbeats 4000000 in
set_option maxRecDepth 100000 in
theorem c_X3_isRafting {l : Launch} {D : va_G} {cy : Nat → ClassId} {ids : List Nat} {ad : Nat → Nat} {μ μ' : Mem} {a1 r : Int}  (hf : f_X3_isRafting μ a1 = some (r, μ')) : KK aI l D (tyl cy) (lay cy) ids ad 4 yX3_isRafting cX3_isRafting 3 (some .boolean) [rf 6, rf a1] μ r μ' := by
  refine KK.of (by decide +kernel) (Nat.le_of_ble_eq_true rfl) ?_
  intro p e s m args below meth c A C hCF
  unfold f_X3_isRafting at hf
  refine V_in (fun ho0 _ => ?_)
  refine r_aload_n C 0 rfl rfl dX3_isRafting_0 ?_
  refine r_aload_n C 1 rfl rfl dX3_isRafting_1 ?_
  obtain ⟨g1, hf⟩ := of_g hf
  refine r_getfN C _ (ga_0 g1) rfl (ga_m g1) (ly_ga cy _ g1 _) rfl in_X0 1 (by decide) tw_345 (v := nu (μ a1.toNat 1)) rfl dX3_isRafting_2 ?_
  obtain ⟨r2, μ3, hc4, hf⟩ := of_bd hf
  refine r_callVR C hCF (As := [nu (μ a1.toNat 1)]) 6 (by decide) rfl (fx_m rfl) (ly_6 cy _ _) rfl (c_X3_stoneAt (ho0 _ _) hc4) rfl (by decide) (by decide) ⟨Nat.le_refl 0, Nat.le_refl 0⟩ tw_595 tw_598 tw_7 tw_596 tw_597 1 (by decide) rfl (Nat.le_of_ble_eq_true rfl) dX3_isRafting_5 ?_
  refine V_in (fun ho5 _ => ?_)
  refine r_astore_n C 2 (lw := [some (rf 6), some (rf a1), some (rf r2)]) rfl rfl (by decide) dX3_isRafting_8 ?_
  refine r_aload_n C 2 rfl rfl dX3_isRafting_9 ?_
  refine r_ifnull C 25 rfl dX3_isRafting_10 (fun c7 => ?_) (fun c7 => ?_)
  · replace hf := if_t hf c7
    refine r_iconst C dX3_isRafting_25 ?_
    obtain ⟨rfl, rfl⟩ := of_ret hf
    exact r_zret C rfl (by decide) dX3_isRafting_26
  · replace hf := if_f hf c7
    refine r_aload_n C 2 rfl rfl dX3_isRafting_13 ?_
    obtain ⟨g8, hf⟩ := of_g hf
    refine r_getfN C _ (st_0 g8) rfl (st_m g8) (ly_st cy _ g8 _) rfl in_X4 2 (by decide) tw_558 (v := nu (μ3 r2.toNat 2)) rfl dX3_isRafting_14 ?_
    refine r_iconst C dX3_isRafting_17 ?_
    refine r_icmp_ne C 25 (ho5 _ _) (inR_lit rfl) rfl dX3_isRafting_18 (fun c9 => ?_) (fun c9 => ?_)
    · replace hf := if_f hf c9
      refine r_iconst C dX3_isRafting_25 ?_
      obtain ⟨rfl, rfl⟩ := of_ret hf
      exact r_zret C rfl (by decide) dX3_isRafting_26
    · replace hf := if_t hf c9
      refine r_iconst C dX3_isRafting_21 ?_
      refine r_goto C 26 rfl dX3_isRafting_22 ?_
      obtain ⟨rfl, rfl⟩ := of_ret hf
      exact r_zret C rfl (by decide) dX3_isRafting_26
set_option maxHeartbeats 4000000 in
set_option maxRecDepth 100000 in
theorem c_X3_bringFurther {l : Launch} {D : va_G} {cy : Nat → ClassId} {ids : List Nat} {ad : Nat → Nat} {μ μ' : Mem} {a1 a2 r : Int} (h2 : inR a2) (hf : f_X3_bringFurther μ a1 a2 = some (r, μ')) : KK aV l D (tyl cy) (lay cy) ids ad 2 yX3_bringFurther cX3_bringFurther 3 none [rf 6, rf a1, nu a2] μ r μ' := by
  refine KK.of (by decide +kernel) (Nat.le_of_ble_eq_true rfl) ?_
  intro p e s m args below meth c A C hCF
  unfold f_X3_bringFurther at hf
  refine V_in (fun ho0 _ => ?_)
  refine r_aload_n C 1 rfl rfl dX3_bringFurther_0 ?_
  refine r_dup C dX3_bringFurther_1 ?_
  obtain ⟨g1, hf⟩ := of_g hf
  refine r_getfN C _ (st_0 g1) rfl (st_m g1) (ly_st cy _ g1 _) rfl in_X4 2 (by decide) tw_558 (v := nu (μ a1.toNat 2)) rfl dX3_bringFurther_2 ?_
  refine r_iconst C dX3_bringFurther_5 ?_
  refine r_iadd C dX3_bringFurther_6 ?_
  obtain ⟨g2, hf⟩ := of_g hf
  refine r_putfN C _ (st_0 g1) rfl (st_m g1) (st_9 g1) (ly_st cy _ g1 _) 2 (ly_st cy _ g1 _) rfl (Nat.le_of_ble_eq_true rfl) g2 rfl in_X4 tyX4 tyX4_ok nmX4 (by decide) tw_558 rfl rfl dX3_bringFurther_7 (fun μ3 hμ5 => ?_)
  replace hf := of_lm hf hμ5
  refine V_in (fun ho4 _ => ?_)
  refine r_aload_n C 1 rfl rfl dX3_bringFurther_10 ?_
  refine r_iconst C dX3_bringFurther_11 ?_
  obtain ⟨g6, hf⟩ := of_g hf
  refine r_putfN C _ (st_0 g6) rfl (st_m g6) (st_9 g6) (ly_st cy _ g6 _) 3 (ly_st cy _ g6 _) rfl (Nat.le_of_ble_eq_true rfl) (inR_lit rfl) rfl in_X4 tyX4 tyX4_ok nmX4 (by decide) tw_562 rfl rfl dX3_bringFurther_12 (fun μ7 hμ9 => ?_)
  replace hf := of_lm hf hμ9
  refine V_in (fun ho8 _ => ?_)
  refine r_aload_n C 1 rfl rfl dX3_bringFurther_15 ?_
  obtain ⟨g10, hf⟩ := of_g hf
  refine r_getfN C _ (st_0 g10) rfl (st_m g10) (ly_st cy _ g10 _) rfl in_X4 2 (by decide) tw_558 (v := nu (μ7 a1.toNat 2)) rfl dX3_bringFurther_16 ?_
  refine r_iconst C dX3_bringFurther_19 ?_
  refine r_icmp_ne C 51 (ho8 _ _) (inR_lit rfl) rfl dX3_bringFurther_20 (fun c11 => ?_) (fun c11 => ?_)
  · replace hf := if_f hf c11
    obtain ⟨-, rfl⟩ := of_ret hf
    exact r_vret C rfl dX3_bringFurther_51
  · replace hf := if_t hf c11
    refine r_aload_n C 1 rfl rfl dX3_bringFurther_23 ?_
    refine r_iload_n C 2 rfl rfl dX3_bringFurther_24 ?_
    refine r_putfN C _ (st_0 g10) rfl (st_m g10) (st_9 g10) (ly_st cy _ g10 _) 4 (ly_st cy _ g10 _) rfl (Nat.le_of_ble_eq_true rfl) h2 rfl in_X4 tyX4 tyX4_ok nmX4 (by decide) tw_565 rfl rfl dX3_bringFurther_25 (fun μ12 hμ14 => ?_)
    replace hf := of_lm hf hμ14
    refine V_in (fun ho13 _ => ?_)
    refine r_aload_n C 1 rfl rfl dX3_bringFurther_28 ?_
    refine r_aload_n C 0 rfl rfl dX3_bringFurther_29 ?_
    refine r_getf C 6 (by decide) rfl (fx_m rfl) (ly_6 cy _ _) rfl in_X3 9 (by decide) tw_162 (v := nu (μ12 6 9)) rfl dX3_bringFurther_30 ?_
    obtain ⟨g15, hf⟩ := of_g hf
    refine r_putfN C _ (st_0 g15) rfl (st_m g15) (st_9 g15) (ly_st cy _ g15 _) 5 (ly_st cy _ g15 _) rfl (Nat.le_of_ble_eq_true rfl) (ho13 _ _) rfl in_X4 tyX4 tyX4_ok nmX4 (by decide) tw_568 rfl rfl dX3_bringFurther_33 (fun μ16 hμ18 => ?_)
    replace hf := of_lm hf hμ18
    refine V_in (fun ho17 _ => ?_)
    refine r_aload_n C 0 rfl rfl dX3_bringFurther_36 ?_
    refine r_getf C 6 (by decide) rfl (fx_m rfl) (ly_6 cy _ _) rfl in_X3 3 (by decide) tw_151 (v := rf 19) rfl dX3_bringFurther_37 ?_
    refine r_iload_n C 2 rfl rfl dX3_bringFurther_40 ?_
    obtain ⟨g19, hf⟩ := of_g hf
    refine r_aald C 19 (by decide) rfl (fx_m rfl) 3 (cA := cy 3) (n := 6) (ly_19 cy _ _) rfl rfl g19 (by decide) dX3_bringFurther_41 ?_
    refine r_dup C dX3_bringFurther_42 ?_
    obtain ⟨g20, hf⟩ := of_g hf
    refine r_getfN C _ (ga_0 g20) rfl (ga_m g20) (ly_ga cy _ g20 _) rfl in_X0 3 (by decide) tw_352 (v := nu (μ16 (μ16 19 a2.toNat).toNat 3)) rfl dX3_bringFurther_43 ?_
    refine r_iconst C dX3_bringFurther_46 ?_
    refine r_iadd C dX3_bringFurther_47 ?_
    obtain ⟨g21, hf⟩ := of_g hf
    refine r_putfN C _ (ga_0 g20) rfl (ga_m g20) (ga_9 g20) (ly_ga cy _ g20 _) 3 (ly_ga cy _ g20 _) rfl (Nat.le_of_ble_eq_true rfl) g21 rfl in_X0 tyX0 tyX0_ok nmX0 (by decide) tw_352 rfl rfl dX3_bringFurther_48 (fun μ22 hμ24 => ?_)
    replace hf := of_lm hf hμ24
    refine V_in (fun ho23 _ => ?_)
    obtain ⟨-, rfl⟩ := of_ret hf
    exact r_vret C rfl dX3_bringFurther_51
set_option maxHeartbeats 4000000 in
set_option maxRecDepth 100000 in
theorem c_X3_isTooHeavy {l : Launch} {D : va_G} {cy : Nat → ClassId} {ids : List Nat} {ad : Nat → Nat} {μ μ' : Mem} {a1 a2 r : Int} (h1 : inR a1) (hf : f_X3_isTooHeavy μ a1 a2 = some (r, μ')) : KK aI l D (tyl cy) (lay cy) ids ad 4 yX3_isTooHeavy cX3_isTooHeavy 3 (some .boolean) [rf 6, nu a1, rf a2] μ r μ' := by
  refine KK.of (by decide +kernel) (Nat.le_of_ble_eq_true rfl) ?_
  intro p e s m args below meth c A C hCF
  unfold f_X3_isTooHeavy at hf
  refine V_in (fun ho0 _ => ?_)
  refine r_iload_n C 1 rfl rfl dX3_isTooHeavy_0 ?_
  refine r_aload_n C 0 rfl rfl dX3_isTooHeavy_1 ?_
  refine r_getf C 6 (by decide) rfl (fx_m rfl) (ly_6 cy _ _) rfl in_X3 0 (by decide) tw_148 (v := rf 4) rfl dX3_isTooHeavy_2 ?_
  refine r_bipush C dX3_isTooHeavy_5 rfl ?_
  obtain ⟨r1, μ2, hc3, hf⟩ := of_bd hf
  refine r_callVI C hCF (As := [nu 7]) 4 (by decide) rfl (fx_m rfl) (ly_4 cy _ _) rfl (c_X6_numberAt (inR_lit rfl) hc3) rfl (by decide) (by decide) ⟨Nat.le_refl 0, Nat.le_refl 0⟩ tw_630 tw_626 tw_5 tw_624 tw_625 1 (by decide) rfl (Nat.le_of_ble_eq_true rfl) dX3_isTooHeavy_7 (fun hr5 => ?_)
  refine V_in (fun ho4 _ => ?_)
  refine r_icmp_gt C 21 h1 hr5 rfl dX3_isTooHeavy_10 (fun c6 => ?_) (fun c6 => ?_)
  · replace hf := if_t hf c6
    refine r_iconst C dX3_isTooHeavy_21 ?_
    refine r_goto C 26 rfl dX3_isTooHeavy_22 ?_
    obtain ⟨rfl, rfl⟩ := of_ret hf
    exact r_zret C rfl (by decide) dX3_isTooHeavy_26
  · replace hf := if_f hf c6
    refine r_iload_n C 1 rfl rfl dX3_isTooHeavy_13 ?_
    refine r_aload_n C 2 rfl rfl dX3_isTooHeavy_14 ?_
    obtain ⟨g7, hf⟩ := of_g hf
    refine r_getfN C _ (ga_0 g7) rfl (ga_m g7) (ly_ga cy _ g7 _) rfl in_X0 0 (by decide) tw_341 (v := nu (μ2 a2.toNat 0)) rfl dX3_isTooHeavy_15 ?_
    refine r_icmp_le C 25 h1 (ho4 _ _) rfl dX3_isTooHeavy_18 (fun c8 => ?_) (fun c8 => ?_)
    · replace hf := if_t hf c8
      refine r_iconst C dX3_isTooHeavy_25 ?_
      obtain ⟨rfl, rfl⟩ := of_ret hf
      exact r_zret C rfl (by decide) dX3_isTooHeavy_26
    · replace hf := if_f hf c8
      refine r_iconst C dX3_isTooHeavy_21 ?_
      refine r_goto C 26 rfl dX3_isTooHeavy_22 ?_
      obtain ⟨rfl, rfl⟩ := of_ret hf
      exact r_zret C rfl (by decide) dX3_isTooHeavy_26
set_option maxHeartbeats 4000000 in
set_option maxRecDepth 100000 in
theorem w_X3_workOneDay_106 {p : Program} {l : Launch} {e : Env} {s : State} {m : MethodId} {args : Array Value} {below : List Frame} {meth : Method} {c : Code} {D : va_G} {cy : Nat → ClassId} {A : Nat → Prop} {ids : List Nat} {ad : Nat → Nat} {r : Int} {μ' : Mem} (C : Cx p s m args meth c D (tyl cy) A 6 cX3_workOneDay yX3_workOneDay.cls none) (hCF : CF ad A s) : ∀ (v1 v3 v4 w0 w1 w2 : Int) (μ : Mem), inR v1 → inR w0 → inR w1 → f_X3_workOneDay_106   v1 v3 v4 w0 w1 w2 μ = some (r, μ') → V p l e (rmk 8) s m args below meth c 0 0 (MQ below (aV D (tyl cy) (lay cy) ids ad A r μ') args s 0 0 A) D A (lay cy) ids ad 6 μ 106 [some (rf 6), some (nu v1), none, some (rf v3), some (rf v4), none] [nu w0, nu w1, rf w2] := by
  intro v1 v3 v4 w0 w1 w2 μ hv1 hw0 hw1 hf
  unfold f_X3_workOneDay_106 at hf
  refine V_in (fun ho0 _ => ?_)
  refine r_isub C dX3_workOneDay_106 ?_
  obtain ⟨g1, hf⟩ := of_g hf
  obtain ⟨g2, hf⟩ := of_g hf
  refine r_putfN C _ (ga_0 g2) rfl (ga_m g2) (ga_9 g2) (ly_ga cy _ g2 _) 2 (ly_ga cy _ g2 _) rfl (Nat.le_of_ble_eq_true rfl) g1 rfl in_X0 tyX0 tyX0_ok nmX0 (by decide) tw_349 rfl rfl dX3_workOneDay_107 (fun μ3 hμ5 => ?_)
  replace hf := of_lm hf hμ5
  refine V_in (fun ho4 _ => ?_)
  refine r_aload_n C 3 rfl rfl dX3_workOneDay_110 ?_
  obtain ⟨g6, hf⟩ := of_g hf
  refine r_getfN C _ (ga_0 g6) rfl (ga_m g6) (ly_ga cy _ g6 _) rfl in_X0 2 (by decide) tw_349 (v := nu (μ3 v3.toNat 2)) rfl dX3_workOneDay_111 ?_
  refine r_if_le C 118 (ho4 _ _) rfl dX3_workOneDay_114 (fun c7 => ?_) (fun c7 => ?_)
  · replace hf := if_t hf c7
    refine r_aload_n C 3 rfl rfl dX3_workOneDay_118 ?_
    obtain ⟨r8, μ9, hc10, hf⟩ := of_bd hf
    refine r_callVV C hCF (As := []) _ (ga_0 g6) rfl (ga_m g6) (ly_ga cy _ g6 _) rfl (c_X0_dropWork hc10) rfl (by decide) (by decide) ⟨Nat.le_refl 0, Nat.le_refl 0⟩ tw_667 tw_670 tw_11 tw_668 tw_669 0 (by decide) rfl (Nat.le_of_ble_eq_true rfl) dX3_workOneDay_119 ?_
    refine V_in (fun ho11 _ => ?_)
    refine r_aload C rfl dX3_workOneDay_122 ?_
    refine r_ifnonnull C 140 rfl dX3_workOneDay_124 (fun c13 => ?_) (fun c13 => ?_)
    · replace hf := if_f hf c13
      refine r_aload_n C 0 rfl rfl dX3_workOneDay_140 ?_
      refine r_aload C rfl dX3_workOneDay_141 ?_
      refine r_iload_n C 1 rfl rfl dX3_workOneDay_143 ?_
      obtain ⟨r14, μ15, hc16, hf⟩ := of_bd hf
      refine r_callVV C hCF (As := [rf v4, nu v1]) 6 (by decide) rfl (fx_m rfl) (ly_6 cy _ _) rfl (c_X3_bringFurther hv1 hc16) rfl (by decide) (by decide) ⟨Nat.le_refl 0, Nat.le_refl 0⟩ tw_698 tw_701 tw_7 tw_700 ts_15 2 (by decide) rfl (Nat.le_of_ble_eq_true rfl) dX3_workOneDay_144 ?_
      refine V_in (fun ho17 _ => ?_)
      obtain ⟨-, rfl⟩ := of_ret hf
      exact r_vret C rfl dX3_workOneDay_147
    · replace hf := if_t hf c13
      refine r_aload_n C 0 rfl rfl dX3_workOneDay_127 ?_
      refine r_dup C dX3_workOneDay_128 ?_
      refine r_getf C 6 (by decide) rfl (fx_m rfl) (ly_6 cy _ _) rfl in_X3 8 (by decide) tw_159 (v := nu (μ9 6 8)) rfl dX3_workOneDay_129 ?_
      refine r_iconst C dX3_workOneDay_132 ?_
      refine r_iadd C dX3_workOneDay_133 ?_
      obtain ⟨g19, hf⟩ := of_g hf
      refine r_putf C 6 (by decide) rfl (fx_m rfl) (by decide) (ly_6 cy _ _) 8 (ly_6 cy _ _) rfl (Nat.le_of_ble_eq_true rfl) g19 rfl in_X3 tyX3 tyX3_ok nmX3 (by decide) tw_159 rfl rfl dX3_workOneDay_134 (fun μ20 hμ22 => ?_)
      replace hf := of_lm hf hμ22
      refine V_in (fun ho21 _ => ?_)
      refine r_goto C 147 rfl dX3_workOneDay_137 ?_
      obtain ⟨-, rfl⟩ := of_ret hf
      exact r_vret C rfl dX3_workOneDay_147
  · replace hf := if_f hf c7
    obtain ⟨-, rfl⟩ := of_ret hf
    exact r_vret C rfl dX3_workOneDay_117
set_option maxHeartbeats 4000000 in
set_option maxRecDepth 100000 in
theorem w_X3_workOneDay_86 {p : Program} {l : Launch} {e : Env} {s : State} {m : MethodId} {args : Array Value} {below : List Frame} {meth : Method} {c : Code} {D : va_G} {cy : Nat → ClassId} {A : Nat → Prop} {ids : List Nat} {ad : Nat → Nat} {r : Int} {μ' : Mem} (C : Cx p s m args meth c D (tyl cy) A 6 cX3_workOneDay yX3_workOneDay.cls none) (hCF : CF ad A s) : ∀ (v1 v3 v4 w0 : Int) (μ : Mem), inR v1 → inR w0 → f_X3_workOneDay_86   v1 v3 v4 w0 μ = some (r, μ') → V p l e (rmk 8) s m args below meth c 0 0 (MQ below (aV D (tyl cy) (lay cy) ids ad A r μ') args s 0 0 A) D A (lay cy) ids ad 6 μ 86 [some (rf 6), some (nu v1), none, some (rf v3), some (rf v4), none] [nu w0] := by
  intro v1 v3 v4 w0 μ hv1 hw0 hf
  unfold f_X3_workOneDay_86 at hf
  refine V_in (fun ho0 _ => ?_)
  refine r_istore C (lw := [some (rf 6), some (nu v1), none, some (rf v3), some (rf v4), some (nu w0)]) rfl (by decide) dX3_workOneDay_86 ?_
  refine r_aload_n C 3 rfl rfl dX3_workOneDay_88 ?_
  refine r_dup C dX3_workOneDay_89 ?_
  obtain ⟨g1, hf⟩ := of_g hf
  refine r_getfN C _ (ga_0 g1) rfl (ga_m g1) (ly_ga cy _ g1 _) rfl in_X0 2 (by decide) tw_349 (v := nu (μ v3.toNat 2)) rfl dX3_workOneDay_90 ?_
  refine r_iload C rfl dX3_workOneDay_93 ?_
  refine r_if_eq C 105 hw0 rfl dX3_workOneDay_95 (fun c2 => ?_) (fun c2 => ?_)
  · replace hf := if_t hf c2
    refine r_iconst C dX3_workOneDay_105 ?_
    exact V_lw (w_X3_workOneDay_106 C hCF v1 v3 v4 1 (μ v3.toNat 2) v3 μ hv1 (inR_lit rfl) (ho0 _ _) hf) (And.intro rfl (And.intro rfl (And.intro rfl (And.intro rfl trivial))))
  · replace hf := if_f hf c2
    refine r_aload_n C 3 rfl rfl dX3_workOneDay_98 ?_
    refine r_getfN C _ (ga_0 g1) rfl (ga_m g1) (ly_ga cy _ g1 _) rfl in_X0 0 (by decide) tw_341 (v := nu (μ v3.toNat 0)) rfl dX3_workOneDay_99 ?_
    refine r_goto C 106 rfl dX3_workOneDay_102 ?_
    exact V_lw (w_X3_workOneDay_106 C hCF v1 v3 v4 (μ v3.toNat 0) (μ v3.toNat 2) v3 μ hv1 (ho0 _ _) (ho0 _ _) hf) (And.intro rfl (And.intro rfl (And.intro rfl (And.intro rfl trivial))))
set_option maxHeartbeats 4000000 in
set_option maxRecDepth 100000 in
theorem w_X3_workOneDay_81 {p : Program} {l : Launch} {e : Env} {s : State} {m : MethodId} {args : Array Value} {below : List Frame} {meth : Method} {c : Code} {D : va_G} {cy : Nat → ClassId} {A : Nat → Prop} {ids : List Nat} {ad : Nat → Nat} {r : Int} {μ' : Mem} (C : Cx p s m args meth c D (tyl cy) A 6 cX3_workOneDay yX3_workOneDay.cls none) (hCF : CF ad A s) : ∀ (v1 v3 v4 : Int) (μ : Mem), inR v1 → f_X3_workOneDay_81   v1 v3 v4 μ = some (r, μ') → V p l e (rmk 8) s m args below meth c 0 0 (MQ below (aV D (tyl cy) (lay cy) ids ad A r μ') args s 0 0 A) D A (lay cy) ids ad 6 μ 81 [some (rf 6), some (nu v1), none, some (rf v3), some (rf v4), none] [] := by
  intro v1 v3 v4 μ hv1 hf
  unfold f_X3_workOneDay_81 at hf
  refine V_in (fun ho0 _ => ?_)
  refine r_iconst C dX3_workOneDay_81 ?_
  refine r_goto C 86 rfl dX3_workOneDay_82 ?_
  exact V_lw (w_X3_workOneDay_86 C hCF v1 v3 v4 1 μ hv1 (inR_lit rfl) hf) (And.intro rfl (And.intro rfl (And.intro rfl (And.intro rfl trivial))))
set_option maxHeartbeats 4000000 in
set_option maxRecDepth 100000 in
theorem w_X3_workOneDay_68 {p : Program} {l : Launch} {e : Env} {s : State} {m : MethodId} {args : Array Value} {below : List Frame} {meth : Method} {c : Code} {D : va_G} {cy : Nat → ClassId} {A : Nat → Prop} {ids : List Nat} {ad : Nat → Nat} {r : Int} {μ' : Mem} (C : Cx p s m args meth c D (tyl cy) A 6 cX3_workOneDay yX3_workOneDay.cls none) (hCF : CF ad A s) : ∀ (v1 v3 v4 : Int) (μ : Mem), inR v1 → f_X3_workOneDay_68   v1 v3 v4 μ = some (r, μ') → V p l e (rmk 8) s m args below meth c 0 0 (MQ below (aV D (tyl cy) (lay cy) ids ad A r μ') args s 0 0 A) D A (lay cy) ids ad 6 μ 68 [some (rf 6), some (nu v1), none, some (rf v3), some (rf v4), none] [] := by
  intro v1 v3 v4 μ hv1 hf
  unfold f_X3_workOneDay_68 at hf
  refine V_in (fun ho0 _ => ?_)
  refine r_aload C rfl dX3_workOneDay_68 ?_
  refine r_ifnull C 81 rfl dX3_workOneDay_70 (fun c1 => ?_) (fun c1 => ?_)
  · replace hf := if_t hf c1
    exact V_lw (w_X3_workOneDay_81 C hCF v1 v3 v4 μ hv1 hf) (And.intro rfl (And.intro rfl (And.intro rfl (And.intro rfl trivial))))
  · replace hf := if_f hf c1
    refine r_aload C rfl dX3_workOneDay_73 ?_
    obtain ⟨g2, hf⟩ := of_g hf
    refine r_getfN C _ (st_0 g2) rfl (st_m g2) (ly_st cy _ g2 _) rfl in_X4 2 (by decide) tw_558 (v := nu (μ v4.toNat 2)) rfl dX3_workOneDay_75 ?_
    refine r_if_ne C 85 (ho0 _ _) rfl dX3_workOneDay_78 (fun c3 => ?_) (fun c3 => ?_)
    · replace hf := if_f hf c3
      refine r_iconst C dX3_workOneDay_85 ?_
      exact V_lw (w_X3_workOneDay_86 C hCF v1 v3 v4 0 μ hv1 (inR_lit rfl) hf) (And.intro rfl (And.intro rfl (And.intro rfl (And.intro rfl trivial))))
    · replace hf := if_t hf c3
      exact V_lw (w_X3_workOneDay_81 C hCF v1 v3 v4 μ hv1 hf) (And.intro rfl (And.intro rfl (And.intro rfl (And.intro rfl trivial))))
set_option maxHeartbeats 4000000 in
set_option maxRecDepth 100000 in
theorem c_X3_workOneDay {l : Launch} {D : va_G} {cy : Nat → ClassId} {ids : List Nat} {ad : Nat → Nat} {μ μ' : Mem} {a1 a2 r : Int} (h1 : inR a1) (h2 : inR a2) (hf : f_X3_workOneDay μ a1 a2 = some (r, μ')) : KK aV l D (tyl cy) (lay cy) ids ad 8 yX3_workOneDay cX3_workOneDay 6 none [rf 6, nu a1, nu a2] μ r μ' := by
  refine KK.of (by decide +kernel) (Nat.le_of_ble_eq_true rfl) ?_
  intro p e s m args below meth c A C hCF
  unfold f_X3_workOneDay at hf
  refine V_in (fun ho0 _ => ?_)
  refine r_aload_n C 0 rfl rfl dX3_workOneDay_0 ?_
  refine r_getf C 6 (by decide) rfl (fx_m rfl) (ly_6 cy _ _) rfl in_X3 3 (by decide) tw_151 (v := rf 19) rfl dX3_workOneDay_1 ?_
  refine r_iload_n C 1 rfl rfl dX3_workOneDay_4 ?_
  obtain ⟨g1, hf⟩ := of_g hf
  refine r_aald C 19 (by decide) rfl (fx_m rfl) 3 (cA := cy 3) (n := 6) (ly_19 cy _ _) rfl rfl g1 (by decide) dX3_workOneDay_5 ?_
  refine r_astore_n C 3 (lw := [some (rf 6), some (nu a1), some (nu a2), some (rf (μ 19 a1.toNat)), none, none]) rfl rfl (by decide) dX3_workOneDay_6 ?_
  refine r_aload_n C 0 rfl rfl dX3_workOneDay_7 ?_
  refine r_aload_n C 3 rfl rfl dX3_workOneDay_8 ?_
  obtain ⟨g2, hf⟩ := of_g hf
  refine r_getfN C _ (ga_0 g2) rfl (ga_m g2) (ly_ga cy _ g2 _) rfl in_X0 1 (by decide) tw_345 (v := nu (μ (μ 19 a1.toNat).toNat 1)) rfl dX3_workOneDay_9 ?_
  obtain ⟨r3, μ4, hc5, hf⟩ := of_bd hf
  refine r_callVR C hCF (As := [nu (μ (μ 19 a1.toNat).toNat 1)]) 6 (by decide) rfl (fx_m rfl) (ly_6 cy _ _) rfl (c_X3_stoneAt (ho0 _ _) hc5) rfl (by decide) (by decide) ⟨Nat.le_refl 0, Nat.le_refl 0⟩ tw_595 tw_598 tw_7 tw_596 tw_597 1 (by decide) rfl (Nat.le_of_ble_eq_true rfl) dX3_workOneDay_12 ?_
  refine V_in (fun ho6 _ => ?_)
  refine r_astore C (lw := [some (rf 6), some (nu a1), some (nu a2), some (rf (μ 19 a1.toNat)), some (rf r3), none]) rfl (by decide) dX3_workOneDay_15 ?_
  refine r_aload_n C 3 rfl rfl dX3_workOneDay_17 ?_
  obtain ⟨g8, hf⟩ := of_g hf
  refine r_getfN C _ (ga_0 g8) rfl (ga_m g8) (ly_ga cy _ g8 _) rfl in_X0 1 (by decide) tw_345 (v := nu (μ4 (μ 19 a1.toNat).toNat 1)) rfl dX3_workOneDay_18 ?_
  refine r_iconst C dX3_workOneDay_21 ?_
  refine r_icmp_ne C 26 (ho6 _ _) (inR_lit rfl) rfl dX3_workOneDay_22 (fun c9 => ?_) (fun c9 => ?_)
  · replace hf := if_f hf c9
    refine r_aload C rfl dX3_workOneDay_26 ?_
    refine r_ifnull C 68 rfl dX3_workOneDay_28 (fun c10 => ?_) (fun c10 => ?_)
    · replace hf := if_t hf c10
      exact V_lw (w_X3_workOneDay_68 C hCF a1 (μ 19 a1.toNat) r3 μ4 h1 hf) (And.intro rfl (And.intro rfl (And.intro rfl (And.intro rfl trivial))))
    · replace hf := if_f hf c10
      refine r_aload C rfl dX3_workOneDay_31 ?_
      obtain ⟨g11, hf⟩ := of_g hf
      obtain ⟨r12, μ13, hc14, hf⟩ := of_bd hf
      refine r_callVI C hCF (As := []) _ (st_0 g11) rfl (st_m g11) (ly_st cy _ g11 _) rfl (c_X4_wantsHaul hc14) rfl (by decide) (by decide) ⟨Nat.le_refl 0, Nat.le_refl 0⟩ tw_693 tw_618 tw_17 tw_616 tw_617 0 (by decide) rfl (Nat.le_of_ble_eq_true rfl) dX3_workOneDay_33 (fun hr16 => ?_)
      refine V_in (fun ho15 _ => ?_)
      refine r_if_eq C 68 hr16 rfl dX3_workOneDay_36 (fun c17 => ?_) (fun c17 => ?_)
      · replace hf := if_t hf c17
        exact V_lw (w_X3_workOneDay_68 C hCF a1 (μ 19 a1.toNat) r3 μ13 h1 hf) (And.intro rfl (And.intro rfl (And.intro rfl (And.intro rfl trivial))))
      · replace hf := if_f hf c17
        refine r_aload_n C 0 rfl rfl dX3_workOneDay_39 ?_
        refine r_aload_n C 0 rfl rfl dX3_workOneDay_40 ?_
        refine r_getf C 6 (by decide) rfl (fx_m rfl) (ly_6 cy _ _) rfl in_X3 0 (by decide) tw_148 (v := rf 4) rfl dX3_workOneDay_41 ?_
        refine r_aload C rfl dX3_workOneDay_44 ?_
        refine r_iload_n C 2 rfl rfl dX3_workOneDay_46 ?_
        obtain ⟨r18, μ19, hc20, hf⟩ := of_bd hf
        refine r_callVI C hCF (As := [rf r3, nu a2]) 4 (by decide) rfl (fx_m rfl) (ly_4 cy _ _) rfl (c_X6_pullOf h2 hc20) rfl (by decide) (by decide) ⟨Nat.le_refl 0, Nat.le_refl 0⟩ tw_611 tw_614 tw_5 tw_612 tw_613 2 (by decide) rfl (Nat.le_of_ble_eq_true rfl) dX3_workOneDay_47 (fun hr22 => ?_)
        refine V_in (fun ho21 _ => ?_)
        refine r_aload_n C 3 rfl rfl dX3_workOneDay_50 ?_
        obtain ⟨r23, μ24, hc25, hf⟩ := of_bd hf
        refine r_callVI C hCF (As := [nu r18, rf (μ 19 a1.toNat)]) 6 (by decide) rfl (fx_m rfl) (ly_6 cy _ _) rfl (c_X3_isTooHeavy hr22 hc25) rfl (by decide) (by decide) ⟨Nat.le_refl 0, Nat.le_refl 0⟩ tw_694 tw_697 tw_7 tw_696 ts_14 2 (by decide) rfl (Nat.le_of_ble_eq_true rfl) dX3_workOneDay_51 (fun hr27 => ?_)
        refine V_in (fun ho26 _ => ?_)
        refine r_if_eq C 68 hr27 rfl dX3_workOneDay_54 (fun c28 => ?_) (fun c28 => ?_)
        · replace hf := if_t hf c28
          exact V_lw (w_X3_workOneDay_68 C hCF a1 (μ 19 a1.toNat) r3 μ24 h1 hf) (And.intro rfl (And.intro rfl (And.intro rfl (And.intro rfl trivial))))
        · replace hf := if_f hf c28
          refine r_aload_n C 3 rfl rfl dX3_workOneDay_57 ?_
          refine r_dup C dX3_workOneDay_58 ?_
          obtain ⟨g29, hf⟩ := of_g hf
          refine r_getfN C _ (ga_0 g29) rfl (ga_m g29) (ly_ga cy _ g29 _) rfl in_X0 4 (by decide) tw_355 (v := nu (μ24 (μ 19 a1.toNat).toNat 4)) rfl dX3_workOneDay_59 ?_
          refine r_iconst C dX3_workOneDay_62 ?_
          refine r_iadd C dX3_workOneDay_63 ?_
          obtain ⟨g30, hf⟩ := of_g hf
          refine r_putfN C _ (ga_0 g29) rfl (ga_m g29) (ga_9 g29) (ly_ga cy _ g29 _) 4 (ly_ga cy _ g29 _) rfl (Nat.le_of_ble_eq_true rfl) g30 rfl in_X0 tyX0 tyX0_ok nmX0 (by decide) tw_355 rfl rfl dX3_workOneDay_64 (fun μ31 hμ33 => ?_)
          replace hf := of_lm hf hμ33
          refine V_in (fun ho32 _ => ?_)
          obtain ⟨-, rfl⟩ := of_ret hf
          exact r_vret C rfl dX3_workOneDay_67
  · replace hf := if_t hf c9
    obtain ⟨-, rfl⟩ := of_ret hf
    exact r_vret C rfl dX3_workOneDay_25
set_option maxHeartbeats 4000000 in
set_option maxRecDepth 100000 in
theorem w_X3_liveDay_122 {p : Program} {l : Launch} {e : Env} {s : State} {m : MethodId} {args : Array Value} {below : List Frame} {meth : Method} {c : Code} {D : va_G} {cy : Nat → ClassId} {A : Nat → Prop} {ids : List Nat} {ad : Nat → Nat} {r : Int} {μ' : Mem} (C : Cx p s m args meth c D (tyl cy) A 5 cX3_liveDay yX3_liveDay.cls none) (hCF : CF ad A s) : ∀ n : Nat, ∀ (v1 v2 v3 v4 : Int) (μ : Mem), inR v1 → inR v2 → inR v3 → inR v4 → f_X3_liveDay_122   n v1 v2 v3 v4 μ = some (r, μ') → V p l e (rmk 10) s m args below meth c 0 0 (MQ below (aV D (tyl cy) (lay cy) ids ad A r μ') args s 0 0 A) D A (lay cy) ids ad 5 μ 122 [some (rf 6), some (nu v1), some (nu v2), some (nu v3), some (nu v4)] [] := by
  intro n
  induction n with
  | zero =>
    intro v1 v2 v3 v4 μ hv1 hv2 hv3 hv4 hf
    cases hf
  | succ n ih =>
    intro v1 v2 v3 v4 μ hv1 hv2 hv3 hv4 hf
    rw [f_X3_liveDay_122_e] at hf
    refine V_in (fun ho0 _ => ?_)
    refine r_iload C rfl dX3_liveDay_122 ?_
    refine r_aload_n C 0 rfl rfl dX3_liveDay_124 ?_
    refine r_getf C 6 (by decide) rfl (fx_m rfl) (ly_6 cy _ _) rfl in_X3 5 (by decide) tw_153 (v := nu (μ 6 5)) rfl dX3_liveDay_125 ?_
    refine r_icmp_ge C 180 hv4 (ho0 _ _) rfl dX3_liveDay_128 (fun c1 => ?_) (fun c1 => ?_)
    · replace hf := if_t hf c1
      refine r_aload_n C 0 rfl rfl dX3_liveDay_180 ?_
      refine r_dup C dX3_liveDay_181 ?_
      refine r_getf C 6 (by decide) rfl (fx_m rfl) (ly_6 cy _ _) rfl in_X3 9 (by decide) tw_162 (v := nu (μ 6 9)) rfl dX3_liveDay_182 ?_
      refine r_iconst C dX3_liveDay_185 ?_
      refine r_iadd C dX3_liveDay_186 ?_
      obtain ⟨g2, hf⟩ := of_g hf
      refine r_putf C 6 (by decide) rfl (fx_m rfl) (by decide) (ly_6 cy _ _) 9 (ly_6 cy _ _) rfl (Nat.le_of_ble_eq_true rfl) g2 rfl in_X3 tyX3 tyX3_ok nmX3 (by decide) tw_162 rfl rfl dX3_liveDay_187 (fun μ3 hμ5 => ?_)
      replace hf := of_lm hf hμ5
      refine V_in (fun ho4 _ => ?_)
      obtain ⟨-, rfl⟩ := of_ret hf
      exact r_vret C rfl dX3_liveDay_190
    · replace hf := if_f hf c1
      refine r_aload_n C 0 rfl rfl dX3_liveDay_131 ?_
      refine r_aload_n C 0 rfl rfl dX3_liveDay_132 ?_
      refine r_getf C 6 (by decide) rfl (fx_m rfl) (ly_6 cy _ _) rfl in_X3 3 (by decide) tw_151 (v := rf 19) rfl dX3_liveDay_133 ?_
      refine r_iload C rfl dX3_liveDay_136 ?_
      obtain ⟨g6, hf⟩ := of_g hf
      refine r_aald C 19 (by decide) rfl (fx_m rfl) 3 (cA := cy 3) (n := 6) (ly_19 cy _ _) rfl rfl g6 (by decide) dX3_liveDay_138 ?_
      obtain ⟨r7, μ8, hc9, hf⟩ := of_bd hf
      refine r_callVI C hCF (As := [rf (μ 19 v4.toNat)]) 6 (by decide) rfl (fx_m rfl) (ly_6 cy _ _) rfl (c_X3_isRafting hc9) rfl (by decide) (by decide) ⟨Nat.le_refl 0, Nat.le_refl 0⟩ tw_685 tw_688 tw_7 tw_687 ts_12 1 (by decide) rfl (Nat.le_of_ble_eq_true rfl) dX3_liveDay_139 (fun hr11 => ?_)
      refine V_in (fun ho10 _ => ?_)
      refine r_if_eq C 163 hr11 rfl dX3_liveDay_142 (fun c12 => ?_) (fun c12 => ?_)
      · replace hf := if_t hf c12
        refine r_iload_n C 1 rfl rfl dX3_liveDay_163 ?_
        refine r_if_ne C 174 hv1 rfl dX3_liveDay_164 (fun c13 => ?_) (fun c13 => ?_)
        · replace hf := if_f hf c13
          refine r_iinc C rfl (lw := [some (rf 6), some (nu v1), some (nu v2), some (nu v3), some (nu (v4 + 1))]) rfl (by decide) dX3_liveDay_174 ?_
          refine r_goto C 122 rfl dX3_liveDay_177 ?_
          obtain ⟨g14, hf⟩ := of_g hf
          exact V_lw (ih v1 v2 v3 (v4 + 1) μ8 hv1 hv2 hv3 g14 hf) (And.intro rfl (And.intro rfl (And.intro rfl (And.intro rfl (And.intro rfl trivial)))))
        · replace hf := if_t hf c13
          refine r_aload_n C 0 rfl rfl dX3_liveDay_167 ?_
          refine r_iload C rfl dX3_liveDay_168 ?_
          refine r_iload_n C 3 rfl rfl dX3_liveDay_170 ?_
          obtain ⟨r15, μ16, hc17, hf⟩ := of_bd hf
          refine r_callVV C hCF (As := [nu v4, nu v3]) 6 (by decide) rfl (fx_m rfl) (ly_6 cy _ _) rfl (c_X3_workOneDay hv4 hv3 hc17) rfl (by decide) (by decide) ⟨Nat.le_refl 0, Nat.le_refl 0⟩ tw_689 tw_692 tw_7 tw_691 ts_13 2 (by decide) rfl (Nat.le_of_ble_eq_true rfl) dX3_liveDay_171 ?_
          refine V_in (fun ho18 _ => ?_)
          refine r_iinc C rfl (lw := [some (rf 6), some (nu v1), some (nu v2), some (nu v3), some (nu (v4 + 1))]) rfl (by decide) dX3_liveDay_174 ?_
          refine r_goto C 122 rfl dX3_liveDay_177 ?_
          obtain ⟨g20, hf⟩ := of_g hf
          exact V_lw (ih v1 v2 v3 (v4 + 1) μ16 hv1 hv2 hv3 g20 hf) (And.intro rfl (And.intro rfl (And.intro rfl (And.intro rfl (And.intro rfl trivial)))))
      · replace hf := if_f hf c12
        refine r_iload_n C 2 rfl rfl dX3_liveDay_145 ?_
        refine r_if_ne C 163 hv2 rfl dX3_liveDay_146 (fun c21 => ?_) (fun c21 => ?_)
        · replace hf := if_f hf c21
          refine r_iload_n C 1 rfl rfl dX3_liveDay_163 ?_
          refine r_if_ne C 174 hv1 rfl dX3_liveDay_164 (fun c22 => ?_) (fun c22 => ?_)
          · replace hf := if_f hf c22
            refine r_iinc C rfl (lw := [some (rf 6), some (nu v1), some (nu v2), some (nu v3), some (nu (v4 + 1))]) rfl (by decide) dX3_liveDay_174 ?_
            refine r_goto C 122 rfl dX3_liveDay_177 ?_
            obtain ⟨g23, hf⟩ := of_g hf
            exact V_lw (ih v1 v2 v3 (v4 + 1) μ8 hv1 hv2 hv3 g23 hf) (And.intro rfl (And.intro rfl (And.intro rfl (And.intro rfl (And.intro rfl trivial)))))
          · replace hf := if_t hf c22
            refine r_aload_n C 0 rfl rfl dX3_liveDay_167 ?_
            refine r_iload C rfl dX3_liveDay_168 ?_
            refine r_iload_n C 3 rfl rfl dX3_liveDay_170 ?_
            obtain ⟨r24, μ25, hc26, hf⟩ := of_bd hf
            refine r_callVV C hCF (As := [nu v4, nu v3]) 6 (by decide) rfl (fx_m rfl) (ly_6 cy _ _) rfl (c_X3_workOneDay hv4 hv3 hc26) rfl (by decide) (by decide) ⟨Nat.le_refl 0, Nat.le_refl 0⟩ tw_689 tw_692 tw_7 tw_691 ts_13 2 (by decide) rfl (Nat.le_of_ble_eq_true rfl) dX3_liveDay_171 ?_
            refine V_in (fun ho27 _ => ?_)
            refine r_iinc C rfl (lw := [some (rf 6), some (nu v1), some (nu v2), some (nu v3), some (nu (v4 + 1))]) rfl (by decide) dX3_liveDay_174 ?_
            refine r_goto C 122 rfl dX3_liveDay_177 ?_
            obtain ⟨g29, hf⟩ := of_g hf
            exact V_lw (ih v1 v2 v3 (v4 + 1) μ25 hv1 hv2 hv3 g29 hf) (And.intro rfl (And.intro rfl (And.intro rfl (And.intro rfl (And.intro rfl trivial)))))
        · replace hf := if_t hf c21
          refine r_aload_n C 0 rfl rfl dX3_liveDay_149 ?_
          refine r_aload_n C 0 rfl rfl dX3_liveDay_150 ?_
          refine r_getf C 6 (by decide) rfl (fx_m rfl) (ly_6 cy _ _) rfl in_X3 3 (by decide) tw_151 (v := rf 19) rfl dX3_liveDay_151 ?_
          refine r_iload C rfl dX3_liveDay_154 ?_
          refine r_aald C 19 (by decide) rfl (fx_m rfl) 3 (cA := cy 3) (n := 6) (ly_19 cy _ _) rfl rfl g6 (by decide) dX3_liveDay_156 ?_
          obtain ⟨r30, μ31, hc32, hf⟩ := of_bd hf
          refine r_callVV C hCF (As := [rf (μ8 19 v4.toNat)]) 6 (by decide) rfl (fx_m rfl) (ly_6 cy _ _) rfl (c_X3_leaveWork hc32) rfl (by decide) (by decide) ⟨Nat.le_refl 0, Nat.le_refl 0⟩ tw_663 tw_666 tw_7 tw_665 ts_11 1 (by decide) rfl (Nat.le_of_ble_eq_true rfl) dX3_liveDay_157 ?_
          refine V_in (fun ho33 _ => ?_)
          refine r_goto C 174 rfl dX3_liveDay_160 ?_
          refine r_iinc C rfl (lw := [some (rf 6), some (nu v1), some (nu v2), some (nu v3), some (nu (v4 + 1))]) rfl (by decide) dX3_liveDay_174 ?_
          refine r_goto C 122 rfl dX3_liveDay_177 ?_
          obtain ⟨g35, hf⟩ := of_g hf
          exact V_lw (ih v1 v2 v3 (v4 + 1) μ31 hv1 hv2 hv3 g35 hf) (And.intro rfl (And.intro rfl (And.intro rfl (And.intro rfl (And.intro rfl trivial)))))
set_option maxHeartbeats 4000000 in
set_option maxRecDepth 100000 in
theorem w_X3_liveDay_93 {p : Program} {l : Launch} {e : Env} {s : State} {m : MethodId} {args : Array Value} {below : List Frame} {meth : Method} {c : Code} {D : va_G} {cy : Nat → ClassId} {A : Nat → Prop} {ids : List Nat} {ad : Nat → Nat} {r : Int} {μ' : Mem} (C : Cx p s m args meth c D (tyl cy) A 5 cX3_liveDay yX3_liveDay.cls none) (hCF : CF ad A s) : ∀ (v1 w0 : Int) (μ : Mem), inR v1 → inR w0 → f_X3_liveDay_93   v1 w0 μ = some (r, μ') → V p l e (rmk 10) s m args below meth c 0 0 (MQ below (aV D (tyl cy) (lay cy) ids ad A r μ') args s 0 0 A) D A (lay cy) ids ad 5 μ 93 [some (rf 6), some (nu v1), none, none, none] [nu w0] := by
  intro v1 w0 μ hv1 hw0 hf
  unfold f_X3_liveDay_93 at hf
  refine V_in (fun ho0 _ => ?_)
  refine r_istore_n C 2 (lw := [some (rf 6), some (nu v1), some (nu w0), none, none]) rfl rfl (by decide) dX3_liveDay_93 ?_
  refine r_iload_n C 1 rfl rfl dX3_liveDay_94 ?_
  refine r_if_ne C 117 hv1 rfl dX3_liveDay_95 (fun c1 => ?_) (fun c1 => ?_)
  · replace hf := if_f hf c1
    refine r_iconst C dX3_liveDay_117 ?_
    refine r_istore_n C 3 (lw := [some (rf 6), some (nu v1), some (nu w0), some (nu 0), none]) rfl rfl (by decide) dX3_liveDay_118 ?_
    refine r_iconst C dX3_liveDay_119 ?_
    refine r_istore C (lw := [some (rf 6), some (nu v1), some (nu w0), some (nu 0), some (nu 0)]) rfl (by decide) dX3_liveDay_120 ?_
    exact V_lw (w_X3_liveDay_122 C hCF 64 v1 w0 0 0 μ hv1 hw0 (inR_lit rfl) (inR_lit rfl) hf) (And.intro rfl (And.intro rfl (And.intro rfl (And.intro rfl (And.intro rfl trivial)))))
  · replace hf := if_t hf c1
    refine r_aload_n C 0 rfl rfl dX3_liveDay_98 ?_
    refine r_getf C 6 (by decide) rfl (fx_m rfl) (ly_6 cy _ _) rfl in_X3 1 (by decide) tw_149 (v := rf 1) rfl dX3_liveDay_99 ?_
    refine r_iconst C dX3_liveDay_102 ?_
    refine r_aload_n C 0 rfl rfl dX3_liveDay_103 ?_
    refine r_getf C 6 (by decide) rfl (fx_m rfl) (ly_6 cy _ _) rfl in_X3 9 (by decide) tw_162 (v := nu (μ 6 9)) rfl dX3_liveDay_104 ?_
    obtain ⟨r2, μ3, hc4, hf⟩ := of_bd hf
    refine r_callVI C hCF (As := [nu 1, nu (μ 6 9)]) 1 (by decide) rfl (fx_m rfl) (ly_1 cy _ _) rfl (c_X2_isOn (inR_lit rfl) (ho0 _ _) hc4) rfl (by decide) (by decide) ⟨Nat.le_refl 0, Nat.le_refl 0⟩ tw_607 tw_610 tw_2 tw_608 tw_609 2 (by decide) rfl (Nat.le_of_ble_eq_true rfl) dX3_liveDay_107 (fun hr6 => ?_)
    refine V_in (fun ho5 _ => ?_)
    refine r_if_eq C 117 hr6 rfl dX3_liveDay_110 (fun c7 => ?_) (fun c7 => ?_)
    · replace hf := if_t hf c7
      refine r_iconst C dX3_liveDay_117 ?_
      refine r_istore_n C 3 (lw := [some (rf 6), some (nu v1), some (nu w0), some (nu 0), none]) rfl rfl (by decide) dX3_liveDay_118 ?_
      refine r_iconst C dX3_liveDay_119 ?_
      refine r_istore C (lw := [some (rf 6), some (nu v1), some (nu w0), some (nu 0), some (nu 0)]) rfl (by decide) dX3_liveDay_120 ?_
      exact V_lw (w_X3_liveDay_122 C hCF 64 v1 w0 0 0 μ3 hv1 hw0 (inR_lit rfl) (inR_lit rfl) hf) (And.intro rfl (And.intro rfl (And.intro rfl (And.intro rfl (And.intro rfl trivial)))))
    · replace hf := if_f hf c7
      refine r_iconst C dX3_liveDay_113 ?_
      refine r_goto C 118 rfl dX3_liveDay_114 ?_
      refine r_istore_n C 3 (lw := [some (rf 6), some (nu v1), some (nu w0), some (nu 1), none]) rfl rfl (by decide) dX3_liveDay_118 ?_
      refine r_iconst C dX3_liveDay_119 ?_
      refine r_istore C (lw := [some (rf 6), some (nu v1), some (nu w0), some (nu 1), some (nu 0)]) rfl (by decide) dX3_liveDay_120 ?_
      exact V_lw (w_X3_liveDay_122 C hCF 64 v1 w0 1 0 μ3 hv1 hw0 (inR_lit rfl) (inR_lit rfl) hf) (And.intro rfl (And.intro rfl (And.intro rfl (And.intro rfl (And.intro rfl trivial)))))
set_option maxHeartbeats 4000000 in
set_option maxRecDepth 100000 in
theorem w_X3_liveDay_92 {p : Program} {l : Launch} {e : Env} {s : State} {m : MethodId} {args : Array Value} {below : List Frame} {meth : Method} {c : Code} {D : va_G} {cy : Nat → ClassId} {A : Nat → Prop} {ids : List Nat} {ad : Nat → Nat} {r : Int} {μ' : Mem} (C : Cx p s m args meth c D (tyl cy) A 5 cX3_liveDay yX3_liveDay.cls none) (hCF : CF ad A s) : ∀ (v1 : Int) (μ : Mem), inR v1 → f_X3_liveDay_92   v1 μ = some (r, μ') → V p l e (rmk 10) s m args below meth c 0 0 (MQ below (aV D (tyl cy) (lay cy) ids ad A r μ') args s 0 0 A) D A (lay cy) ids ad 5 μ 92 [some (rf 6), some (nu v1), none, none, none] [] := by
  intro v1 μ hv1 hf
  unfold f_X3_liveDay_92 at hf
  refine V_in (fun ho0 _ => ?_)
  refine r_iconst C dX3_liveDay_92 ?_
  exact V_lw (w_X3_liveDay_93 C hCF v1 0 μ hv1 (inR_lit rfl) hf) (And.intro rfl (And.intro rfl trivial))
set_option maxHeartbeats 4000000 in
set_option maxRecDepth 100000 in
theorem w_X3_liveDay_69 {p : Program} {l : Launch} {e : Env} {s : State} {m : MethodId} {args : Array Value} {below : List Frame} {meth : Method} {c : Code} {D : va_G} {cy : Nat → ClassId} {A : Nat → Prop} {ids : List Nat} {ad : Nat → Nat} {r : Int} {μ' : Mem} (C : Cx p s m args meth c D (tyl cy) A 5 cX3_liveDay yX3_liveDay.cls none) (hCF : CF ad A s) : ∀ (v1 : Int) (μ : Mem), inR v1 → f_X3_liveDay_69   v1 μ = some (r, μ') → V p l e (rmk 10) s m args below meth c 0 0 (MQ below (aV D (tyl cy) (lay cy) ids ad A r μ') args s 0 0 A) D A (lay cy) ids ad 5 μ 69 [some (rf 6), some (nu v1), none, none, none] [] := by
  intro v1 μ hv1 hf
  unfold f_X3_liveDay_69 at hf
  refine V_in (fun ho0 _ => ?_)
  refine r_iload_n C 1 rfl rfl dX3_liveDay_69 ?_
  refine r_if_ne C 92 hv1 rfl dX3_liveDay_70 (fun c1 => ?_) (fun c1 => ?_)
  · replace hf := if_f hf c1
    exact V_lw (w_X3_liveDay_92 C hCF v1 μ hv1 hf) (And.intro rfl (And.intro rfl trivial))
  · replace hf := if_t hf c1
    refine r_aload_n C 0 rfl rfl dX3_liveDay_73 ?_
    refine r_getf C 6 (by decide) rfl (fx_m rfl) (ly_6 cy _ _) rfl in_X3 1 (by decide) tw_149 (v := rf 1) rfl dX3_liveDay_74 ?_
    refine r_iconst C dX3_liveDay_77 ?_
    refine r_aload_n C 0 rfl rfl dX3_liveDay_78 ?_
    refine r_getf C 6 (by decide) rfl (fx_m rfl) (ly_6 cy _ _) rfl in_X3 9 (by decide) tw_162 (v := nu (μ 6 9)) rfl dX3_liveDay_79 ?_
    obtain ⟨r2, μ3, hc4, hf⟩ := of_bd hf
    refine r_callVI C hCF (As := [nu 0, nu (μ 6 9)]) 1 (by decide) rfl (fx_m rfl) (ly_1 cy _ _) rfl (c_X2_isOn (inR_lit rfl) (ho0 _ _) hc4) rfl (by decide) (by decide) ⟨Nat.le_refl 0, Nat.le_refl 0⟩ tw_607 tw_610 tw_2 tw_608 tw_609 2 (by decide) rfl (Nat.le_of_ble_eq_true rfl) dX3_liveDay_82 (fun hr6 => ?_)
    refine V_in (fun ho5 _ => ?_)
    refine r_if_eq C 92 hr6 rfl dX3_liveDay_85 (fun c7 => ?_) (fun c7 => ?_)
    · replace hf := if_t hf c7
      exact V_lw (w_X3_liveDay_92 C hCF v1 μ3 hv1 hf) (And.intro rfl (And.intro rfl trivial))
    · replace hf := if_f hf c7
      refine r_iconst C dX3_liveDay_88 ?_
      refine r_goto C 93 rfl dX3_liveDay_89 ?_
      exact V_lw (w_X3_liveDay_93 C hCF v1 1 μ3 hv1 (inR_lit rfl) hf) (And.intro rfl (And.intro rfl trivial))
set_option maxHeartbeats 4000000 in
set_option maxRecDepth 100000 in
theorem c_X3_liveDay {l : Launch} {D : va_G} {cy : Nat → ClassId} {ids : List Nat} {ad : Nat → Nat} {μ μ' : Mem} { r : Int}  (hf : f_X3_liveDay μ  = some (r, μ')) : KK aV l D (tyl cy) (lay cy) ids ad 10 yX3_liveDay cX3_liveDay 5 none [rf 6] μ r μ' := by
  refine KK.of (by decide +kernel) (Nat.le_of_ble_eq_true rfl) ?_
  intro p e s m args below meth c A C hCF
  unfold f_X3_liveDay at hf
  refine V_in (fun ho0 _ => ?_)
  refine r_aload_n C 0 rfl rfl dX3_liveDay_0 ?_
  refine r_getf C 6 (by decide) rfl (fx_m rfl) (ly_6 cy _ _) rfl in_X3 2 (by decide) tw_150 (v := rf 2) rfl dX3_liveDay_1 ?_
  refine r_aload_n C 0 rfl rfl dX3_liveDay_4 ?_
  refine r_getf C 6 (by decide) rfl (fx_m rfl) (ly_6 cy _ _) rfl in_X3 9 (by decide) tw_162 (v := nu (μ 6 9)) rfl dX3_liveDay_5 ?_
  obtain ⟨r1, μ2, hc3, hf⟩ := of_bd hf
  refine r_callVV C hCF (As := [nu (μ 6 9)]) 2 (by decide) rfl (fx_m rfl) (ly_2 cy _ _) rfl (c_X5_landBoats (ho0 _ _) hc3) rfl (by decide) (by decide) ⟨Nat.le_refl 0, Nat.le_refl 0⟩ tw_679 tw_682 tw_3 tw_680 tw_681 1 (by decide) rfl (Nat.le_of_ble_eq_true rfl) dX3_liveDay_8 ?_
  refine V_in (fun ho4 _ => ?_)
  refine r_aload_n C 0 rfl rfl dX3_liveDay_11 ?_
  refine r_getf C 6 (by decide) rfl (fx_m rfl) (ly_6 cy _ _) rfl in_X3 1 (by decide) tw_149 (v := rf 1) rfl dX3_liveDay_12 ?_
  refine r_iconst C dX3_liveDay_15 ?_
  refine r_aload_n C 0 rfl rfl dX3_liveDay_16 ?_
  refine r_getf C 6 (by decide) rfl (fx_m rfl) (ly_6 cy _ _) rfl in_X3 9 (by decide) tw_162 (v := nu (μ2 6 9)) rfl dX3_liveDay_17 ?_
  obtain ⟨r6, μ7, hc8, hf⟩ := of_bd hf
  refine r_callVI C hCF (As := [nu 2, nu (μ2 6 9)]) 1 (by decide) rfl (fx_m rfl) (ly_1 cy _ _) rfl (c_X2_isOn (inR_lit rfl) (ho4 _ _) hc8) rfl (by decide) (by decide) ⟨Nat.le_refl 0, Nat.le_refl 0⟩ tw_607 tw_610 tw_2 tw_608 tw_609 2 (by decide) rfl (Nat.le_of_ble_eq_true rfl) dX3_liveDay_20 (fun hr10 => ?_)
  refine V_in (fun ho9 _ => ?_)
  refine r_istore_n C 1 (lw := [some (rf 6), some (nu r6), none, none, none]) rfl rfl (by decide) dX3_liveDay_23 ?_
  refine r_aload_n C 0 rfl rfl dX3_liveDay_24 ?_
  refine r_getf C 6 (by decide) rfl (fx_m rfl) (ly_6 cy _ _) rfl in_X3 2 (by decide) tw_150 (v := rf 2) rfl dX3_liveDay_25 ?_
  refine r_getfN C 2 (by decide) rfl (fx_m rfl) (ly_2 cy _ _) rfl in_X5 3 (by decide) tw_68 (v := nu (μ7 2 3)) rfl dX3_liveDay_28 ?_
  refine r_aload_n C 0 rfl rfl dX3_liveDay_31 ?_
  refine r_getf C 6 (by decide) rfl (fx_m rfl) (ly_6 cy _ _) rfl in_X3 7 (by decide) tw_158 (v := nu (μ7 6 7)) rfl dX3_liveDay_32 ?_
  refine r_icmp_ge C 53 (ho9 _ _) (ho9 _ _) rfl dX3_liveDay_35 (fun c11 => ?_) (fun c11 => ?_)
  · replace hf := if_t hf c11
    refine r_aload_n C 0 rfl rfl dX3_liveDay_53 ?_
    refine r_getf C 6 (by decide) rfl (fx_m rfl) (ly_6 cy _ _) rfl in_X3 2 (by decide) tw_150 (v := rf 2) rfl dX3_liveDay_54 ?_
    refine r_dup C dX3_liveDay_57 ?_
    refine r_getfN C 2 (by decide) rfl (fx_m rfl) (ly_2 cy _ _) rfl in_X5 3 (by decide) tw_68 (v := nu (μ7 2 3)) rfl dX3_liveDay_58 ?_
    refine r_aload_n C 0 rfl rfl dX3_liveDay_61 ?_
    refine r_getf C 6 (by decide) rfl (fx_m rfl) (ly_6 cy _ _) rfl in_X3 7 (by decide) tw_158 (v := nu (μ7 6 7)) rfl dX3_liveDay_62 ?_
    refine r_isub C dX3_liveDay_65 ?_
    obtain ⟨g12, hf⟩ := of_g hf
    refine r_putfN C 2 (by decide) rfl (fx_m rfl) (by decide) (ly_2 cy _ _) 3 (ly_2 cy _ _) rfl (Nat.le_of_ble_eq_true rfl) g12 rfl in_X5 tyX5 tyX5_ok nmX5 (by decide) tw_68 rfl rfl dX3_liveDay_66 (fun μ13 hμ15 => ?_)
    replace hf := of_lm hf hμ15
    refine V_in (fun ho14 _ => ?_)
    exact V_lw (w_X3_liveDay_69 C hCF r6 μ13 hr10 hf) (And.intro rfl (And.intro rfl trivial))
  · replace hf := if_f hf c11
    refine r_aload_n C 0 rfl rfl dX3_liveDay_38 ?_
    refine r_dup C dX3_liveDay_39 ?_
    refine r_getf C 6 (by decide) rfl (fx_m rfl) (ly_6 cy _ _) rfl in_X3 10 (by decide) tw_165 (v := nu (μ7 6 10)) rfl dX3_liveDay_40 ?_
    refine r_iconst C dX3_liveDay_43 ?_
    refine r_iadd C dX3_liveDay_44 ?_
    obtain ⟨g16, hf⟩ := of_g hf
    refine r_putf C 6 (by decide) rfl (fx_m rfl) (by decide) (ly_6 cy _ _) 10 (ly_6 cy _ _) rfl (Nat.le_of_ble_eq_true rfl) g16 rfl in_X3 tyX3 tyX3_ok nmX3 (by decide) tw_165 rfl rfl dX3_liveDay_45 (fun μ17 hμ19 => ?_)
    replace hf := of_lm hf hμ19
    refine V_in (fun ho18 _ => ?_)
    refine r_iconst C dX3_liveDay_48 ?_
    refine r_istore_n C 1 (lw := [some (rf 6), some (nu 1), none, none, none]) rfl rfl (by decide) dX3_liveDay_49 ?_
    refine r_goto C 69 rfl dX3_liveDay_50 ?_
    exact V_lw (w_X3_liveDay_69 C hCF 1 μ17 (inR_lit rfl) hf) (And.intro rfl (And.intro rfl trivial))
