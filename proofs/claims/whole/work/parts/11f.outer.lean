set_option maxHeartbeats 4000000 in
set_option maxRecDepth 100000 in
theorem c_X10_boat {l : Launch} {D : va_G} {cy : Nat → ClassId} {ids : List Nat} {ad : Nat → Nat} {μ μ' : Mem} {a1 a2 r : Int} (h1 : inR a1) (h2 : inR a2) (hf : f_X10_boat μ a1 a2 = some (r, μ')) : KK aI l D (tyl cy) (lay cy) ids ad 6 yX10_boat cX10_boat 3 (some .int) [rf 0, nu a1, nu a2] μ r μ' := by
  refine KK.of (by decide +kernel) (Nat.le_of_ble_eq_true rfl) ?_
  intro p e s m args below meth c A C hCF
  unfold f_X10_boat at hf
  refine V_in (fun ho0 _ => ?_)
  refine r_iload_n C 1 rfl rfl dX10_boat_0 ?_
  refine r_aload_n C 0 rfl rfl dX10_boat_1 ?_
  refine r_getf C 0 (by decide) rfl (fx_m rfl) (ly_0 cy _ _) rfl in_X10 5 (by decide) tw_306 (v := rf 6) rfl dX10_boat_2 ?_
  refine r_getfN C 6 (by decide) rfl (fx_m rfl) (ly_6 cy _ _) rfl in_X3 9 (by decide) tw_163 (v := nu (μ 6 9)) rfl dX10_boat_5 ?_
  refine r_icmp_ge C 13 h1 (ho0 _ _) rfl dX10_boat_8 (fun c1 => ?_) (fun c1 => ?_)
  · replace hf := if_t hf c1
    refine r_aload_n C 0 rfl rfl dX10_boat_13 ?_
    refine r_getf C 0 (by decide) rfl (fx_m rfl) (ly_0 cy _ _) rfl in_X10 1 (by decide) tw_302 (v := rf 2) rfl dX10_boat_14 ?_
    refine r_iload_n C 1 rfl rfl dX10_boat_17 ?_
    refine r_iload_n C 2 rfl rfl dX10_boat_18 ?_
    obtain ⟨r2, μ3, hc4, hf⟩ := of_bd hf
    refine r_callVI C hCF (As := [nu a1, nu a2]) 2 (by decide) rfl (fx_m rfl) (ly_2 cy _ _) rfl (c_X5_addBoat h1 h2 hc4) rfl (by decide) (by decide) ⟨Nat.le_refl 0, Nat.le_refl 0⟩ tw_371 tw_374 tw_3 tw_372 tw_373 2 (by decide) rfl (Nat.le_of_ble_eq_true rfl) dX10_boat_19 (fun hr6 => ?_)
    refine V_in (fun ho5 _ => ?_)
    obtain ⟨rfl, rfl⟩ := of_ret hf
    exact r_iret C rfl hr6 dX10_boat_22
  · replace hf := if_f hf c1
    refine r_iconst C dX10_boat_11 ?_
    obtain ⟨rfl, rfl⟩ := of_ret hf
    exact r_iret C rfl (inR_lit rfl) dX10_boat_12
set_option maxHeartbeats 4000000 in
set_option maxRecDepth 100000 in
theorem c_X10_spell {l : Launch} {D : va_G} {cy : Nat → ClassId} {ids : List Nat} {ad : Nat → Nat} {μ μ' : Mem} {a1 a2 a3 r : Int} (h1 : inR a1) (h2 : inR a2) (h3 : inR a3) (hf : f_X10_spell μ a1 a2 a3 = some (r, μ')) : KK aI l D (tyl cy) (lay cy) ids ad 8 yX10_spell cX10_spell 4 (some .int) [rf 0, nu a1, nu a2, nu a3] μ r μ' := by
  refine KK.of (by decide +kernel) (Nat.le_of_ble_eq_true rfl) ?_
  intro p e s m args below meth c A C hCF
  unfold f_X10_spell at hf
  refine V_in (fun ho0 _ => ?_)
  refine r_aload_n C 0 rfl rfl dX10_spell_0 ?_
  refine r_getf C 0 (by decide) rfl (fx_m rfl) (ly_0 cy _ _) rfl in_X10 0 (by decide) tw_301 (v := rf 1) rfl dX10_spell_1 ?_
  refine r_iload_n C 1 rfl rfl dX10_spell_4 ?_
  refine r_iload_n C 2 rfl rfl dX10_spell_5 ?_
  refine r_iload_n C 3 rfl rfl dX10_spell_6 ?_
  obtain ⟨r1, μ2, hc3, hf⟩ := of_bd hf
  refine r_callVI C hCF (As := [nu a1, nu a2, nu a3]) 1 (by decide) rfl (fx_m rfl) (ly_1 cy _ _) rfl (c_X2_addSpell h1 h2 h3 hc3) rfl (by decide) (by decide) ⟨Nat.le_refl 0, Nat.le_refl 0⟩ tw_383 tw_386 tw_2 tw_384 tw_385 3 (by decide) rfl (Nat.le_of_ble_eq_true rfl) dX10_spell_7 (fun hr5 => ?_)
  refine V_in (fun ho4 _ => ?_)
  obtain ⟨rfl, rfl⟩ := of_ret hf
  exact r_iret C rfl hr5 dX10_spell_10
set_option maxHeartbeats 4000000 in
set_option maxRecDepth 100000 in
theorem c_X10_feed {l : Launch} {D : va_G} {cy : Nat → ClassId} {ids : List Nat} {ad : Nat → Nat} {μ μ' : Mem} {a1 a2 a3 a4 a5 r : Int} (h1 : inR a1) (h2 : inR a2) (h3 : inR a3) (h4 : inR a4) (h5 : inR a5) (hf : f_X10_feed μ a1 a2 a3 a4 a5 = some (r, μ')) : KK aI l D (tyl cy) (lay cy) ids ad 4 yX10_feed cX10_feed 6 (some .int) [rf 0, nu a1, nu a2, nu a3, nu a4, nu a5] μ r μ' := by
  refine KK.of (by decide +kernel) (Nat.le_of_ble_eq_true rfl) ?_
  intro p e s m args below meth c A C hCF
  unfold f_X10_feed at hf
  refine V_in (fun ho0 _ => ?_)
  refine r_aload_n C 0 rfl rfl dX10_feed_0 ?_
  refine r_getf C 0 (by decide) rfl (fx_m rfl) (ly_0 cy _ _) rfl in_X10 2 (by decide) tw_303 (v := rf 3) rfl dX10_feed_1 ?_
  obtain ⟨r1, μ2, hc3, hf⟩ := of_bd hf
  refine r_callVI C hCF (As := []) 3 (by decide) rfl (fx_m rfl) (ly_3 cy _ _) rfl (c_X9_hasRoom hc3) rfl (by decide) (by decide) ⟨Nat.le_refl 0, Nat.le_refl 0⟩ tw_402 tw_405 tw_4 tw_403 tw_404 0 (by decide) rfl (Nat.le_of_ble_eq_true rfl) dX10_feed_4 (fun hr5 => ?_)
  refine V_in (fun ho4 _ => ?_)
  refine r_if_ne C 12 hr5 rfl dX10_feed_7 (fun c6 => ?_) (fun c6 => ?_)
  · replace hf := if_f hf c6
    refine r_aload_n C 0 rfl rfl dX10_feed_12 ?_
    refine r_getf C 0 (by decide) rfl (fx_m rfl) (ly_0 cy _ _) rfl in_X10 2 (by decide) tw_303 (v := rf 3) rfl dX10_feed_13 ?_
    refine r_iload_n C 1 rfl rfl dX10_feed_16 ?_
    obtain ⟨r7, μ8, hc9, hf⟩ := of_bd hf
    refine r_callVV C hCF (As := [nu a1]) 3 (by decide) rfl (fx_m rfl) (ly_3 cy _ _) rfl (c_X9_putNumber h1 hc9) rfl (by decide) (by decide) ⟨Nat.le_refl 0, Nat.le_refl 0⟩ tw_406 tw_409 tw_4 tw_407 tw_408 1 (by decide) rfl (Nat.le_of_ble_eq_true rfl) dX10_feed_17 ?_
    refine V_in (fun ho10 _ => ?_)
    refine r_aload_n C 0 rfl rfl dX10_feed_20 ?_
    refine r_getf C 0 (by decide) rfl (fx_m rfl) (ly_0 cy _ _) rfl in_X10 2 (by decide) tw_303 (v := rf 3) rfl dX10_feed_21 ?_
    refine r_iload_n C 2 rfl rfl dX10_feed_24 ?_
    obtain ⟨r12, μ13, hc14, hf⟩ := of_bd hf
    refine r_callVV C hCF (As := [nu a2]) 3 (by decide) rfl (fx_m rfl) (ly_3 cy _ _) rfl (c_X9_putNumber h2 hc14) rfl (by decide) (by decide) ⟨Nat.le_refl 0, Nat.le_refl 0⟩ tw_406 tw_409 tw_4 tw_407 tw_408 1 (by decide) rfl (Nat.le_of_ble_eq_true rfl) dX10_feed_25 ?_
    refine V_in (fun ho15 _ => ?_)
    refine r_aload_n C 0 rfl rfl dX10_feed_28 ?_
    refine r_getf C 0 (by decide) rfl (fx_m rfl) (ly_0 cy _ _) rfl in_X10 2 (by decide) tw_303 (v := rf 3) rfl dX10_feed_29 ?_
    refine r_iload_n C 3 rfl rfl dX10_feed_32 ?_
    obtain ⟨r17, μ18, hc19, hf⟩ := of_bd hf
    refine r_callVV C hCF (As := [nu a3]) 3 (by decide) rfl (fx_m rfl) (ly_3 cy _ _) rfl (c_X9_putNumber h3 hc19) rfl (by decide) (by decide) ⟨Nat.le_refl 0, Nat.le_refl 0⟩ tw_406 tw_409 tw_4 tw_407 tw_408 1 (by decide) rfl (Nat.le_of_ble_eq_true rfl) dX10_feed_33 ?_
    refine V_in (fun ho20 _ => ?_)
    refine r_aload_n C 0 rfl rfl dX10_feed_36 ?_
    refine r_getf C 0 (by decide) rfl (fx_m rfl) (ly_0 cy _ _) rfl in_X10 2 (by decide) tw_303 (v := rf 3) rfl dX10_feed_37 ?_
    refine r_iload C rfl dX10_feed_40 ?_
    obtain ⟨r22, μ23, hc24, hf⟩ := of_bd hf
    refine r_callVV C hCF (As := [nu a4]) 3 (by decide) rfl (fx_m rfl) (ly_3 cy _ _) rfl (c_X9_putNumber h4 hc24) rfl (by decide) (by decide) ⟨Nat.le_refl 0, Nat.le_refl 0⟩ tw_406 tw_409 tw_4 tw_407 tw_408 1 (by decide) rfl (Nat.le_of_ble_eq_true rfl) dX10_feed_42 ?_
    refine V_in (fun ho25 _ => ?_)
    refine r_aload_n C 0 rfl rfl dX10_feed_45 ?_
    refine r_getf C 0 (by decide) rfl (fx_m rfl) (ly_0 cy _ _) rfl in_X10 2 (by decide) tw_303 (v := rf 3) rfl dX10_feed_46 ?_
    refine r_iload C rfl dX10_feed_49 ?_
    obtain ⟨r27, μ28, hc29, hf⟩ := of_bd hf
    refine r_callVV C hCF (As := [nu a5]) 3 (by decide) rfl (fx_m rfl) (ly_3 cy _ _) rfl (c_X9_putNumber h5 hc29) rfl (by decide) (by decide) ⟨Nat.le_refl 0, Nat.le_refl 0⟩ tw_406 tw_409 tw_4 tw_407 tw_408 1 (by decide) rfl (Nat.le_of_ble_eq_true rfl) dX10_feed_51 ?_
    refine V_in (fun ho30 _ => ?_)
    refine r_aload_n C 0 rfl rfl dX10_feed_54 ?_
    refine r_getf C 0 (by decide) rfl (fx_m rfl) (ly_0 cy _ _) rfl in_X10 2 (by decide) tw_303 (v := rf 3) rfl dX10_feed_55 ?_
    refine r_getfN C 3 (by decide) rfl (fx_m rfl) (ly_3 cy _ _) rfl in_X9 1 (by decide) tw_88 (v := nu (μ28 3 1)) rfl dX10_feed_58 ?_
    obtain ⟨rfl, rfl⟩ := of_ret hf
    exact r_iret C rfl (ho30 _ _) dX10_feed_61
  · replace hf := if_t hf c6
    refine r_iconst C dX10_feed_10 ?_
    obtain ⟨rfl, rfl⟩ := of_ret hf
    exact r_iret C rfl (inR_lit rfl) dX10_feed_11
set_option maxHeartbeats 4000000 in
set_option maxRecDepth 100000 in
theorem c_X10_end {l : Launch} {D : va_G} {cy : Nat → ClassId} {ids : List Nat} {ad : Nat → Nat} {μ μ' : Mem} {a1 r : Int} (h1 : inR a1) (hf : f_X10_end μ a1 = some (r, μ')) : KK aI l D (tyl cy) (lay cy) ids ad 4 yX10_end cX10_end 2 (some .int) [rf 0, nu a1] μ r μ' := by
  refine KK.of (by decide +kernel) (Nat.le_of_ble_eq_true rfl) ?_
  intro p e s m args below meth c A C hCF
  unfold f_X10_end at hf
  refine V_in (fun ho0 _ => ?_)
  refine r_aload_n C 0 rfl rfl dX10_end_0 ?_
  refine r_getf C 0 (by decide) rfl (fx_m rfl) (ly_0 cy _ _) rfl in_X10 2 (by decide) tw_303 (v := rf 3) rfl dX10_end_1 ?_
  refine r_iload_n C 1 rfl rfl dX10_end_4 ?_
  obtain ⟨r1, μ2, hc3, hf⟩ := of_bd hf
  refine r_callVI C hCF (As := [nu a1]) 3 (by decide) rfl (fx_m rfl) (ly_3 cy _ _) rfl (c_X9_keepFirst h1 hc3) rfl (by decide) (by decide) ⟨Nat.le_refl 0, Nat.le_refl 0⟩ tw_414 tw_417 tw_4 tw_415 tw_416 1 (by decide) rfl (Nat.le_of_ble_eq_true rfl) dX10_end_5 (fun hr5 => ?_)
  refine V_in (fun ho4 _ => ?_)
  obtain ⟨rfl, rfl⟩ := of_ret hf
  exact r_iret C rfl hr5 dX10_end_8
set_option maxHeartbeats 4000000 in
set_option maxRecDepth 100000 in
theorem c_X10_table {l : Launch} {D : va_G} {cy : Nat → ClassId} {ids : List Nat} {ad : Nat → Nat} {μ μ' : Mem} { r : Int}  (hf : f_X10_table μ  = some (r, μ')) : KK aI l D (tyl cy) (lay cy) ids ad 22 yX10_table cX10_table 2 (some .int) [rf 0] μ r μ' := by
  refine KK.of (by decide +kernel) (Nat.le_of_ble_eq_true rfl) ?_
  intro p e s m args below meth c A C hCF
  unfold f_X10_table at hf
  refine V_in (fun ho0 _ => ?_)
  refine r_aload_n C 0 rfl rfl dX10_table_0 ?_
  refine r_getf C 0 (by decide) rfl (fx_m rfl) (ly_0 cy _ _) rfl in_X10 4 (by decide) tw_305 (v := rf 5) rfl dX10_table_1 ?_
  obtain ⟨r1, μ2, hc3, hf⟩ := of_bd hf
  refine r_callVI C hCF (As := []) 5 (by decide) rfl (fx_m rfl) (ly_5 cy _ _) rfl (c_X7_readTape hc3) rfl (by decide) (by decide) ⟨Nat.le_refl 0, Nat.le_refl 0⟩ tw_422 tw_425 tw_6 tw_423 tw_424 0 (by decide) rfl (Nat.le_of_ble_eq_true rfl) dX10_table_4 (fun hr5 => ?_)
  refine V_in (fun ho4 _ => ?_)
  refine r_istore_n C 1 (lw := [some (rf 0), some (nu r1)]) rfl rfl (by decide) dX10_table_7 ?_
  refine r_aload_n C 0 rfl rfl dX10_table_8 ?_
  refine r_getf C 0 (by decide) rfl (fx_m rfl) (ly_0 cy _ _) rfl in_X10 2 (by decide) tw_303 (v := rf 3) rfl dX10_table_9 ?_
  refine r_iconst C dX10_table_12 ?_
  obtain ⟨r6, μ7, hc8, hf⟩ := of_bd hf
  refine r_callVI C hCF (As := [nu 0]) 3 (by decide) rfl (fx_m rfl) (ly_3 cy _ _) rfl (c_X9_keepFirst (inR_lit rfl) hc8) rfl (by decide) (by decide) ⟨Nat.le_refl 0, Nat.le_refl 0⟩ tw_414 tw_417 tw_4 tw_415 tw_416 1 (by decide) rfl (Nat.le_of_ble_eq_true rfl) dX10_table_13 (fun hr10 => ?_)
  refine V_in (fun ho9 _ => ?_)
  refine r_pop C dX10_table_16 ?_
  refine r_iload_n C 1 rfl rfl dX10_table_17 ?_
  refine r_iconst C dX10_table_18 ?_
  refine r_icmp_eq C 27 hr5 (inR_lit rfl) rfl dX10_table_19 (fun c11 => ?_) (fun c11 => ?_)
  · replace hf := if_t hf c11
    refine r_aload_n C 0 rfl rfl dX10_table_27 ?_
    refine r_getf C 0 (by decide) rfl (fx_m rfl) (ly_0 cy _ _) rfl in_X10 3 (by decide) tw_304 (v := rf 4) rfl dX10_table_28 ?_
    refine r_aload_n C 0 rfl rfl dX10_table_31 ?_
    refine r_getf C 0 (by decide) rfl (fx_m rfl) (ly_0 cy _ _) rfl in_X10 4 (by decide) tw_305 (v := rf 5) rfl dX10_table_32 ?_
    refine r_getfN C 5 (by decide) rfl (fx_m rfl) (ly_5 cy _ _) rfl in_X7 1 (by decide) tw_119 (v := rf 18) rfl dX10_table_35 ?_
    obtain ⟨r12, μ13, hc14, hf⟩ := of_bd hf
    refine r_callVV C hCF (As := [rf 18]) 4 (by decide) rfl (fx_m rfl) (ly_4 cy _ _) rfl (c_X6_takeNumbers hc14) rfl (by decide) (by decide) ⟨Nat.le_refl 0, Nat.le_refl 0⟩ tw_534 tw_106 tw_5 tw_104 tw_105 1 (by decide) rfl (Nat.le_of_ble_eq_true rfl) dX10_table_38 ?_
    refine V_in (fun ho15 _ => ?_)
    refine r_aload_n C 0 rfl rfl dX10_table_41 ?_
    refine r_getf C 0 (by decide) rfl (fx_m rfl) (ly_0 cy _ _) rfl in_X10 4 (by decide) tw_305 (v := rf 5) rfl dX10_table_42 ?_
    refine r_getfN C 5 (by decide) rfl (fx_m rfl) (ly_5 cy _ _) rfl in_X7 2 (by decide) tw_121 (v := nu (μ13 5 2)) rfl dX10_table_45 ?_
    obtain ⟨rfl, rfl⟩ := of_ret hf
    exact r_iret C rfl (ho15 _ _) dX10_table_48
  · replace hf := if_f hf c11
    refine r_bipush C dX10_table_22 rfl ?_
    refine r_iload_n C 1 rfl rfl dX10_table_24 ?_
    refine r_isub C dX10_table_25 ?_
    obtain ⟨g17, hf⟩ := of_g hf
    obtain ⟨rfl, rfl⟩ := of_ret hf
    exact r_iret C rfl g17 dX10_table_26
set_option maxHeartbeats 4000000 in
set_option maxRecDepth 100000 in
theorem c_X10_send {l : Launch} {D : va_G} {cy : Nat → ClassId} {ids : List Nat} {ad : Nat → Nat} {μ μ' : Mem} {a1 a2 r : Int} (h1 : inR a1) (h2 : inR a2) (hf : f_X10_send μ a1 a2 = some (r, μ')) : KK aI l D (tyl cy) (lay cy) ids ad 12 yX10_send cX10_send 3 (some .int) [rf 0, nu a1, nu a2] μ r μ' := by
  refine KK.of (by decide +kernel) (Nat.le_of_ble_eq_true rfl) ?_
  intro p e s m args below meth c A C hCF
  unfold f_X10_send at hf
  refine V_in (fun ho0 _ => ?_)
  refine r_aload_n C 0 rfl rfl dX10_send_0 ?_
  refine r_getf C 0 (by decide) rfl (fx_m rfl) (ly_0 cy _ _) rfl in_X10 5 (by decide) tw_306 (v := rf 6) rfl dX10_send_1 ?_
  refine r_iload_n C 1 rfl rfl dX10_send_4 ?_
  refine r_iload_n C 2 rfl rfl dX10_send_5 ?_
  obtain ⟨r1, μ2, hc3, hf⟩ := of_bd hf
  refine r_callVI C hCF (As := [nu a1, nu a2]) 6 (by decide) rfl (fx_m rfl) (ly_6 cy _ _) rfl (c_X3_sendToStone h1 h2 hc3) rfl (by decide) (by decide) ⟨Nat.le_refl 0, Nat.le_refl 0⟩ tw_587 tw_590 tw_7 tw_588 tw_589 2 (by decide) rfl (Nat.le_of_ble_eq_true rfl) dX10_send_6 (fun hr5 => ?_)
  refine V_in (fun ho4 _ => ?_)
  obtain ⟨rfl, rfl⟩ := of_ret hf
  exact r_iret C rfl hr5 dX10_send_9
set_option maxHeartbeats 4000000 in
set_option maxRecDepth 100000 in
theorem c_X10_raise {l : Launch} {D : va_G} {cy : Nat → ClassId} {ids : List Nat} {ad : Nat → Nat} {μ μ' : Mem} {a1 r : Int} (h1 : inR a1) (hf : f_X10_raise μ a1 = some (r, μ')) : KK aI l D (tyl cy) (lay cy) ids ad 6 yX10_raise cX10_raise 2 (some .int) [rf 0, nu a1] μ r μ' := by
  refine KK.of (by decide +kernel) (Nat.le_of_ble_eq_true rfl) ?_
  intro p e s m args below meth c A C hCF
  unfold f_X10_raise at hf
  refine V_in (fun ho0 _ => ?_)
  refine r_aload_n C 0 rfl rfl dX10_raise_0 ?_
  refine r_getf C 0 (by decide) rfl (fx_m rfl) (ly_0 cy _ _) rfl in_X10 5 (by decide) tw_306 (v := rf 6) rfl dX10_raise_1 ?_
  refine r_iload_n C 1 rfl rfl dX10_raise_4 ?_
  obtain ⟨r1, μ2, hc3, hf⟩ := of_bd hf
  refine r_callVI C hCF (As := [nu a1]) 6 (by decide) rfl (fx_m rfl) (ly_6 cy _ _) rfl (c_X3_sendToRamp h1 hc3) rfl (by decide) (by decide) ⟨Nat.le_refl 0, Nat.le_refl 0⟩ tw_647 tw_650 tw_7 tw_648 tw_649 1 (by decide) rfl (Nat.le_of_ble_eq_true rfl) dX10_raise_5 (fun hr5 => ?_)
  refine V_in (fun ho4 _ => ?_)
  obtain ⟨rfl, rfl⟩ := of_ret hf
  exact r_iret C rfl hr5 dX10_raise_8
set_option maxHeartbeats 4000000 in
set_option maxRecDepth 100000 in
theorem c_X10_callOff {l : Launch} {D : va_G} {cy : Nat → ClassId} {ids : List Nat} {ad : Nat → Nat} {μ μ' : Mem} {a1 r : Int} (h1 : inR a1) (hf : f_X10_callOff μ a1 = some (r, μ')) : KK aI l D (tyl cy) (lay cy) ids ad 8 yX10_callOff cX10_callOff 2 (some .boolean) [rf 0, nu a1] μ r μ' := by
  refine KK.of (by decide +kernel) (Nat.le_of_ble_eq_true rfl) ?_
  intro p e s m args below meth c A C hCF
  unfold f_X10_callOff at hf
  refine V_in (fun ho0 _ => ?_)
  refine r_aload_n C 0 rfl rfl dX10_callOff_0 ?_
  refine r_getf C 0 (by decide) rfl (fx_m rfl) (ly_0 cy _ _) rfl in_X10 5 (by decide) tw_306 (v := rf 6) rfl dX10_callOff_1 ?_
  refine r_iload_n C 1 rfl rfl dX10_callOff_4 ?_
  obtain ⟨r1, μ2, hc3, hf⟩ := of_bd hf
  refine r_callVI C hCF (As := [nu a1]) 6 (by decide) rfl (fx_m rfl) (ly_6 cy _ _) rfl (c_X3_stopWork h1 hc3) rfl (by decide) (by decide) ⟨Nat.le_refl 0, Nat.le_refl 0⟩ tw_659 tw_662 tw_7 tw_660 tw_661 1 (by decide) rfl (Nat.le_of_ble_eq_true rfl) dX10_callOff_5 (fun hr5 => ?_)
  refine V_in (fun ho4 _ => ?_)
  obtain ⟨g6, hf⟩ := of_g hf
  obtain ⟨rfl, rfl⟩ := of_ret hf
  exact r_zret C rfl g6 dX10_callOff_8
set_option maxHeartbeats 4000000 in
set_option maxRecDepth 100000 in
theorem w_X10_pass_31 {p : Program} {l : Launch} {e : Env} {s : State} {m : MethodId} {args : Array Value} {below : List Frame} {meth : Method} {c : Code} {D : va_G} {cy : Nat → ClassId} {A : Nat → Prop} {ids : List Nat} {ad : Nat → Nat} {r : Int} {μ' : Mem} (C : Cx p s m args meth c D (tyl cy) A 3 cX10_pass yX10_pass.cls (some .int)) (hCF : CF ad A s) : ∀ n : Nat, ∀ (v1 v2 : Int) (μ : Mem), inR v1 → inR v2 → f_X10_pass_31   n v1 v2 μ = some (r, μ') → V p l e (rmk 12) s m args below meth c 0 0 (MQ below (aI D (tyl cy) (lay cy) ids ad A r μ') args s 0 0 A) D A (lay cy) ids ad 3 μ 31 [some (rf 0), some (nu v1), some (nu v2)] [] := by
  intro n
  induction n with
  | zero =>
    intro v1 v2 μ hv1 hv2 hf
    cases hf
  | succ n ih =>
    intro v1 v2 μ hv1 hv2 hf
    rw [f_X10_pass_31_e] at hf
    refine V_in (fun ho0 _ => ?_)
    refine r_iload_n C 2 rfl rfl dX10_pass_31 ?_
    refine r_iload_n C 1 rfl rfl dX10_pass_32 ?_
    refine r_icmp_ge C 49 hv2 hv1 rfl dX10_pass_33 (fun c1 => ?_) (fun c1 => ?_)
    · replace hf := if_t hf c1
      refine r_aload_n C 0 rfl rfl dX10_pass_49 ?_
      refine r_getf C 0 (by decide) rfl (fx_m rfl) (ly_0 cy _ _) rfl in_X10 5 (by decide) tw_306 (v := rf 6) rfl dX10_pass_50 ?_
      refine r_getfN C 6 (by decide) rfl (fx_m rfl) (ly_6 cy _ _) rfl in_X3 9 (by decide) tw_163 (v := nu (μ 6 9)) rfl dX10_pass_53 ?_
      obtain ⟨rfl, rfl⟩ := of_ret hf
      exact r_iret C rfl (ho0 _ _) dX10_pass_56
    · replace hf := if_f hf c1
      refine r_aload_n C 0 rfl rfl dX10_pass_36 ?_
      refine r_getf C 0 (by decide) rfl (fx_m rfl) (ly_0 cy _ _) rfl in_X10 5 (by decide) tw_306 (v := rf 6) rfl dX10_pass_37 ?_
      obtain ⟨r2, μ3, hc4, hf⟩ := of_bd hf
      refine r_callVV C hCF (As := []) 6 (by decide) rfl (fx_m rfl) (ly_6 cy _ _) rfl (c_X3_liveDay hc4) rfl (by decide) (by decide) ⟨Nat.le_refl 0, Nat.le_refl 0⟩ tw_675 tw_678 tw_7 tw_676 tw_677 0 (by decide) rfl (Nat.le_of_ble_eq_true rfl) dX10_pass_40 ?_
      refine V_in (fun ho5 _ => ?_)
      refine r_iinc C rfl (lw := [some (rf 0), some (nu v1), some (nu (v2 + 1))]) rfl (by decide) dX10_pass_43 ?_
      refine r_goto C 31 rfl dX10_pass_46 ?_
      obtain ⟨g7, hf⟩ := of_g hf
      exact V_lw (ih v1 (v2 + 1) μ3 hv1 g7 hf) (And.intro rfl (And.intro rfl (And.intro rfl trivial)))
set_option maxHeartbeats 4000000 in
set_option maxRecDepth 100000 in
theorem c_X10_pass {l : Launch} {D : va_G} {cy : Nat → ClassId} {ids : List Nat} {ad : Nat → Nat} {μ μ' : Mem} {a1 r : Int} (h1 : inR a1) (hf : f_X10_pass μ a1 = some (r, μ')) : KK aI l D (tyl cy) (lay cy) ids ad 12 yX10_pass cX10_pass 3 (some .int) [rf 0, nu a1] μ r μ' := by
  refine KK.of (by decide +kernel) (Nat.le_of_ble_eq_true rfl) ?_
  intro p e s m args below meth c A C hCF
  unfold f_X10_pass at hf
  refine V_in (fun ho0 _ => ?_)
  refine r_iload_n C 1 rfl rfl dX10_pass_0 ?_
  refine r_iconst C dX10_pass_1 ?_
  refine r_icmp_lt C 27 h1 (inR_lit rfl) rfl dX10_pass_2 (fun c1 => ?_) (fun c1 => ?_)
  · replace hf := if_t hf c1
    refine r_iconst C dX10_pass_27 ?_
    obtain ⟨rfl, rfl⟩ := of_ret hf
    exact r_iret C rfl (inR_lit rfl) dX10_pass_28
  · replace hf := if_f hf c1
    refine r_iload_n C 1 rfl rfl dX10_pass_5 ?_
    refine r_sipush C dX10_pass_6 rfl ?_
    refine r_icmp_gt C 27 h1 (inR_lit rfl) rfl dX10_pass_9 (fun c2 => ?_) (fun c2 => ?_)
    · replace hf := if_t hf c2
      refine r_iconst C dX10_pass_27 ?_
      obtain ⟨rfl, rfl⟩ := of_ret hf
      exact r_iret C rfl (inR_lit rfl) dX10_pass_28
    · replace hf := if_f hf c2
      refine r_iload_n C 1 rfl rfl dX10_pass_12 ?_
      refine r_sipush C dX10_pass_13 rfl ?_
      refine r_aload_n C 0 rfl rfl dX10_pass_16 ?_
      refine r_getf C 0 (by decide) rfl (fx_m rfl) (ly_0 cy _ _) rfl in_X10 5 (by decide) tw_306 (v := rf 6) rfl dX10_pass_17 ?_
      refine r_getfN C 6 (by decide) rfl (fx_m rfl) (ly_6 cy _ _) rfl in_X3 9 (by decide) tw_163 (v := nu (μ 6 9)) rfl dX10_pass_20 ?_
      refine r_isub C dX10_pass_23 ?_
      obtain ⟨g3, hf⟩ := of_g hf
      refine r_icmp_le C 29 h1 g3 rfl dX10_pass_24 (fun c4 => ?_) (fun c4 => ?_)
      · replace hf := if_t hf c4
        refine r_iconst C dX10_pass_29 ?_
        refine r_istore_n C 2 (lw := [some (rf 0), some (nu a1), some (nu 0)]) rfl rfl (by decide) dX10_pass_30 ?_
        exact V_lw (w_X10_pass_31 C hCF 512 a1 0 μ h1 (inR_lit rfl) hf) (And.intro rfl (And.intro rfl (And.intro rfl trivial)))
      · replace hf := if_f hf c4
        refine r_iconst C dX10_pass_27 ?_
        obtain ⟨rfl, rfl⟩ := of_ret hf
        exact r_iret C rfl (inR_lit rfl) dX10_pass_28
set_option maxHeartbeats 4000000 in
set_option maxRecDepth 100000 in
theorem c_X10_about {l : Launch} {D : va_G} {cy : Nat → ClassId} {ids : List Nat} {ad : Nat → Nat} {μ μ' : Mem} {a1 a2 r : Int} (h1 : inR a1) (h2 : inR a2) (hf : f_X10_about μ a1 a2 = some (r, μ')) : KK aI l D (tyl cy) (lay cy) ids ad 8 yX10_about cX10_about 4 (some .int) [rf 0, nu a1, nu a2] μ r μ' := by
  refine KK.of (by decide +kernel) (Nat.le_of_ble_eq_true rfl) ?_
  intro p e s m args below meth c A C hCF
  unfold f_X10_about at hf
  refine V_in (fun ho0 _ => ?_)
  refine r_aload_n C 0 rfl rfl dX10_about_0 ?_
  refine r_getf C 0 (by decide) rfl (fx_m rfl) (ly_0 cy _ _) rfl in_X10 5 (by decide) tw_306 (v := rf 6) rfl dX10_about_1 ?_
  refine r_iload_n C 1 rfl rfl dX10_about_4 ?_
  obtain ⟨r1, μ2, hc3, hf⟩ := of_bd hf
  refine r_callVR C hCF (As := [nu a1]) 6 (by decide) rfl (fx_m rfl) (ly_6 cy _ _) rfl (c_X3_stoneAt h1 hc3) rfl (by decide) (by decide) ⟨Nat.le_refl 0, Nat.le_refl 0⟩ tw_706 tw_598 tw_7 tw_596 tw_597 1 (by decide) rfl (Nat.le_of_ble_eq_true rfl) dX10_about_5 ?_
  refine V_in (fun ho4 _ => ?_)
  refine r_astore_n C 3 (lw := [some (rf 0), some (nu a1), some (nu a2), some (rf r1)]) rfl rfl (by decide) dX10_about_8 ?_
  refine r_aload_n C 3 rfl rfl dX10_about_9 ?_
  refine r_ifnonnull C 15 rfl dX10_about_10 (fun c6 => ?_) (fun c6 => ?_)
  · replace hf := if_f hf c6
    refine r_iload_n C 2 rfl rfl dX10_about_15 ?_
    by_cases c7 : a2 = 0
    · replace hf := if_t hf c7
      refine r_swIn C 52 0 c7 (inR_lit rfl) (by decide) (by decide) rfl rfl dX10_about_16 ?_
      refine r_aload_n C 3 rfl rfl dX10_about_52 ?_
      obtain ⟨g8, hf⟩ := of_g hf
      refine r_getfN C _ (st_0 g8) rfl (st_m g8) (ly_st cy _ g8 _) rfl in_X4 2 (by decide) tw_559 (v := nu (μ2 r1.toNat 2)) rfl dX10_about_53 ?_
      obtain ⟨rfl, rfl⟩ := of_ret hf
      exact r_iret C rfl (ho4 _ _) dX10_about_56
    replace hf := if_f hf c7
    by_cases c9 : a2 = 1
    · replace hf := if_t hf c9
      refine r_swIn C 57 1 c9 (inR_lit rfl) (by decide) (by decide) rfl rfl dX10_about_16 ?_
      refine r_aload_n C 3 rfl rfl dX10_about_57 ?_
      obtain ⟨g10, hf⟩ := of_g hf
      refine r_getfN C _ (st_0 g10) rfl (st_m g10) (ly_st cy _ g10 _) rfl in_X4 3 (by decide) tw_563 (v := nu (μ2 r1.toNat 3)) rfl dX10_about_58 ?_
      obtain ⟨rfl, rfl⟩ := of_ret hf
      exact r_iret C rfl (ho4 _ _) dX10_about_61
    replace hf := if_f hf c9
    by_cases c11 : a2 = 2
    · replace hf := if_t hf c11
      refine r_swIn C 62 2 c11 (inR_lit rfl) (by decide) (by decide) rfl rfl dX10_about_16 ?_
      refine r_aload_n C 3 rfl rfl dX10_about_62 ?_
      obtain ⟨g12, hf⟩ := of_g hf
      refine r_getfN C _ (st_0 g12) rfl (st_m g12) (ly_st cy _ g12 _) rfl in_X4 4 (by decide) tw_566 (v := nu (μ2 r1.toNat 4)) rfl dX10_about_63 ?_
      obtain ⟨rfl, rfl⟩ := of_ret hf
      exact r_iret C rfl (ho4 _ _) dX10_about_66
    replace hf := if_f hf c11
    by_cases c13 : a2 = 3
    · replace hf := if_t hf c13
      refine r_swIn C 67 3 c13 (inR_lit rfl) (by decide) (by decide) rfl rfl dX10_about_16 ?_
      refine r_aload_n C 3 rfl rfl dX10_about_67 ?_
      obtain ⟨g14, hf⟩ := of_g hf
      refine r_getfN C _ (st_0 g14) rfl (st_m g14) (ly_st cy _ g14 _) rfl in_X4 5 (by decide) tw_569 (v := nu (μ2 r1.toNat 5)) rfl dX10_about_68 ?_
      obtain ⟨rfl, rfl⟩ := of_ret hf
      exact r_iret C rfl (ho4 _ _) dX10_about_71
    replace hf := if_f hf c13
    by_cases c15 : a2 = 4
    · replace hf := if_t hf c15
      refine r_swIn C 72 4 c15 (inR_lit rfl) (by decide) (by decide) rfl rfl dX10_about_16 ?_
      refine r_aload_n C 0 rfl rfl dX10_about_72 ?_
      refine r_getf C 0 (by decide) rfl (fx_m rfl) (ly_0 cy _ _) rfl in_X10 3 (by decide) tw_304 (v := rf 4) rfl dX10_about_73 ?_
      refine r_aload_n C 3 rfl rfl dX10_about_76 ?_
      refine r_iconst C dX10_about_77 ?_
      obtain ⟨r16, μ17, hc18, hf⟩ := of_bd hf
      refine r_callVI C hCF (As := [rf r1, nu 0]) 4 (by decide) rfl (fx_m rfl) (ly_4 cy _ _) rfl (c_X6_pullOf (inR_lit rfl) hc18) rfl (by decide) (by decide) ⟨Nat.le_refl 0, Nat.le_refl 0⟩ tw_707 tw_614 tw_5 tw_612 tw_613 2 (by decide) rfl (Nat.le_of_ble_eq_true rfl) dX10_about_78 (fun hr20 => ?_)
      refine V_in (fun ho19 _ => ?_)
      obtain ⟨rfl, rfl⟩ := of_ret hf
      exact r_iret C rfl hr20 dX10_about_81
    replace hf := if_f hf c15
    refine r_swOut C 82 h2 (by omega) rfl dX10_about_16 ?_
    refine r_iconst C dX10_about_82 ?_
    obtain ⟨rfl, rfl⟩ := of_ret hf
    exact r_iret C rfl (inR_lit rfl) dX10_about_83
  · replace hf := if_t hf c6
    refine r_iconst C dX10_about_13 ?_
    obtain ⟨rfl, rfl⟩ := of_ret hf
    exact r_iret C rfl (inR_lit rfl) dX10_about_14
set_option maxHeartbeats 4000000 in
set_option maxRecDepth 100000 in
theorem c_X10_gangs {l : Launch} {D : va_G} {cy : Nat → ClassId} {ids : List Nat} {ad : Nat → Nat} {μ μ' : Mem} {a1 a2 r : Int} (h1 : inR a1) (h2 : inR a2) (hf : f_X10_gangs μ a1 a2 = some (r, μ')) : KK aI l D (tyl cy) (lay cy) ids ad 4 yX10_gangs cX10_gangs 4 (some .int) [rf 0, nu a1, nu a2] μ r μ' := by
  refine KK.of (by decide +kernel) (Nat.le_of_ble_eq_true rfl) ?_
  intro p e s m args below meth c A C hCF
  unfold f_X10_gangs at hf
  refine V_in (fun ho0 _ => ?_)
  refine r_aload_n C 0 rfl rfl dX10_gangs_0 ?_
  refine r_getf C 0 (by decide) rfl (fx_m rfl) (ly_0 cy _ _) rfl in_X10 5 (by decide) tw_306 (v := rf 6) rfl dX10_gangs_1 ?_
  refine r_iload_n C 1 rfl rfl dX10_gangs_4 ?_
  obtain ⟨r1, μ2, hc3, hf⟩ := of_bd hf
  refine r_callVR C hCF (As := [nu a1]) 6 (by decide) rfl (fx_m rfl) (ly_6 cy _ _) rfl (c_X3_gangAt h1 hc3) rfl (by decide) (by decide) ⟨Nat.le_refl 0, Nat.le_refl 0⟩ tw_712 tw_594 tw_7 tw_592 tw_593 1 (by decide) rfl (Nat.le_of_ble_eq_true rfl) dX10_gangs_5 ?_
  refine V_in (fun ho4 _ => ?_)
  refine r_astore_n C 3 (lw := [some (rf 0), some (nu a1), some (nu a2), some (rf r1)]) rfl rfl (by decide) dX10_gangs_8 ?_
  refine r_aload_n C 3 rfl rfl dX10_gangs_9 ?_
  refine r_ifnonnull C 15 rfl dX10_gangs_10 (fun c6 => ?_) (fun c6 => ?_)
  · replace hf := if_f hf c6
    refine r_iload_n C 2 rfl rfl dX10_gangs_15 ?_
    by_cases c7 : a2 = 0
    · replace hf := if_t hf c7
      refine r_swIn C 52 0 c7 (inR_lit rfl) (by decide) (by decide) rfl rfl dX10_gangs_16 ?_
      refine r_aload_n C 3 rfl rfl dX10_gangs_52 ?_
      obtain ⟨g8, hf⟩ := of_g hf
      refine r_getfN C _ (ga_0 g8) rfl (ga_m g8) (ly_ga cy _ g8 _) rfl in_X0 0 (by decide) tw_342 (v := nu (μ2 r1.toNat 0)) rfl dX10_gangs_53 ?_
      obtain ⟨rfl, rfl⟩ := of_ret hf
      exact r_iret C rfl (ho4 _ _) dX10_gangs_56
    replace hf := if_f hf c7
    by_cases c9 : a2 = 1
    · replace hf := if_t hf c9
      refine r_swIn C 57 1 c9 (inR_lit rfl) (by decide) (by decide) rfl rfl dX10_gangs_16 ?_
      refine r_aload_n C 3 rfl rfl dX10_gangs_57 ?_
      obtain ⟨g10, hf⟩ := of_g hf
      refine r_getfN C _ (ga_0 g10) rfl (ga_m g10) (ly_ga cy _ g10 _) rfl in_X0 1 (by decide) tw_346 (v := nu (μ2 r1.toNat 1)) rfl dX10_gangs_58 ?_
      obtain ⟨rfl, rfl⟩ := of_ret hf
      exact r_iret C rfl (ho4 _ _) dX10_gangs_61
    replace hf := if_f hf c9
    by_cases c11 : a2 = 2
    · replace hf := if_t hf c11
      refine r_swIn C 62 2 c11 (inR_lit rfl) (by decide) (by decide) rfl rfl dX10_gangs_16 ?_
      refine r_aload_n C 3 rfl rfl dX10_gangs_62 ?_
      obtain ⟨g12, hf⟩ := of_g hf
      refine r_getfN C _ (ga_0 g12) rfl (ga_m g12) (ly_ga cy _ g12 _) rfl in_X0 2 (by decide) tw_348 (v := nu (μ2 r1.toNat 2)) rfl dX10_gangs_63 ?_
      obtain ⟨rfl, rfl⟩ := of_ret hf
      exact r_iret C rfl (ho4 _ _) dX10_gangs_66
    replace hf := if_f hf c11
    by_cases c13 : a2 = 3
    · replace hf := if_t hf c13
      refine r_swIn C 67 3 c13 (inR_lit rfl) (by decide) (by decide) rfl rfl dX10_gangs_16 ?_
      refine r_aload_n C 3 rfl rfl dX10_gangs_67 ?_
      obtain ⟨g14, hf⟩ := of_g hf
      refine r_getfN C _ (ga_0 g14) rfl (ga_m g14) (ly_ga cy _ g14 _) rfl in_X0 3 (by decide) tw_351 (v := nu (μ2 r1.toNat 3)) rfl dX10_gangs_68 ?_
      obtain ⟨rfl, rfl⟩ := of_ret hf
      exact r_iret C rfl (ho4 _ _) dX10_gangs_71
    replace hf := if_f hf c13
    by_cases c15 : a2 = 4
    · replace hf := if_t hf c15
      refine r_swIn C 72 4 c15 (inR_lit rfl) (by decide) (by decide) rfl rfl dX10_gangs_16 ?_
      refine r_aload_n C 3 rfl rfl dX10_gangs_72 ?_
      obtain ⟨g16, hf⟩ := of_g hf
      refine r_getfN C _ (ga_0 g16) rfl (ga_m g16) (ly_ga cy _ g16 _) rfl in_X0 4 (by decide) tw_354 (v := nu (μ2 r1.toNat 4)) rfl dX10_gangs_73 ?_
      obtain ⟨rfl, rfl⟩ := of_ret hf
      exact r_iret C rfl (ho4 _ _) dX10_gangs_76
    replace hf := if_f hf c15
    refine r_swOut C 77 h2 (by omega) rfl dX10_gangs_16 ?_
    refine r_iconst C dX10_gangs_77 ?_
    obtain ⟨rfl, rfl⟩ := of_ret hf
    exact r_iret C rfl (inR_lit rfl) dX10_gangs_78
  · replace hf := if_t hf c6
    refine r_iconst C dX10_gangs_13 ?_
    obtain ⟨rfl, rfl⟩ := of_ret hf
    exact r_iret C rfl (inR_lit rfl) dX10_gangs_14
set_option maxHeartbeats 4000000 in
set_option maxRecDepth 100000 in
theorem c_X10_plan {l : Launch} {D : va_G} {cy : Nat → ClassId} {ids : List Nat} {ad : Nat → Nat} {μ μ' : Mem} { r : Int}  (hf : f_X10_plan μ  = some (r, μ')) : KK aI l D (tyl cy) (lay cy) ids ad 32 yX10_plan cX10_plan 1 (some .int) [rf 0] μ r μ' := by
  refine KK.of (by decide +kernel) (Nat.le_of_ble_eq_true rfl) ?_
  intro p e s m args below meth c A C hCF
  unfold f_X10_plan at hf
  refine V_in (fun ho0 _ => ?_)
  refine r_aload_n C 0 rfl rfl dX10_plan_0 ?_
  refine r_getf C 0 (by decide) rfl (fx_m rfl) (ly_0 cy _ _) rfl in_X10 6 (by decide) tw_307 (v := rf 7) rfl dX10_plan_1 ?_
  obtain ⟨r1, μ2, hc3, hf⟩ := of_bd hf
  refine r_callVI C hCF (As := []) 7 (by decide) rfl (fx_m rfl) (ly_7 cy _ _) rfl (c_X1_makePlan hc3) rfl (by decide) (by decide) ⟨Nat.le_refl 0, Nat.le_refl 0⟩ tw_717 tw_720 tw_8 tw_718 tw_719 0 (by decide) rfl (Nat.le_of_ble_eq_true rfl) dX10_plan_4 (fun hr5 => ?_)
  refine V_in (fun ho4 _ => ?_)
  obtain ⟨rfl, rfl⟩ := of_ret hf
  exact r_iret C rfl hr5 dX10_plan_7
set_option maxHeartbeats 4000000 in
set_option maxRecDepth 100000 in
theorem c_X10_planned {l : Launch} {D : va_G} {cy : Nat → ClassId} {ids : List Nat} {ad : Nat → Nat} {μ μ' : Mem} {a1 a2 r : Int} (h1 : inR a1) (h2 : inR a2) (hf : f_X10_planned μ a1 a2 = some (r, μ')) : KK aI l D (tyl cy) (lay cy) ids ad 4 yX10_planned cX10_planned 3 (some .int) [rf 0, nu a1, nu a2] μ r μ' := by
  refine KK.of (by decide +kernel) (Nat.le_of_ble_eq_true rfl) ?_
  intro p e s m args below meth c A C hCF
  unfold f_X10_planned at hf
  refine V_in (fun ho0 _ => ?_)
  refine r_aload_n C 0 rfl rfl dX10_planned_0 ?_
  refine r_getf C 0 (by decide) rfl (fx_m rfl) (ly_0 cy _ _) rfl in_X10 6 (by decide) tw_307 (v := rf 7) rfl dX10_planned_1 ?_
  refine r_iload_n C 1 rfl rfl dX10_planned_4 ?_
  refine r_iload_n C 2 rfl rfl dX10_planned_5 ?_
  obtain ⟨r1, μ2, hc3, hf⟩ := of_bd hf
  refine r_callVI C hCF (As := [nu a1, nu a2]) 7 (by decide) rfl (fx_m rfl) (ly_7 cy _ _) rfl (c_X1_tell h1 h2 hc3) rfl (by decide) (by decide) ⟨Nat.le_refl 0, Nat.le_refl 0⟩ tw_797 tw_800 tw_8 tw_798 tw_799 2 (by decide) rfl (Nat.le_of_ble_eq_true rfl) dX10_planned_6 (fun hr5 => ?_)
  refine V_in (fun ho4 _ => ?_)
  obtain ⟨rfl, rfl⟩ := of_ret hf
  exact r_iret C rfl hr5 dX10_planned_9
set_option maxHeartbeats 4000000 in
set_option maxRecDepth 100000 in
theorem c_X10_tally {l : Launch} {D : va_G} {cy : Nat → ClassId} {ids : List Nat} {ad : Nat → Nat} {μ μ' : Mem} {a1 a2 a3 a4 r : Int} (h1 : inR a1) (h2 : inR a2) (h3 : inR a3) (h4 : inR a4) (hf : f_X10_tally μ a1 a2 a3 a4 = some (r, μ')) : KK aI l D (tyl cy) (lay cy) ids ad 6 yX10_tally cX10_tally 5 (some .int) [rf 0, nu a1, nu a2, nu a3, nu a4] μ r μ' := by
  refine KK.of (by decide +kernel) (Nat.le_of_ble_eq_true rfl) ?_
  intro p e s m args below meth c A C hCF
  unfold f_X10_tally at hf
  refine V_in (fun ho0 _ => ?_)
  refine r_aload_n C 0 rfl rfl dX10_tally_0 ?_
  refine r_getf C 0 (by decide) rfl (fx_m rfl) (ly_0 cy _ _) rfl in_X10 7 (by decide) tw_308 (v := rf 8) rfl dX10_tally_1 ?_
  refine r_iload_n C 1 rfl rfl dX10_tally_4 ?_
  refine r_iload_n C 2 rfl rfl dX10_tally_5 ?_
  refine r_iload_n C 3 rfl rfl dX10_tally_6 ?_
  refine r_iload C rfl dX10_tally_7 ?_
  obtain ⟨r1, μ2, hc3, hf⟩ := of_bd hf
  refine r_callVI C hCF (As := [nu a1, nu a2, nu a3, nu a4]) 8 (by decide) rfl (fx_m rfl) (ly_8 cy _ _) rfl (c_X8_addTally h1 h2 h3 h4 hc3) rfl (by decide) (by decide) ⟨Nat.le_refl 0, Nat.le_refl 0⟩ tw_805 tw_808 tw_9 tw_806 tw_807 4 (by decide) rfl (Nat.le_of_ble_eq_true rfl) dX10_tally_9 (fun hr5 => ?_)
  refine V_in (fun ho4 _ => ?_)
  obtain ⟨rfl, rfl⟩ := of_ret hf
  exact r_iret C rfl hr5 dX10_tally_12
set_option maxHeartbeats 4000000 in
set_option maxRecDepth 100000 in
theorem c_X10_isTrue {l : Launch} {D : va_G} {cy : Nat → ClassId} {ids : List Nat} {ad : Nat → Nat} {μ μ' : Mem} {a1 r : Int} (h1 : inR a1) (hf : f_X10_isTrue μ a1 = some (r, μ')) : KK aI l D (tyl cy) (lay cy) ids ad 6 yX10_isTrue cX10_isTrue 2 (some .int) [rf 0, nu a1] μ r μ' := by
  refine KK.of (by decide +kernel) (Nat.le_of_ble_eq_true rfl) ?_
  intro p e s m args below meth c A C hCF
  unfold f_X10_isTrue at hf
  refine V_in (fun ho0 _ => ?_)
  refine r_aload_n C 0 rfl rfl dX10_isTrue_0 ?_
  refine r_getf C 0 (by decide) rfl (fx_m rfl) (ly_0 cy _ _) rfl in_X10 7 (by decide) tw_308 (v := rf 8) rfl dX10_isTrue_1 ?_
  refine r_iload_n C 1 rfl rfl dX10_isTrue_4 ?_
  obtain ⟨r1, μ2, hc3, hf⟩ := of_bd hf
  refine r_callVI C hCF (As := [nu a1]) 8 (by decide) rfl (fx_m rfl) (ly_8 cy _ _) rfl (c_X8_tellTruth h1 hc3) rfl (by decide) (by decide) ⟨Nat.le_refl 0, Nat.le_refl 0⟩ tw_814 tw_817 tw_9 tw_815 tw_816 1 (by decide) rfl (Nat.le_of_ble_eq_true rfl) dX10_isTrue_5 (fun hr5 => ?_)
  refine V_in (fun ho4 _ => ?_)
  obtain ⟨rfl, rfl⟩ := of_ret hf
  exact r_iret C rfl hr5 dX10_isTrue_8
set_option maxHeartbeats 4000000 in
set_option maxRecDepth 100000 in
theorem c_X10_quarrel {l : Launch} {D : va_G} {cy : Nat → ClassId} {ids : List Nat} {ad : Nat → Nat} {μ μ' : Mem} { r : Int}  (hf : f_X10_quarrel μ  = some (r, μ')) : KK aI l D (tyl cy) (lay cy) ids ad 14 yX10_quarrel cX10_quarrel 1 (some .int) [rf 0] μ r μ' := by
  refine KK.of (by decide +kernel) (Nat.le_of_ble_eq_true rfl) ?_
  intro p e s m args below meth c A C hCF
  unfold f_X10_quarrel at hf
  refine V_in (fun ho0 _ => ?_)
  refine r_aload_n C 0 rfl rfl dX10_quarrel_0 ?_
  refine r_getf C 0 (by decide) rfl (fx_m rfl) (ly_0 cy _ _) rfl in_X10 7 (by decide) tw_308 (v := rf 8) rfl dX10_quarrel_1 ?_
  obtain ⟨r1, μ2, hc3, hf⟩ := of_bd hf
  refine r_callVI C hCF (As := []) 8 (by decide) rfl (fx_m rfl) (ly_8 cy _ _) rfl (c_X8_quarrelSize hc3) rfl (by decide) (by decide) ⟨Nat.le_refl 0, Nat.le_refl 0⟩ tw_826 tw_829 tw_9 tw_827 tw_828 0 (by decide) rfl (Nat.le_of_ble_eq_true rfl) dX10_quarrel_4 (fun hr5 => ?_)
  refine V_in (fun ho4 _ => ?_)
  obtain ⟨rfl, rfl⟩ := of_ret hf
  exact r_iret C rfl hr5 dX10_quarrel_7
set_option maxHeartbeats 4000000 in
set_option maxRecDepth 100000 in
theorem c_X10_quarrels {l : Launch} {D : va_G} {cy : Nat → ClassId} {ids : List Nat} {ad : Nat → Nat} {μ μ' : Mem} {a1 r : Int} (h1 : inR a1) (hf : f_X10_quarrels μ a1 = some (r, μ')) : KK aI l D (tyl cy) (lay cy) ids ad 14 yX10_quarrels cX10_quarrels 2 (some .int) [rf 0, nu a1] μ r μ' := by
  refine KK.of (by decide +kernel) (Nat.le_of_ble_eq_true rfl) ?_
  intro p e s m args below meth c A C hCF
  unfold f_X10_quarrels at hf
  refine V_in (fun ho0 _ => ?_)
  refine r_aload_n C 0 rfl rfl dX10_quarrels_0 ?_
  refine r_getf C 0 (by decide) rfl (fx_m rfl) (ly_0 cy _ _) rfl in_X10 7 (by decide) tw_308 (v := rf 8) rfl dX10_quarrels_1 ?_
  refine r_iload_n C 1 rfl rfl dX10_quarrels_4 ?_
  obtain ⟨r1, μ2, hc3, hf⟩ := of_bd hf
  refine r_callVI C hCF (As := [nu a1]) 8 (by decide) rfl (fx_m rfl) (ly_8 cy _ _) rfl (c_X8_quarrelMember h1 hc3) rfl (by decide) (by decide) ⟨Nat.le_refl 0, Nat.le_refl 0⟩ tw_873 tw_876 tw_9 tw_874 tw_875 1 (by decide) rfl (Nat.le_of_ble_eq_true rfl) dX10_quarrels_5 (fun hr5 => ?_)
  refine V_in (fun ho4 _ => ?_)
  obtain ⟨rfl, rfl⟩ := of_ret hf
  exact r_iret C rfl hr5 dX10_quarrels_8
set_option maxHeartbeats 4000000 in
set_option maxRecDepth 100000 in
theorem c_X10_count {l : Launch} {D : va_G} {cy : Nat → ClassId} {ids : List Nat} {ad : Nat → Nat} {μ μ' : Mem} {a1 r : Int} (h1 : inR a1) (hf : f_X10_count μ a1 = some (r, μ')) : KK aI l D (tyl cy) (lay cy) ids ad 4 yX10_count cX10_count 2 (some .int) [rf 0, nu a1] μ r μ' := by
  refine KK.of (by decide +kernel) (Nat.le_of_ble_eq_true rfl) ?_
  intro p e s m args below meth c A C hCF
  unfold f_X10_count at hf
  refine V_in (fun ho0 _ => ?_)
  refine r_iload_n C 1 rfl rfl dX10_count_0 ?_
  by_cases c1 : a1 = 0
  · replace hf := if_t hf c1
    refine r_swIn C 64 0 c1 (inR_lit rfl) (by decide) (by decide) rfl rfl dX10_count_1 ?_
    refine r_aload_n C 0 rfl rfl dX10_count_64 ?_
    refine r_getf C 0 (by decide) rfl (fx_m rfl) (ly_0 cy _ _) rfl in_X10 5 (by decide) tw_306 (v := rf 6) rfl dX10_count_65 ?_
    refine r_getfN C 6 (by decide) rfl (fx_m rfl) (ly_6 cy _ _) rfl in_X3 9 (by decide) tw_163 (v := nu (μ 6 9)) rfl dX10_count_68 ?_
    obtain ⟨rfl, rfl⟩ := of_ret hf
    exact r_iret C rfl (ho0 _ _) dX10_count_71
  replace hf := if_f hf c1
  by_cases c2 : a1 = 1
  · replace hf := if_t hf c2
    refine r_swIn C 72 1 c2 (inR_lit rfl) (by decide) (by decide) rfl rfl dX10_count_1 ?_
    refine r_aload_n C 0 rfl rfl dX10_count_72 ?_
    refine r_getf C 0 (by decide) rfl (fx_m rfl) (ly_0 cy _ _) rfl in_X10 5 (by decide) tw_306 (v := rf 6) rfl dX10_count_73 ?_
    refine r_getfN C 6 (by decide) rfl (fx_m rfl) (ly_6 cy _ _) rfl in_X3 5 (by decide) tw_154 (v := nu (μ 6 5)) rfl dX10_count_76 ?_
    obtain ⟨rfl, rfl⟩ := of_ret hf
    exact r_iret C rfl (ho0 _ _) dX10_count_79
  replace hf := if_f hf c2
  by_cases c3 : a1 = 2
  · replace hf := if_t hf c3
    refine r_swIn C 80 2 c3 (inR_lit rfl) (by decide) (by decide) rfl rfl dX10_count_1 ?_
    refine r_aload_n C 0 rfl rfl dX10_count_80 ?_
    refine r_getf C 0 (by decide) rfl (fx_m rfl) (ly_0 cy _ _) rfl in_X10 5 (by decide) tw_306 (v := rf 6) rfl dX10_count_81 ?_
    refine r_getfN C 6 (by decide) rfl (fx_m rfl) (ly_6 cy _ _) rfl in_X3 6 (by decide) tw_157 (v := nu (μ 6 6)) rfl dX10_count_84 ?_
    obtain ⟨rfl, rfl⟩ := of_ret hf
    exact r_iret C rfl (ho0 _ _) dX10_count_87
  replace hf := if_f hf c3
  by_cases c4 : a1 = 3
  · replace hf := if_t hf c4
    refine r_swIn C 88 3 c4 (inR_lit rfl) (by decide) (by decide) rfl rfl dX10_count_1 ?_
    refine r_aload_n C 0 rfl rfl dX10_count_88 ?_
    refine r_getf C 0 (by decide) rfl (fx_m rfl) (ly_0 cy _ _) rfl in_X10 1 (by decide) tw_302 (v := rf 2) rfl dX10_count_89 ?_
    refine r_getfN C 2 (by decide) rfl (fx_m rfl) (ly_2 cy _ _) rfl in_X5 3 (by decide) tw_69 (v := nu (μ 2 3)) rfl dX10_count_92 ?_
    obtain ⟨rfl, rfl⟩ := of_ret hf
    exact r_iret C rfl (ho0 _ _) dX10_count_95
  replace hf := if_f hf c4
  by_cases c5 : a1 = 4
  · replace hf := if_t hf c5
    refine r_swIn C 96 4 c5 (inR_lit rfl) (by decide) (by decide) rfl rfl dX10_count_1 ?_
    refine r_aload_n C 0 rfl rfl dX10_count_96 ?_
    refine r_getf C 0 (by decide) rfl (fx_m rfl) (ly_0 cy _ _) rfl in_X10 5 (by decide) tw_306 (v := rf 6) rfl dX10_count_97 ?_
    refine r_getfN C 6 (by decide) rfl (fx_m rfl) (ly_6 cy _ _) rfl in_X3 8 (by decide) tw_161 (v := nu (μ 6 8)) rfl dX10_count_100 ?_
    obtain ⟨rfl, rfl⟩ := of_ret hf
    exact r_iret C rfl (ho0 _ _) dX10_count_103
  replace hf := if_f hf c5
  by_cases c6 : a1 = 5
  · replace hf := if_t hf c6
    refine r_swIn C 104 5 c6 (inR_lit rfl) (by decide) (by decide) rfl rfl dX10_count_1 ?_
    refine r_aload_n C 0 rfl rfl dX10_count_104 ?_
    refine r_getf C 0 (by decide) rfl (fx_m rfl) (ly_0 cy _ _) rfl in_X10 5 (by decide) tw_306 (v := rf 6) rfl dX10_count_105 ?_
    refine r_iconst C dX10_count_108 ?_
    obtain ⟨r7, μ8, hc9, hf⟩ := of_bd hf
    refine r_callVI C hCF (As := [nu 5]) 6 (by decide) rfl (fx_m rfl) (ly_6 cy _ _) rfl (c_X3_stonesThatAre (inR_lit rfl) hc9) rfl (by decide) (by decide) ⟨Nat.le_refl 0, Nat.le_refl 0⟩ tw_881 tw_884 tw_7 tw_882 tw_883 1 (by decide) rfl (Nat.le_of_ble_eq_true rfl) dX10_count_109 (fun hr11 => ?_)
    refine V_in (fun ho10 _ => ?_)
    obtain ⟨rfl, rfl⟩ := of_ret hf
    exact r_iret C rfl hr11 dX10_count_112
  replace hf := if_f hf c6
  by_cases c12 : a1 = 6
  · replace hf := if_t hf c12
    refine r_swIn C 113 6 c12 (inR_lit rfl) (by decide) (by decide) rfl rfl dX10_count_1 ?_
    refine r_aload_n C 0 rfl rfl dX10_count_113 ?_
    refine r_getf C 0 (by decide) rfl (fx_m rfl) (ly_0 cy _ _) rfl in_X10 5 (by decide) tw_306 (v := rf 6) rfl dX10_count_114 ?_
    refine r_bipush C dX10_count_117 rfl ?_
    obtain ⟨r13, μ14, hc15, hf⟩ := of_bd hf
    refine r_callVI C hCF (As := [nu 6]) 6 (by decide) rfl (fx_m rfl) (ly_6 cy _ _) rfl (c_X3_stonesThatAre (inR_lit rfl) hc15) rfl (by decide) (by decide) ⟨Nat.le_refl 0, Nat.le_refl 0⟩ tw_881 tw_884 tw_7 tw_882 tw_883 1 (by decide) rfl (Nat.le_of_ble_eq_true rfl) dX10_count_119 (fun hr17 => ?_)
    refine V_in (fun ho16 _ => ?_)
    obtain ⟨rfl, rfl⟩ := of_ret hf
    exact r_iret C rfl hr17 dX10_count_122
  replace hf := if_f hf c12
  by_cases c18 : a1 = 7
  · replace hf := if_t hf c18
    refine r_swIn C 123 7 c18 (inR_lit rfl) (by decide) (by decide) rfl rfl dX10_count_1 ?_
    refine r_aload_n C 0 rfl rfl dX10_count_123 ?_
    refine r_getf C 0 (by decide) rfl (fx_m rfl) (ly_0 cy _ _) rfl in_X10 1 (by decide) tw_302 (v := rf 2) rfl dX10_count_124 ?_
    refine r_getfN C 2 (by decide) rfl (fx_m rfl) (ly_2 cy _ _) rfl in_X5 2 (by decide) tw_66 (v := nu (μ 2 2)) rfl dX10_count_127 ?_
    obtain ⟨rfl, rfl⟩ := of_ret hf
    exact r_iret C rfl (ho0 _ _) dX10_count_130
  replace hf := if_f hf c18
  by_cases c19 : a1 = 8
  · replace hf := if_t hf c19
    refine r_swIn C 131 8 c19 (inR_lit rfl) (by decide) (by decide) rfl rfl dX10_count_1 ?_
    refine r_aload_n C 0 rfl rfl dX10_count_131 ?_
    refine r_getf C 0 (by decide) rfl (fx_m rfl) (ly_0 cy _ _) rfl in_X10 0 (by decide) tw_301 (v := rf 1) rfl dX10_count_132 ?_
    refine r_getfN C 1 (by decide) rfl (fx_m rfl) (ly_1 cy _ _) rfl in_X2 3 (by decide) tw_37 (v := nu (μ 1 3)) rfl dX10_count_135 ?_
    obtain ⟨rfl, rfl⟩ := of_ret hf
    exact r_iret C rfl (ho0 _ _) dX10_count_138
  replace hf := if_f hf c19
  by_cases c20 : a1 = 9
  · replace hf := if_t hf c20
    refine r_swIn C 139 9 c20 (inR_lit rfl) (by decide) (by decide) rfl rfl dX10_count_1 ?_
    refine r_aload_n C 0 rfl rfl dX10_count_139 ?_
    refine r_getf C 0 (by decide) rfl (fx_m rfl) (ly_0 cy _ _) rfl in_X10 2 (by decide) tw_303 (v := rf 3) rfl dX10_count_140 ?_
    refine r_getfN C 3 (by decide) rfl (fx_m rfl) (ly_3 cy _ _) rfl in_X9 1 (by decide) tw_88 (v := nu (μ 3 1)) rfl dX10_count_143 ?_
    obtain ⟨rfl, rfl⟩ := of_ret hf
    exact r_iret C rfl (ho0 _ _) dX10_count_146
  replace hf := if_f hf c20
  by_cases c21 : a1 = 10
  · replace hf := if_t hf c21
    refine r_swIn C 147 10 c21 (inR_lit rfl) (by decide) (by decide) rfl rfl dX10_count_1 ?_
    refine r_aload_n C 0 rfl rfl dX10_count_147 ?_
    refine r_getf C 0 (by decide) rfl (fx_m rfl) (ly_0 cy _ _) rfl in_X10 7 (by decide) tw_308 (v := rf 8) rfl dX10_count_148 ?_
    refine r_getfN C 8 (by decide) rfl (fx_m rfl) (ly_8 cy _ _) rfl in_X8 5 (by decide) tw_266 (v := nu (μ 8 5)) rfl dX10_count_151 ?_
    obtain ⟨rfl, rfl⟩ := of_ret hf
    exact r_iret C rfl (ho0 _ _) dX10_count_154
  replace hf := if_f hf c21
  by_cases c22 : a1 = 11
  · replace hf := if_t hf c22
    refine r_swIn C 155 11 c22 (inR_lit rfl) (by decide) (by decide) rfl rfl dX10_count_1 ?_
    refine r_aload_n C 0 rfl rfl dX10_count_155 ?_
    refine r_getf C 0 (by decide) rfl (fx_m rfl) (ly_0 cy _ _) rfl in_X10 5 (by decide) tw_306 (v := rf 6) rfl dX10_count_156 ?_
    refine r_getfN C 6 (by decide) rfl (fx_m rfl) (ly_6 cy _ _) rfl in_X3 10 (by decide) tw_166 (v := nu (μ 6 10)) rfl dX10_count_159 ?_
    obtain ⟨rfl, rfl⟩ := of_ret hf
    exact r_iret C rfl (ho0 _ _) dX10_count_162
  replace hf := if_f hf c22
  refine r_swOut C 163 h1 (by omega) rfl dX10_count_1 ?_
  refine r_aload_n C 0 rfl rfl dX10_count_163 ?_
  refine r_getf C 0 (by decide) rfl (fx_m rfl) (ly_0 cy _ _) rfl in_X10 3 (by decide) tw_304 (v := rf 4) rfl dX10_count_164 ?_
  refine r_iload_n C 1 rfl rfl dX10_count_167 ?_
  refine r_bipush C dX10_count_168 rfl ?_
  refine r_icmp_ge C 177 h1 (inR_lit rfl) rfl dX10_count_170 (fun c23 => ?_) (fun c23 => ?_)
  · replace hf := if_t hf c23
    refine r_iload_n C 1 rfl rfl dX10_count_177 ?_
    refine r_bipush C dX10_count_178 rfl ?_
    refine r_isub C dX10_count_180 ?_
    obtain ⟨g24, hf⟩ := of_g hf
    obtain ⟨r25, μ26, hc27, hf⟩ := of_bd hf
    refine r_callVI C hCF (As := [nu (a1 - 20)]) 4 (by decide) rfl (fx_m rfl) (ly_4 cy _ _) rfl (c_X6_numberAt g24 hc27) rfl (by decide) (by decide) ⟨Nat.le_refl 0, Nat.le_refl 0⟩ tw_885 tw_626 tw_5 tw_624 tw_625 1 (by decide) rfl (Nat.le_of_ble_eq_true rfl) dX10_count_181 (fun hr29 => ?_)
    refine V_in (fun ho28 _ => ?_)
    obtain ⟨rfl, rfl⟩ := of_ret hf
    exact r_iret C rfl hr29 dX10_count_184
  · replace hf := if_f hf c23
    refine r_iconst C dX10_count_173 ?_
    refine r_goto C 181 rfl dX10_count_174 ?_
    obtain ⟨r30, μ31, hc32, hf⟩ := of_bd hf
    refine r_callVI C hCF (As := [nu (-1)]) 4 (by decide) rfl (fx_m rfl) (ly_4 cy _ _) rfl (c_X6_numberAt (inR_lit rfl) hc32) rfl (by decide) (by decide) ⟨Nat.le_refl 0, Nat.le_refl 0⟩ tw_885 tw_626 tw_5 tw_624 tw_625 1 (by decide) rfl (Nat.le_of_ble_eq_true rfl) dX10_count_181 (fun hr34 => ?_)
    refine V_in (fun ho33 _ => ?_)
    obtain ⟨rfl, rfl⟩ := of_ret hf
    exact r_iret C rfl hr34 dX10_count_184
