/-! THE LAW: its loop, over what the two sides' functions do alike (PureOK) -/
/-- the script: a row that nobody writes -/
def Scr (s : State) (A : Nat → Prop) (b L : Nat) (xs : Nat → Int32) : Prop := va_X b L xs s s.heap ∧ b < s.heap.size ∧ ¬ A b ∧ L ≤ 3072
/-- both sides answer alike, and what is kept is kept -/
def Same (Inv : Mem → Prop) (f g : Mem → Option (Int × Mem)) (μ : Mem) : Prop := ∃ (r : Int) (μ1 μ2 : Mem), f μ = some (r, μ1) ∧ g μ1 = some (r, μ2) ∧ μ2 90 = μ1 90 ∧ Inv μ2
def Same0 (Inv : Mem → Prop) (f g : Mem → Option (Int × Mem)) (μ : Mem) : Prop := ∃ (r : Int) (μ1 μ2 : Mem), f μ = some (r, μ1) ∧ g μ1 = some (r, μ2) ∧ μ1 90 = μ 90 ∧ μ2 90 = μ1 90 ∧ Inv μ2
/-- WHAT THE PURE SIDE OWES: a step of the law, for each of the twenty calls -/
def PureStep (Inv : Mem → Prop) (μ : Mem) : Prop :=
  (0 ≤ μ 90 0 ∧ μ 90 0 < 100 ∧ 0 ≤ μ 90 1 ∧ μ 90 1 < 100) ∧ (∀ a, refA a = true → ∀ j, μ a j < 0 ∨ (μ a j).toNat ≠ 100 + (μ 90 0).toNat) ∧ (∀ a, refA a = true → ∀ j, μ a j < 0 ∨ (μ a j).toNat ≠ 200 + (μ 90 1).toNat) ∧
  (∀ a1 : Int, inR a1 → Same Inv (fun μ => f_X10_gang μ a1) (fun μ => f_X11_gang μ a1) μ) ∧
  (∀ a1 a2 : Int, inR a1 → inR a2 → Same0 Inv (fun μ => f_X10_boat μ a1 a2) (fun μ => f_X11_boat μ a1 a2) μ) ∧
  (∀ a1 a2 a3 : Int, inR a1 → inR a2 → inR a3 → Same0 Inv (fun μ => f_X10_spell μ a1 a2 a3) (fun μ => f_X11_spell μ a1 a2 a3) μ) ∧
  (∀ a1 a2 a3 a4 a5 : Int, inR a1 → inR a2 → inR a3 → inR a4 → inR a5 → Same0 Inv (fun μ => f_X10_feed μ a1 a2 a3 a4 a5) (fun μ => f_X11_feed μ a1 a2 a3 a4 a5) μ) ∧
  (∀ a1 : Int, inR a1 → Same0 Inv (fun μ => f_X10_end μ a1) (fun μ => f_X11_end μ a1) μ) ∧
  (Same0 Inv (fun μ => f_X10_table μ ) (fun μ => f_X11_table μ ) μ) ∧
  (∀ a1 a2 : Int, inR a1 → inR a2 → Same Inv (fun μ => f_X10_stone μ a1 a2) (fun μ => f_X11_stone μ a1 a2) μ) ∧
  (∀ a1 a2 : Int, inR a1 → inR a2 → Same0 Inv (fun μ => f_X10_send μ a1 a2) (fun μ => f_X11_send μ a1 a2) μ) ∧
  (∀ a1 : Int, inR a1 → Same0 Inv (fun μ => f_X10_raise μ a1) (fun μ => f_X11_raise μ a1) μ) ∧
  (∀ a1 : Int, inR a1 → Same0 Inv (fun μ => f_X10_callOff μ a1) (fun μ => f_X11_callOff μ a1) μ) ∧
  (∀ a1 : Int, inR a1 → Same0 Inv (fun μ => f_X10_pass μ a1) (fun μ => f_X11_pass μ a1) μ) ∧
  (∀ a1 a2 : Int, inR a1 → inR a2 → Same0 Inv (fun μ => f_X10_about μ a1 a2) (fun μ => f_X11_about μ a1 a2) μ) ∧
  (∀ a1 a2 : Int, inR a1 → inR a2 → Same0 Inv (fun μ => f_X10_gangs μ a1 a2) (fun μ => f_X11_gangs μ a1 a2) μ) ∧
  (Same0 Inv (fun μ => f_X10_plan μ ) (fun μ => f_X11_plan μ ) μ) ∧
  (∀ a1 a2 : Int, inR a1 → inR a2 → Same0 Inv (fun μ => f_X10_planned μ a1 a2) (fun μ => f_X11_planned μ a1 a2) μ) ∧
  (∀ a1 a2 a3 a4 : Int, inR a1 → inR a2 → inR a3 → inR a4 → Same0 Inv (fun μ => f_X10_tally μ a1 a2 a3 a4) (fun μ => f_X11_tally μ a1 a2 a3 a4) μ) ∧
  (∀ a1 : Int, inR a1 → Same0 Inv (fun μ => f_X10_isTrue μ a1) (fun μ => f_X11_isTrue μ a1) μ) ∧
  (Same0 Inv (fun μ => f_X10_quarrel μ ) (fun μ => f_X11_quarrel μ ) μ) ∧
  (∀ a1 : Int, inR a1 → Same0 Inv (fun μ => f_X10_quarrels μ a1) (fun μ => f_X11_quarrels μ a1) μ) ∧
  (∀ a1 : Int, inR a1 → Same0 Inv (fun μ => f_X10_count μ a1) (fun μ => f_X11_count μ a1) μ)
def PureOK (Inv : Mem → Prop) : Prop := ∀ μ, ok μ → Inv μ → PureStep Inv μ
section LAW
variable {p : Program} {l : Launch} {e : Env} {R : Room} {s : State} {m : MethodId} {args : Array Value} {below : List Frame} {meth : Method} {c : Code} {cells slots : Nat} {Q : State → Prop} {D : va_G} {tys : List (ClassId × FieldType)} {A : Nat → Prop} {ly : Lay} {cy : Nat → ClassId} {ids : List Nat} {ad : Nat → Nat} {nL : Nat} {cc : ByteArray} {own : String} {ret : Option FieldType} {μ : Mem} {pc : Nat} {lv : LV} {st : List AV} {b L : Nat} {xs : Nat → Int32} {i : Int}
theorem r_slen (C : Cx p s m args meth c D tys A nL cc own ret) (S : Scr s A b L xs) (hb : ad 1040 = b) (hd : decode cc pc = .ok (.arraylength, 1)) (kk : V p l e R s m args below meth c cells slots Q D A ly ids ad nL μ (pc + 1) lv (nu L :: st)) : V p l e R s m args below meth c cells slots Q D A ly ids ad nL μ pc lv (rf 1040 :: st) := by
  intro ho hg H locs hP hD hS ls hl
  rw [List.map_cons, vv_rf, rv_at (by decide), show ad (1040 : Int).toNat = b from hb]
  exact va_slen C.1 C.2.1 S.1 S.2.1 S.2.2.1 hS hd (kk ho hg H locs hP hD hS ls hl)
theorem r_sld (C : Cx p s m args meth c D tys A nL cc own ret) (S : Scr s A b L xs) (hb : ad 1040 = b) {z : Int} (hz : 0 ≤ z ∧ z < L) (hd : decode cc pc = .ok (.iaload, 1)) (kk : V p l e R s m args below meth c cells slots Q D A ly ids ad nL μ (pc + 1) lv (nu (xs z.toNat).toInt :: st)) : V p l e R s m args below meth c cells slots Q D A ly ids ad nL μ pc lv (nu z :: rf 1040 :: st) := by
  intro ho hg H locs hP hD hS ls hl
  have hL := S.2.2.2
  rw [List.map_cons, List.map_cons, vv_rf, vv_nu, rv_at (by decide), show ad (1040 : Int).toNat = b from hb]
  refine va_sld C.1 C.2.1 S.1 S.2.1 S.2.2.1 hS (i := zI z) (zI_in hz.1 hz.2 (by omega)) hd ?_
  have K := kk ho hg H locs hP hD hS ls hl
  rw [List.map_cons, vv_nu] at K
  rw [zI_clamp ⟨by omega, by omega⟩]
  rw [show iv (xs z.toNat).toInt = .int (xs z.toNat) from congrArg Value.int (zI_of _)] at K
  exact K
set_option maxHeartbeats 4000000 in
set_option maxRecDepth 100000 in
theorem law_0 (C : Cx p s m args meth c D (tyl cy) A 4 cL_law RL (some .boolean)) (hCF : CF ad A s) (S : Scr s A b L xs) (hb : ad 1040 = b) (hi : 0 ≤ i ∧ i + 6 ≤ (L : Int)) (hcl : cells + 1 ≤ 600000) (hsl : slots + 6 ≤ 7302250) (hok : idsOK ids μ) {r : Int} {μ1 μ2 : Mem} (hf : f_X10_gang μ (xs (i + 1).toNat).toInt = some (r, μ1)) (hg : f_X11_gang μ1 (xs (i + 1).toNat).toInt = some (r, μ2)) (h2 : μ2 90 = μ1 90) (hbb : 0 ≤ μ 90 0 ∧ μ 90 0 < 100 ∧ 0 ≤ μ 90 1 ∧ μ 90 1 < 100) (hrf : ∀ a, refA a = true → ∀ j, μ a j < 0 ∨ (μ a j).toNat ≠ 200 + (μ 90 1).toNat) (kk : ∀ (ids1 : List Nat) (ad1 : Nat → Nat) (c1 s1 : Nat), idsOK ids1 μ2 → ad1 1040 = b → CF ad1 A s → c1 ≤ cells + 1 → s1 ≤ slots + 6 → V p l e room_1 s m args below meth c c1 s1 Q D A (lay cy) ids1 ad1 4 μ2 708 [some (rf 1040), some (rf 0), some (rf 300), some (nu i)] []) : V p l e room_1 s m args below meth c cells slots Q D A (lay cy) ids ad 4 μ 128 [some (rf 1040), some (rf 0), some (rf 300), some (nu i)] [] := by
  refine r_aload_n C 1 rfl rfl dL_law_128 ?_
  refine r_aload_n C 0 rfl rfl dL_law_129 ?_
  refine r_iload_n C 3 rfl rfl dL_law_130 ?_
  refine r_iconst C dL_law_131 ?_
  refine r_iadd C dL_law_132 ?_
  refine r_sld C S hb ⟨by omega, by omega⟩ dL_law_133 ?_
  refine g_callVN C hCF (As := [nu (xs (i + 1).toNat).toInt]) 0 (by decide) rfl (fx_m rfl) (ly_0 cy _ _) rfl (c_X10_gang hok hbb hrf (zI_rng _) hf) ⟨by decide, by decide⟩ ⟨by show cells + 1 ≤ 600000; omega, by show slots + 5 ≤ 7302250; omega⟩ tw_326 tw_329 tw_1 tw_327 tw_328 1 (by decide) rfl (Nat.le_of_ble_eq_true rfl) dL_law_134 (okL_mem (lv := [some (rf 1040), some (rf 0), some (rf 300), some (nu i)]) (And.intro (fun _ => Or.inr (Or.inr (by decide))) (And.intro (fun _ => Or.inr (Or.inl ((hok _).mpr (Or.inl rfl)))) (And.intro (fun _ => Or.inr (Or.inl ((hok _).mpr (Or.inl rfl)))) (And.intro nuP trivial))))) (by intro v hv; exact absurd hv List.not_mem_nil) (fun ids1 ad1 hx hr0 hCFx => ?_)
  have hb1 : ad1 1040 = b := (hx.2.2 1040 (by decide)).trans hb
  have hCF1 := hCFx hCF
  refine r_aload_n C 2 rfl rfl dL_law_137 ?_
  refine r_aload_n C 0 rfl rfl dL_law_138 ?_
  refine r_iload_n C 3 rfl rfl dL_law_139 ?_
  refine r_iconst C dL_law_140 ?_
  refine r_iadd C dL_law_141 ?_
  refine r_sld C S hb1 ⟨by omega, by omega⟩ dL_law_142 ?_
  refine g_callVI C hCF1 (As := [nu (xs (i + 1).toNat).toInt]) 300 (by decide) rfl (fx_m rfl) (ly_300 cy _ _) rfl (c_X11_gang (zI_rng _) hg) ⟨by decide, by decide⟩ ⟨by show (cells + 1) + 0 ≤ 600000; omega, by show (slots + 5) + 0 ≤ 7302250; omega⟩ tw_1059 tw_1062 tw_10 tw_1060 tw_1061 1 (by decide) rfl (Nat.le_of_ble_eq_true rfl) dL_law_143 (fun hr1 => ?_)
  exact r_icmp_eq C 708 hr0 hr1 rfl dL_law_146 (fun _ => kk ids1 ad1 _ _ (idsOK_90 h2 hx.1) hb1 hCF1 (by omega) (by omega)) (fun hne => absurd rfl hne)
set_option maxHeartbeats 4000000 in
set_option maxRecDepth 100000 in
theorem law_1 (C : Cx p s m args meth c D (tyl cy) A 4 cL_law RL (some .boolean)) (hCF : CF ad A s) (S : Scr s A b L xs) (hb : ad 1040 = b) (hi : 0 ≤ i ∧ i + 6 ≤ (L : Int)) (hcl : cells + 1 ≤ 600000) (hsl : slots + 6 ≤ 7302250) (hok : idsOK ids μ) {r : Int} {μ1 μ2 : Mem} (hf : f_X10_boat μ (xs (i + 1).toNat).toInt (xs (i + 2).toNat).toInt = some (r, μ1)) (hg : f_X11_boat μ1 (xs (i + 1).toNat).toInt (xs (i + 2).toNat).toInt = some (r, μ2)) (h2 : μ2 90 = μ1 90) (h1 : μ1 90 = μ 90) (kk : ∀ (ids1 : List Nat) (ad1 : Nat → Nat) (c1 s1 : Nat), idsOK ids1 μ2 → ad1 1040 = b → CF ad1 A s → c1 ≤ cells + 1 → s1 ≤ slots + 6 → V p l e room_1 s m args below meth c c1 s1 Q D A (lay cy) ids1 ad1 4 μ2 708 [some (rf 1040), some (rf 0), some (rf 300), some (nu i)] []) : V p l e room_1 s m args below meth c cells slots Q D A (lay cy) ids ad 4 μ 151 [some (rf 1040), some (rf 0), some (rf 300), some (nu i)] [] := by
  refine r_aload_n C 1 rfl rfl dL_law_151 ?_
  refine r_aload_n C 0 rfl rfl dL_law_152 ?_
  refine r_iload_n C 3 rfl rfl dL_law_153 ?_
  refine r_iconst C dL_law_154 ?_
  refine r_iadd C dL_law_155 ?_
  refine r_sld C S hb ⟨by omega, by omega⟩ dL_law_156 ?_
  refine r_aload_n C 0 rfl rfl dL_law_157 ?_
  refine r_iload_n C 3 rfl rfl dL_law_158 ?_
  refine r_iconst C dL_law_159 ?_
  refine r_iadd C dL_law_160 ?_
  refine r_sld C S hb ⟨by omega, by omega⟩ dL_law_161 ?_
  refine g_callVI C hCF (As := [nu (xs (i + 1).toNat).toInt, nu (xs (i + 2).toNat).toInt]) 0 (by decide) rfl (fx_m rfl) (ly_0 cy _ _) rfl (c_X10_boat (zI_rng _) (zI_rng _) hf) ⟨by decide, by decide⟩ ⟨by show cells + 0 ≤ 600000; omega, by show slots + 0 ≤ 7302250; omega⟩ tw_367 tw_370 tw_1 tw_368 tw_369 2 (by decide) rfl (Nat.le_of_ble_eq_true rfl) dL_law_162 (fun hr0 => ?_)
  refine r_aload_n C 2 rfl rfl dL_law_165 ?_
  refine r_aload_n C 0 rfl rfl dL_law_166 ?_
  refine r_iload_n C 3 rfl rfl dL_law_167 ?_
  refine r_iconst C dL_law_168 ?_
  refine r_iadd C dL_law_169 ?_
  refine r_sld C S hb ⟨by omega, by omega⟩ dL_law_170 ?_
  refine r_aload_n C 0 rfl rfl dL_law_171 ?_
  refine r_iload_n C 3 rfl rfl dL_law_172 ?_
  refine r_iconst C dL_law_173 ?_
  refine r_iadd C dL_law_174 ?_
  refine r_sld C S hb ⟨by omega, by omega⟩ dL_law_175 ?_
  refine g_callVI C hCF (As := [nu (xs (i + 1).toNat).toInt, nu (xs (i + 2).toNat).toInt]) 300 (by decide) rfl (fx_m rfl) (ly_300 cy _ _) rfl (c_X11_boat (zI_rng _) (zI_rng _) hg) ⟨by decide, by decide⟩ ⟨by show cells + 0 ≤ 600000; omega, by show slots + 0 ≤ 7302250; omega⟩ tw_1066 tw_1069 tw_10 tw_1067 tw_1068 2 (by decide) rfl (Nat.le_of_ble_eq_true rfl) dL_law_176 (fun hr1 => ?_)
  exact r_icmp_eq C 708 hr0 hr1 rfl dL_law_179 (fun _ => kk ids ad _ _ (idsOK_90 (h2.trans h1) hok) hb hCF (by omega) (by omega)) (fun hne => absurd rfl hne)
set_option maxHeartbeats 4000000 in
set_option maxRecDepth 100000 in
theorem law_2 (C : Cx p s m args meth c D (tyl cy) A 4 cL_law RL (some .boolean)) (hCF : CF ad A s) (S : Scr s A b L xs) (hb : ad 1040 = b) (hi : 0 ≤ i ∧ i + 6 ≤ (L : Int)) (hcl : cells + 1 ≤ 600000) (hsl : slots + 6 ≤ 7302250) (hok : idsOK ids μ) {r : Int} {μ1 μ2 : Mem} (hf : f_X10_spell μ (xs (i + 1).toNat).toInt (xs (i + 2).toNat).toInt (xs (i + 3).toNat).toInt = some (r, μ1)) (hg : f_X11_spell μ1 (xs (i + 1).toNat).toInt (xs (i + 2).toNat).toInt (xs (i + 3).toNat).toInt = some (r, μ2)) (h2 : μ2 90 = μ1 90) (h1 : μ1 90 = μ 90) (kk : ∀ (ids1 : List Nat) (ad1 : Nat → Nat) (c1 s1 : Nat), idsOK ids1 μ2 → ad1 1040 = b → CF ad1 A s → c1 ≤ cells + 1 → s1 ≤ slots + 6 → V p l e room_1 s m args below meth c c1 s1 Q D A (lay cy) ids1 ad1 4 μ2 708 [some (rf 1040), some (rf 0), some (rf 300), some (nu i)] []) : V p l e room_1 s m args below meth c cells slots Q D A (lay cy) ids ad 4 μ 184 [some (rf 1040), some (rf 0), some (rf 300), some (nu i)] [] := by
  refine r_aload_n C 1 rfl rfl dL_law_184 ?_
  refine r_aload_n C 0 rfl rfl dL_law_185 ?_
  refine r_iload_n C 3 rfl rfl dL_law_186 ?_
  refine r_iconst C dL_law_187 ?_
  refine r_iadd C dL_law_188 ?_
  refine r_sld C S hb ⟨by omega, by omega⟩ dL_law_189 ?_
  refine r_aload_n C 0 rfl rfl dL_law_190 ?_
  refine r_iload_n C 3 rfl rfl dL_law_191 ?_
  refine r_iconst C dL_law_192 ?_
  refine r_iadd C dL_law_193 ?_
  refine r_sld C S hb ⟨by omega, by omega⟩ dL_law_194 ?_
  refine r_aload_n C 0 rfl rfl dL_law_195 ?_
  refine r_iload_n C 3 rfl rfl dL_law_196 ?_
  refine r_iconst C dL_law_197 ?_
  refine r_iadd C dL_law_198 ?_
  refine r_sld C S hb ⟨by omega, by omega⟩ dL_law_199 ?_
  refine g_callVI C hCF (As := [nu (xs (i + 1).toNat).toInt, nu (xs (i + 2).toNat).toInt, nu (xs (i + 3).toNat).toInt]) 0 (by decide) rfl (fx_m rfl) (ly_0 cy _ _) rfl (c_X10_spell (zI_rng _) (zI_rng _) (zI_rng _) hf) ⟨by decide, by decide⟩ ⟨by show cells + 0 ≤ 600000; omega, by show slots + 0 ≤ 7302250; omega⟩ tw_379 tw_382 tw_1 tw_380 tw_381 3 (by decide) rfl (Nat.le_of_ble_eq_true rfl) dL_law_200 (fun hr0 => ?_)
  refine r_aload_n C 2 rfl rfl dL_law_203 ?_
  refine r_aload_n C 0 rfl rfl dL_law_204 ?_
  refine r_iload_n C 3 rfl rfl dL_law_205 ?_
  refine r_iconst C dL_law_206 ?_
  refine r_iadd C dL_law_207 ?_
  refine r_sld C S hb ⟨by omega, by omega⟩ dL_law_208 ?_
  refine r_aload_n C 0 rfl rfl dL_law_209 ?_
  refine r_iload_n C 3 rfl rfl dL_law_210 ?_
  refine r_iconst C dL_law_211 ?_
  refine r_iadd C dL_law_212 ?_
  refine r_sld C S hb ⟨by omega, by omega⟩ dL_law_213 ?_
  refine r_aload_n C 0 rfl rfl dL_law_214 ?_
  refine r_iload_n C 3 rfl rfl dL_law_215 ?_
  refine r_iconst C dL_law_216 ?_
  refine r_iadd C dL_law_217 ?_
  refine r_sld C S hb ⟨by omega, by omega⟩ dL_law_218 ?_
  refine g_callVI C hCF (As := [nu (xs (i + 1).toNat).toInt, nu (xs (i + 2).toNat).toInt, nu (xs (i + 3).toNat).toInt]) 300 (by decide) rfl (fx_m rfl) (ly_300 cy _ _) rfl (c_X11_spell (zI_rng _) (zI_rng _) (zI_rng _) hg) ⟨by decide, by decide⟩ ⟨by show cells + 0 ≤ 600000; omega, by show slots + 0 ≤ 7302250; omega⟩ tw_1071 tw_1074 tw_10 tw_1072 tw_1073 3 (by decide) rfl (Nat.le_of_ble_eq_true rfl) dL_law_219 (fun hr1 => ?_)
  exact r_icmp_eq C 708 hr0 hr1 rfl dL_law_222 (fun _ => kk ids ad _ _ (idsOK_90 (h2.trans h1) hok) hb hCF (by omega) (by omega)) (fun hne => absurd rfl hne)
set_option maxHeartbeats 4000000 in
set_option maxRecDepth 100000 in
theorem law_3 (C : Cx p s m args meth c D (tyl cy) A 4 cL_law RL (some .boolean)) (hCF : CF ad A s) (S : Scr s A b L xs) (hb : ad 1040 = b) (hi : 0 ≤ i ∧ i + 6 ≤ (L : Int)) (hcl : cells + 1 ≤ 600000) (hsl : slots + 6 ≤ 7302250) (hok : idsOK ids μ) {r : Int} {μ1 μ2 : Mem} (hf : f_X10_feed μ (xs (i + 1).toNat).toInt (xs (i + 2).toNat).toInt (xs (i + 3).toNat).toInt (xs (i + 4).toNat).toInt (xs (i + 5).toNat).toInt = some (r, μ1)) (hg : f_X11_feed μ1 (xs (i + 1).toNat).toInt (xs (i + 2).toNat).toInt (xs (i + 3).toNat).toInt (xs (i + 4).toNat).toInt (xs (i + 5).toNat).toInt = some (r, μ2)) (h2 : μ2 90 = μ1 90) (h1 : μ1 90 = μ 90) (kk : ∀ (ids1 : List Nat) (ad1 : Nat → Nat) (c1 s1 : Nat), idsOK ids1 μ2 → ad1 1040 = b → CF ad1 A s → c1 ≤ cells + 1 → s1 ≤ slots + 6 → V p l e room_1 s m args below meth c c1 s1 Q D A (lay cy) ids1 ad1 4 μ2 708 [some (rf 1040), some (rf 0), some (rf 300), some (nu i)] []) : V p l e room_1 s m args below meth c cells slots Q D A (lay cy) ids ad 4 μ 227 [some (rf 1040), some (rf 0), some (rf 300), some (nu i)] [] := by
  refine r_aload_n C 1 rfl rfl dL_law_227 ?_
  refine r_aload_n C 0 rfl rfl dL_law_228 ?_
  refine r_iload_n C 3 rfl rfl dL_law_229 ?_
  refine r_iconst C dL_law_230 ?_
  refine r_iadd C dL_law_231 ?_
  refine r_sld C S hb ⟨by omega, by omega⟩ dL_law_232 ?_
  refine r_aload_n C 0 rfl rfl dL_law_233 ?_
  refine r_iload_n C 3 rfl rfl dL_law_234 ?_
  refine r_iconst C dL_law_235 ?_
  refine r_iadd C dL_law_236 ?_
  refine r_sld C S hb ⟨by omega, by omega⟩ dL_law_237 ?_
  refine r_aload_n C 0 rfl rfl dL_law_238 ?_
  refine r_iload_n C 3 rfl rfl dL_law_239 ?_
  refine r_iconst C dL_law_240 ?_
  refine r_iadd C dL_law_241 ?_
  refine r_sld C S hb ⟨by omega, by omega⟩ dL_law_242 ?_
  refine r_aload_n C 0 rfl rfl dL_law_243 ?_
  refine r_iload_n C 3 rfl rfl dL_law_244 ?_
  refine r_iconst C dL_law_245 ?_
  refine r_iadd C dL_law_246 ?_
  refine r_sld C S hb ⟨by omega, by omega⟩ dL_law_247 ?_
  refine r_aload_n C 0 rfl rfl dL_law_248 ?_
  refine r_iload_n C 3 rfl rfl dL_law_249 ?_
  refine r_iconst C dL_law_250 ?_
  refine r_iadd C dL_law_251 ?_
  refine r_sld C S hb ⟨by omega, by omega⟩ dL_law_252 ?_
  refine g_callVI C hCF (As := [nu (xs (i + 1).toNat).toInt, nu (xs (i + 2).toNat).toInt, nu (xs (i + 3).toNat).toInt, nu (xs (i + 4).toNat).toInt, nu (xs (i + 5).toNat).toInt]) 0 (by decide) rfl (fx_m rfl) (ly_0 cy _ _) rfl (c_X10_feed (zI_rng _) (zI_rng _) (zI_rng _) (zI_rng _) (zI_rng _) hf) ⟨by decide, by decide⟩ ⟨by show cells + 0 ≤ 600000; omega, by show slots + 0 ≤ 7302250; omega⟩ tw_398 tw_401 tw_1 tw_399 tw_400 5 (by decide) rfl (Nat.le_of_ble_eq_true rfl) dL_law_253 (fun hr0 => ?_)
  refine r_aload_n C 2 rfl rfl dL_law_256 ?_
  refine r_aload_n C 0 rfl rfl dL_law_257 ?_
  refine r_iload_n C 3 rfl rfl dL_law_258 ?_
  refine r_iconst C dL_law_259 ?_
  refine r_iadd C dL_law_260 ?_
  refine r_sld C S hb ⟨by omega, by omega⟩ dL_law_261 ?_
  refine r_aload_n C 0 rfl rfl dL_law_262 ?_
  refine r_iload_n C 3 rfl rfl dL_law_263 ?_
  refine r_iconst C dL_law_264 ?_
  refine r_iadd C dL_law_265 ?_
  refine r_sld C S hb ⟨by omega, by omega⟩ dL_law_266 ?_
  refine r_aload_n C 0 rfl rfl dL_law_267 ?_
  refine r_iload_n C 3 rfl rfl dL_law_268 ?_
  refine r_iconst C dL_law_269 ?_
  refine r_iadd C dL_law_270 ?_
  refine r_sld C S hb ⟨by omega, by omega⟩ dL_law_271 ?_
  refine r_aload_n C 0 rfl rfl dL_law_272 ?_
  refine r_iload_n C 3 rfl rfl dL_law_273 ?_
  refine r_iconst C dL_law_274 ?_
  refine r_iadd C dL_law_275 ?_
  refine r_sld C S hb ⟨by omega, by omega⟩ dL_law_276 ?_
  refine r_aload_n C 0 rfl rfl dL_law_277 ?_
  refine r_iload_n C 3 rfl rfl dL_law_278 ?_
  refine r_iconst C dL_law_279 ?_
  refine r_iadd C dL_law_280 ?_
  refine r_sld C S hb ⟨by omega, by omega⟩ dL_law_281 ?_
  refine g_callVI C hCF (As := [nu (xs (i + 1).toNat).toInt, nu (xs (i + 2).toNat).toInt, nu (xs (i + 3).toNat).toInt, nu (xs (i + 4).toNat).toInt, nu (xs (i + 5).toNat).toInt]) 300 (by decide) rfl (fx_m rfl) (ly_300 cy _ _) rfl (c_X11_feed (zI_rng _) (zI_rng _) (zI_rng _) (zI_rng _) (zI_rng _) hg) ⟨by decide, by decide⟩ ⟨by show cells + 0 ≤ 600000; omega, by show slots + 0 ≤ 7302250; omega⟩ tw_1075 tw_1078 tw_10 tw_1076 tw_1077 5 (by decide) rfl (Nat.le_of_ble_eq_true rfl) dL_law_282 (fun hr1 => ?_)
  exact r_icmp_eq C 708 hr0 hr1 rfl dL_law_285 (fun _ => kk ids ad _ _ (idsOK_90 (h2.trans h1) hok) hb hCF (by omega) (by omega)) (fun hne => absurd rfl hne)
set_option maxHeartbeats 4000000 in
set_option maxRecDepth 100000 in
theorem law_4 (C : Cx p s m args meth c D (tyl cy) A 4 cL_law RL (some .boolean)) (hCF : CF ad A s) (S : Scr s A b L xs) (hb : ad 1040 = b) (hi : 0 ≤ i ∧ i + 6 ≤ (L : Int)) (hcl : cells + 1 ≤ 600000) (hsl : slots + 6 ≤ 7302250) (hok : idsOK ids μ) {r : Int} {μ1 μ2 : Mem} (hf : f_X10_end μ (xs (i + 1).toNat).toInt = some (r, μ1)) (hg : f_X11_end μ1 (xs (i + 1).toNat).toInt = some (r, μ2)) (h2 : μ2 90 = μ1 90) (h1 : μ1 90 = μ 90) (kk : ∀ (ids1 : List Nat) (ad1 : Nat → Nat) (c1 s1 : Nat), idsOK ids1 μ2 → ad1 1040 = b → CF ad1 A s → c1 ≤ cells + 1 → s1 ≤ slots + 6 → V p l e room_1 s m args below meth c c1 s1 Q D A (lay cy) ids1 ad1 4 μ2 708 [some (rf 1040), some (rf 0), some (rf 300), some (nu i)] []) : V p l e room_1 s m args below meth c cells slots Q D A (lay cy) ids ad 4 μ 290 [some (rf 1040), some (rf 0), some (rf 300), some (nu i)] [] := by
  refine r_aload_n C 1 rfl rfl dL_law_290 ?_
  refine r_aload_n C 0 rfl rfl dL_law_291 ?_
  refine r_iload_n C 3 rfl rfl dL_law_292 ?_
  refine r_iconst C dL_law_293 ?_
  refine r_iadd C dL_law_294 ?_
  refine r_sld C S hb ⟨by omega, by omega⟩ dL_law_295 ?_
  refine g_callVI C hCF (As := [nu (xs (i + 1).toNat).toInt]) 0 (by decide) rfl (fx_m rfl) (ly_0 cy _ _) rfl (c_X10_end (zI_rng _) hf) ⟨by decide, by decide⟩ ⟨by show cells + 0 ≤ 600000; omega, by show slots + 0 ≤ 7302250; omega⟩ tw_410 tw_413 tw_1 tw_411 tw_412 1 (by decide) rfl (Nat.le_of_ble_eq_true rfl) dL_law_296 (fun hr0 => ?_)
  refine r_aload_n C 2 rfl rfl dL_law_299 ?_
  refine r_aload_n C 0 rfl rfl dL_law_300 ?_
  refine r_iload_n C 3 rfl rfl dL_law_301 ?_
  refine r_iconst C dL_law_302 ?_
  refine r_iadd C dL_law_303 ?_
  refine r_sld C S hb ⟨by omega, by omega⟩ dL_law_304 ?_
  refine g_callVI C hCF (As := [nu (xs (i + 1).toNat).toInt]) 300 (by decide) rfl (fx_m rfl) (ly_300 cy _ _) rfl (c_X11_end (zI_rng _) hg) ⟨by decide, by decide⟩ ⟨by show cells + 0 ≤ 600000; omega, by show slots + 0 ≤ 7302250; omega⟩ tw_1083 tw_1086 tw_10 tw_1084 tw_1085 1 (by decide) rfl (Nat.le_of_ble_eq_true rfl) dL_law_305 (fun hr1 => ?_)
  exact r_icmp_eq C 708 hr0 hr1 rfl dL_law_308 (fun _ => kk ids ad _ _ (idsOK_90 (h2.trans h1) hok) hb hCF (by omega) (by omega)) (fun hne => absurd rfl hne)
set_option maxHeartbeats 4000000 in
set_option maxRecDepth 100000 in
theorem law_5 (C : Cx p s m args meth c D (tyl cy) A 4 cL_law RL (some .boolean)) (hCF : CF ad A s) (S : Scr s A b L xs) (hb : ad 1040 = b) (hi : 0 ≤ i ∧ i + 6 ≤ (L : Int)) (hcl : cells + 1 ≤ 600000) (hsl : slots + 6 ≤ 7302250) (hok : idsOK ids μ) {r : Int} {μ1 μ2 : Mem} (hf : f_X10_table μ  = some (r, μ1)) (hg : f_X11_table μ1  = some (r, μ2)) (h2 : μ2 90 = μ1 90) (h1 : μ1 90 = μ 90) (kk : ∀ (ids1 : List Nat) (ad1 : Nat → Nat) (c1 s1 : Nat), idsOK ids1 μ2 → ad1 1040 = b → CF ad1 A s → c1 ≤ cells + 1 → s1 ≤ slots + 6 → V p l e room_1 s m args below meth c c1 s1 Q D A (lay cy) ids1 ad1 4 μ2 708 [some (rf 1040), some (rf 0), some (rf 300), some (nu i)] []) : V p l e room_1 s m args below meth c cells slots Q D A (lay cy) ids ad 4 μ 313 [some (rf 1040), some (rf 0), some (rf 300), some (nu i)] [] := by
  refine r_aload_n C 1 rfl rfl dL_law_313 ?_
  refine g_callVI C hCF (As := []) 0 (by decide) rfl (fx_m rfl) (ly_0 cy _ _) rfl (c_X10_table  hf) ⟨by decide, by decide⟩ ⟨by show cells + 0 ≤ 600000; omega, by show slots + 0 ≤ 7302250; omega⟩ tw_418 tw_421 tw_1 tw_419 tw_420 0 (by decide) rfl (Nat.le_of_ble_eq_true rfl) dL_law_314 (fun hr0 => ?_)
  refine r_aload_n C 2 rfl rfl dL_law_317 ?_
  refine g_callVI C hCF (As := []) 300 (by decide) rfl (fx_m rfl) (ly_300 cy _ _) rfl (c_X11_table  hg) ⟨by decide, by decide⟩ ⟨by show cells + 0 ≤ 600000; omega, by show slots + 0 ≤ 7302250; omega⟩ tw_1087 tw_1090 tw_10 tw_1088 tw_1089 0 (by decide) rfl (Nat.le_of_ble_eq_true rfl) dL_law_318 (fun hr1 => ?_)
  exact r_icmp_eq C 708 hr0 hr1 rfl dL_law_321 (fun _ => kk ids ad _ _ (idsOK_90 (h2.trans h1) hok) hb hCF (by omega) (by omega)) (fun hne => absurd rfl hne)
set_option maxHeartbeats 4000000 in
set_option maxRecDepth 100000 in
theorem law_6 (C : Cx p s m args meth c D (tyl cy) A 4 cL_law RL (some .boolean)) (hCF : CF ad A s) (S : Scr s A b L xs) (hb : ad 1040 = b) (hi : 0 ≤ i ∧ i + 6 ≤ (L : Int)) (hcl : cells + 1 ≤ 600000) (hsl : slots + 6 ≤ 7302250) (hok : idsOK ids μ) {r : Int} {μ1 μ2 : Mem} (hf : f_X10_stone μ (xs (i + 1).toNat).toInt (xs (i + 2).toNat).toInt = some (r, μ1)) (hg : f_X11_stone μ1 (xs (i + 1).toNat).toInt (xs (i + 2).toNat).toInt = some (r, μ2)) (h2 : μ2 90 = μ1 90) (hbb : 0 ≤ μ 90 0 ∧ μ 90 0 < 100 ∧ 0 ≤ μ 90 1 ∧ μ 90 1 < 100) (hrf : ∀ a, refA a = true → ∀ j, μ a j < 0 ∨ (μ a j).toNat ≠ 100 + (μ 90 0).toNat) (kk : ∀ (ids1 : List Nat) (ad1 : Nat → Nat) (c1 s1 : Nat), idsOK ids1 μ2 → ad1 1040 = b → CF ad1 A s → c1 ≤ cells + 1 → s1 ≤ slots + 6 → V p l e room_1 s m args below meth c c1 s1 Q D A (lay cy) ids1 ad1 4 μ2 708 [some (rf 1040), some (rf 0), some (rf 300), some (nu i)] []) : V p l e room_1 s m args below meth c cells slots Q D A (lay cy) ids ad 4 μ 326 [some (rf 1040), some (rf 0), some (rf 300), some (nu i)] [] := by
  refine r_aload_n C 1 rfl rfl dL_law_326 ?_
  refine r_aload_n C 0 rfl rfl dL_law_327 ?_
  refine r_iload_n C 3 rfl rfl dL_law_328 ?_
  refine r_iconst C dL_law_329 ?_
  refine r_iadd C dL_law_330 ?_
  refine r_sld C S hb ⟨by omega, by omega⟩ dL_law_331 ?_
  refine r_aload_n C 0 rfl rfl dL_law_332 ?_
  refine r_iload_n C 3 rfl rfl dL_law_333 ?_
  refine r_iconst C dL_law_334 ?_
  refine r_iadd C dL_law_335 ?_
  refine r_sld C S hb ⟨by omega, by omega⟩ dL_law_336 ?_
  refine g_callVN C hCF (As := [nu (xs (i + 1).toNat).toInt, nu (xs (i + 2).toNat).toInt]) 0 (by decide) rfl (fx_m rfl) (ly_0 cy _ _) rfl (c_X10_stone hok hbb hrf (zI_rng _) (zI_rng _) hf) ⟨by decide, by decide⟩ ⟨by show cells + 1 ≤ 600000; omega, by show slots + 6 ≤ 7302250; omega⟩ tw_535 tw_538 tw_1 tw_536 tw_537 2 (by decide) rfl (Nat.le_of_ble_eq_true rfl) dL_law_337 (okL_mem (lv := [some (rf 1040), some (rf 0), some (rf 300), some (nu i)]) (And.intro (fun _ => Or.inr (Or.inr (by decide))) (And.intro (fun _ => Or.inr (Or.inl ((hok _).mpr (Or.inl rfl)))) (And.intro (fun _ => Or.inr (Or.inl ((hok _).mpr (Or.inl rfl)))) (And.intro nuP trivial))))) (by intro v hv; exact absurd hv List.not_mem_nil) (fun ids1 ad1 hx hr0 hCFx => ?_)
  have hb1 : ad1 1040 = b := (hx.2.2 1040 (by decide)).trans hb
  have hCF1 := hCFx hCF
  refine r_aload_n C 2 rfl rfl dL_law_340 ?_
  refine r_aload_n C 0 rfl rfl dL_law_341 ?_
  refine r_iload_n C 3 rfl rfl dL_law_342 ?_
  refine r_iconst C dL_law_343 ?_
  refine r_iadd C dL_law_344 ?_
  refine r_sld C S hb1 ⟨by omega, by omega⟩ dL_law_345 ?_
  refine r_aload_n C 0 rfl rfl dL_law_346 ?_
  refine r_iload_n C 3 rfl rfl dL_law_347 ?_
  refine r_iconst C dL_law_348 ?_
  refine r_iadd C dL_law_349 ?_
  refine r_sld C S hb1 ⟨by omega, by omega⟩ dL_law_350 ?_
  refine g_callVI C hCF1 (As := [nu (xs (i + 1).toNat).toInt, nu (xs (i + 2).toNat).toInt]) 300 (by decide) rfl (fx_m rfl) (ly_300 cy _ _) rfl (c_X11_stone (zI_rng _) (zI_rng _) hg) ⟨by decide, by decide⟩ ⟨by show (cells + 1) + 0 ≤ 600000; omega, by show (slots + 6) + 0 ≤ 7302250; omega⟩ tw_1127 tw_1130 tw_10 tw_1128 tw_1129 2 (by decide) rfl (Nat.le_of_ble_eq_true rfl) dL_law_351 (fun hr1 => ?_)
  exact r_icmp_eq C 708 hr0 hr1 rfl dL_law_354 (fun _ => kk ids1 ad1 _ _ (idsOK_90 h2 hx.1) hb1 hCF1 (by omega) (by omega)) (fun hne => absurd rfl hne)
set_option maxHeartbeats 4000000 in
set_option maxRecDepth 100000 in
theorem law_7 (C : Cx p s m args meth c D (tyl cy) A 4 cL_law RL (some .boolean)) (hCF : CF ad A s) (S : Scr s A b L xs) (hb : ad 1040 = b) (hi : 0 ≤ i ∧ i + 6 ≤ (L : Int)) (hcl : cells + 1 ≤ 600000) (hsl : slots + 6 ≤ 7302250) (hok : idsOK ids μ) {r : Int} {μ1 μ2 : Mem} (hf : f_X10_send μ (xs (i + 1).toNat).toInt (xs (i + 2).toNat).toInt = some (r, μ1)) (hg : f_X11_send μ1 (xs (i + 1).toNat).toInt (xs (i + 2).toNat).toInt = some (r, μ2)) (h2 : μ2 90 = μ1 90) (h1 : μ1 90 = μ 90) (kk : ∀ (ids1 : List Nat) (ad1 : Nat → Nat) (c1 s1 : Nat), idsOK ids1 μ2 → ad1 1040 = b → CF ad1 A s → c1 ≤ cells + 1 → s1 ≤ slots + 6 → V p l e room_1 s m args below meth c c1 s1 Q D A (lay cy) ids1 ad1 4 μ2 708 [some (rf 1040), some (rf 0), some (rf 300), some (nu i)] []) : V p l e room_1 s m args below meth c cells slots Q D A (lay cy) ids ad 4 μ 359 [some (rf 1040), some (rf 0), some (rf 300), some (nu i)] [] := by
  refine r_aload_n C 1 rfl rfl dL_law_359 ?_
  refine r_aload_n C 0 rfl rfl dL_law_360 ?_
  refine r_iload_n C 3 rfl rfl dL_law_361 ?_
  refine r_iconst C dL_law_362 ?_
  refine r_iadd C dL_law_363 ?_
  refine r_sld C S hb ⟨by omega, by omega⟩ dL_law_364 ?_
  refine r_aload_n C 0 rfl rfl dL_law_365 ?_
  refine r_iload_n C 3 rfl rfl dL_law_366 ?_
  refine r_iconst C dL_law_367 ?_
  refine r_iadd C dL_law_368 ?_
  refine r_sld C S hb ⟨by omega, by omega⟩ dL_law_369 ?_
  refine g_callVI C hCF (As := [nu (xs (i + 1).toNat).toInt, nu (xs (i + 2).toNat).toInt]) 0 (by decide) rfl (fx_m rfl) (ly_0 cy _ _) rfl (c_X10_send (zI_rng _) (zI_rng _) hf) ⟨by decide, by decide⟩ ⟨by show cells + 0 ≤ 600000; omega, by show slots + 0 ≤ 7302250; omega⟩ tw_583 tw_586 tw_1 tw_584 tw_585 2 (by decide) rfl (Nat.le_of_ble_eq_true rfl) dL_law_370 (fun hr0 => ?_)
  refine r_aload_n C 2 rfl rfl dL_law_373 ?_
  refine r_aload_n C 0 rfl rfl dL_law_374 ?_
  refine r_iload_n C 3 rfl rfl dL_law_375 ?_
  refine r_iconst C dL_law_376 ?_
  refine r_iadd C dL_law_377 ?_
  refine r_sld C S hb ⟨by omega, by omega⟩ dL_law_378 ?_
  refine r_aload_n C 0 rfl rfl dL_law_379 ?_
  refine r_iload_n C 3 rfl rfl dL_law_380 ?_
  refine r_iconst C dL_law_381 ?_
  refine r_iadd C dL_law_382 ?_
  refine r_sld C S hb ⟨by omega, by omega⟩ dL_law_383 ?_
  refine g_callVI C hCF (As := [nu (xs (i + 1).toNat).toInt, nu (xs (i + 2).toNat).toInt]) 300 (by decide) rfl (fx_m rfl) (ly_300 cy _ _) rfl (c_X11_send (zI_rng _) (zI_rng _) hg) ⟨by decide, by decide⟩ ⟨by show cells + 0 ≤ 600000; omega, by show slots + 0 ≤ 7302250; omega⟩ tw_1131 tw_1134 tw_10 tw_1132 tw_1133 2 (by decide) rfl (Nat.le_of_ble_eq_true rfl) dL_law_384 (fun hr1 => ?_)
  exact r_icmp_eq C 708 hr0 hr1 rfl dL_law_387 (fun _ => kk ids ad _ _ (idsOK_90 (h2.trans h1) hok) hb hCF (by omega) (by omega)) (fun hne => absurd rfl hne)
set_option maxHeartbeats 4000000 in
set_option maxRecDepth 100000 in
theorem law_8 (C : Cx p s m args meth c D (tyl cy) A 4 cL_law RL (some .boolean)) (hCF : CF ad A s) (S : Scr s A b L xs) (hb : ad 1040 = b) (hi : 0 ≤ i ∧ i + 6 ≤ (L : Int)) (hcl : cells + 1 ≤ 600000) (hsl : slots + 6 ≤ 7302250) (hok : idsOK ids μ) {r : Int} {μ1 μ2 : Mem} (hf : f_X10_raise μ (xs (i + 1).toNat).toInt = some (r, μ1)) (hg : f_X11_raise μ1 (xs (i + 1).toNat).toInt = some (r, μ2)) (h2 : μ2 90 = μ1 90) (h1 : μ1 90 = μ 90) (kk : ∀ (ids1 : List Nat) (ad1 : Nat → Nat) (c1 s1 : Nat), idsOK ids1 μ2 → ad1 1040 = b → CF ad1 A s → c1 ≤ cells + 1 → s1 ≤ slots + 6 → V p l e room_1 s m args below meth c c1 s1 Q D A (lay cy) ids1 ad1 4 μ2 708 [some (rf 1040), some (rf 0), some (rf 300), some (nu i)] []) : V p l e room_1 s m args below meth c cells slots Q D A (lay cy) ids ad 4 μ 392 [some (rf 1040), some (rf 0), some (rf 300), some (nu i)] [] := by
  refine r_aload_n C 1 rfl rfl dL_law_392 ?_
  refine r_aload_n C 0 rfl rfl dL_law_393 ?_
  refine r_iload_n C 3 rfl rfl dL_law_394 ?_
  refine r_iconst C dL_law_395 ?_
  refine r_iadd C dL_law_396 ?_
  refine r_sld C S hb ⟨by omega, by omega⟩ dL_law_397 ?_
  refine g_callVI C hCF (As := [nu (xs (i + 1).toNat).toInt]) 0 (by decide) rfl (fx_m rfl) (ly_0 cy _ _) rfl (c_X10_raise (zI_rng _) hf) ⟨by decide, by decide⟩ ⟨by show cells + 0 ≤ 600000; omega, by show slots + 0 ≤ 7302250; omega⟩ tw_643 tw_646 tw_1 tw_644 tw_645 1 (by decide) rfl (Nat.le_of_ble_eq_true rfl) dL_law_398 (fun hr0 => ?_)
  refine r_aload_n C 2 rfl rfl dL_law_401 ?_
  refine r_aload_n C 0 rfl rfl dL_law_402 ?_
  refine r_iload_n C 3 rfl rfl dL_law_403 ?_
  refine r_iconst C dL_law_404 ?_
  refine r_iadd C dL_law_405 ?_
  refine r_sld C S hb ⟨by omega, by omega⟩ dL_law_406 ?_
  refine g_callVI C hCF (As := [nu (xs (i + 1).toNat).toInt]) 300 (by decide) rfl (fx_m rfl) (ly_300 cy _ _) rfl (c_X11_raise (zI_rng _) hg) ⟨by decide, by decide⟩ ⟨by show cells + 0 ≤ 600000; omega, by show slots + 0 ≤ 7302250; omega⟩ tw_1155 tw_1158 tw_10 tw_1156 tw_1157 1 (by decide) rfl (Nat.le_of_ble_eq_true rfl) dL_law_407 (fun hr1 => ?_)
  exact r_icmp_eq C 708 hr0 hr1 rfl dL_law_410 (fun _ => kk ids ad _ _ (idsOK_90 (h2.trans h1) hok) hb hCF (by omega) (by omega)) (fun hne => absurd rfl hne)
set_option maxHeartbeats 4000000 in
set_option maxRecDepth 100000 in
theorem law_9 (C : Cx p s m args meth c D (tyl cy) A 4 cL_law RL (some .boolean)) (hCF : CF ad A s) (S : Scr s A b L xs) (hb : ad 1040 = b) (hi : 0 ≤ i ∧ i + 6 ≤ (L : Int)) (hcl : cells + 1 ≤ 600000) (hsl : slots + 6 ≤ 7302250) (hok : idsOK ids μ) {r : Int} {μ1 μ2 : Mem} (hf : f_X10_callOff μ (xs (i + 1).toNat).toInt = some (r, μ1)) (hg : f_X11_callOff μ1 (xs (i + 1).toNat).toInt = some (r, μ2)) (h2 : μ2 90 = μ1 90) (h1 : μ1 90 = μ 90) (kk : ∀ (ids1 : List Nat) (ad1 : Nat → Nat) (c1 s1 : Nat), idsOK ids1 μ2 → ad1 1040 = b → CF ad1 A s → c1 ≤ cells + 1 → s1 ≤ slots + 6 → V p l e room_1 s m args below meth c c1 s1 Q D A (lay cy) ids1 ad1 4 μ2 708 [some (rf 1040), some (rf 0), some (rf 300), some (nu i)] []) : V p l e room_1 s m args below meth c cells slots Q D A (lay cy) ids ad 4 μ 415 [some (rf 1040), some (rf 0), some (rf 300), some (nu i)] [] := by
  refine r_aload_n C 1 rfl rfl dL_law_415 ?_
  refine r_aload_n C 0 rfl rfl dL_law_416 ?_
  refine r_iload_n C 3 rfl rfl dL_law_417 ?_
  refine r_iconst C dL_law_418 ?_
  refine r_iadd C dL_law_419 ?_
  refine r_sld C S hb ⟨by omega, by omega⟩ dL_law_420 ?_
  refine g_callVI C hCF (As := [nu (xs (i + 1).toNat).toInt]) 0 (by decide) rfl (fx_m rfl) (ly_0 cy _ _) rfl (c_X10_callOff (zI_rng _) hf) ⟨by decide, by decide⟩ ⟨by show cells + 0 ≤ 600000; omega, by show slots + 0 ≤ 7302250; omega⟩ tw_655 tw_658 tw_1 tw_656 tw_657 1 (by decide) rfl (Nat.le_of_ble_eq_true rfl) dL_law_421 (fun hr0 => ?_)
  refine r_aload_n C 2 rfl rfl dL_law_424 ?_
  refine r_aload_n C 0 rfl rfl dL_law_425 ?_
  refine r_iload_n C 3 rfl rfl dL_law_426 ?_
  refine r_iconst C dL_law_427 ?_
  refine r_iadd C dL_law_428 ?_
  refine r_sld C S hb ⟨by omega, by omega⟩ dL_law_429 ?_
  refine g_callVI C hCF (As := [nu (xs (i + 1).toNat).toInt]) 300 (by decide) rfl (fx_m rfl) (ly_300 cy _ _) rfl (c_X11_callOff (zI_rng _) hg) ⟨by decide, by decide⟩ ⟨by show cells + 0 ≤ 600000; omega, by show slots + 0 ≤ 7302250; omega⟩ tw_1159 tw_1162 tw_10 tw_1160 tw_1161 1 (by decide) rfl (Nat.le_of_ble_eq_true rfl) dL_law_430 (fun hr1 => ?_)
  exact r_icmp_eq C 708 hr0 hr1 rfl dL_law_433 (fun _ => kk ids ad _ _ (idsOK_90 (h2.trans h1) hok) hb hCF (by omega) (by omega)) (fun hne => absurd rfl hne)
set_option maxHeartbeats 4000000 in
set_option maxRecDepth 100000 in
theorem law_10 (C : Cx p s m args meth c D (tyl cy) A 4 cL_law RL (some .boolean)) (hCF : CF ad A s) (S : Scr s A b L xs) (hb : ad 1040 = b) (hi : 0 ≤ i ∧ i + 6 ≤ (L : Int)) (hcl : cells + 1 ≤ 600000) (hsl : slots + 6 ≤ 7302250) (hok : idsOK ids μ) {r : Int} {μ1 μ2 : Mem} (hf : f_X10_pass μ (xs (i + 1).toNat).toInt = some (r, μ1)) (hg : f_X11_pass μ1 (xs (i + 1).toNat).toInt = some (r, μ2)) (h2 : μ2 90 = μ1 90) (h1 : μ1 90 = μ 90) (kk : ∀ (ids1 : List Nat) (ad1 : Nat → Nat) (c1 s1 : Nat), idsOK ids1 μ2 → ad1 1040 = b → CF ad1 A s → c1 ≤ cells + 1 → s1 ≤ slots + 6 → V p l e room_1 s m args below meth c c1 s1 Q D A (lay cy) ids1 ad1 4 μ2 708 [some (rf 1040), some (rf 0), some (rf 300), some (nu i)] []) : V p l e room_1 s m args below meth c cells slots Q D A (lay cy) ids ad 4 μ 438 [some (rf 1040), some (rf 0), some (rf 300), some (nu i)] [] := by
  refine r_aload_n C 1 rfl rfl dL_law_438 ?_
  refine r_aload_n C 0 rfl rfl dL_law_439 ?_
  refine r_iload_n C 3 rfl rfl dL_law_440 ?_
  refine r_iconst C dL_law_441 ?_
  refine r_iadd C dL_law_442 ?_
  refine r_sld C S hb ⟨by omega, by omega⟩ dL_law_443 ?_
  refine g_callVI C hCF (As := [nu (xs (i + 1).toNat).toInt]) 0 (by decide) rfl (fx_m rfl) (ly_0 cy _ _) rfl (c_X10_pass (zI_rng _) hf) ⟨by decide, by decide⟩ ⟨by show cells + 0 ≤ 600000; omega, by show slots + 0 ≤ 7302250; omega⟩ tw_671 tw_674 tw_1 tw_672 tw_673 1 (by decide) rfl (Nat.le_of_ble_eq_true rfl) dL_law_444 (fun hr0 => ?_)
  refine r_aload_n C 2 rfl rfl dL_law_447 ?_
  refine r_aload_n C 0 rfl rfl dL_law_448 ?_
  refine r_iload_n C 3 rfl rfl dL_law_449 ?_
  refine r_iconst C dL_law_450 ?_
  refine r_iadd C dL_law_451 ?_
  refine r_sld C S hb ⟨by omega, by omega⟩ dL_law_452 ?_
  refine g_callVI C hCF (As := [nu (xs (i + 1).toNat).toInt]) 300 (by decide) rfl (fx_m rfl) (ly_300 cy _ _) rfl (c_X11_pass (zI_rng _) hg) ⟨by decide, by decide⟩ ⟨by show cells + 0 ≤ 600000; omega, by show slots + 0 ≤ 7302250; omega⟩ tw_1167 tw_1170 tw_10 tw_1168 tw_1169 1 (by decide) rfl (Nat.le_of_ble_eq_true rfl) dL_law_453 (fun hr1 => ?_)
  exact r_icmp_eq C 708 hr0 hr1 rfl dL_law_456 (fun _ => kk ids ad _ _ (idsOK_90 (h2.trans h1) hok) hb hCF (by omega) (by omega)) (fun hne => absurd rfl hne)
set_option maxHeartbeats 4000000 in
set_option maxRecDepth 100000 in
theorem law_11 (C : Cx p s m args meth c D (tyl cy) A 4 cL_law RL (some .boolean)) (hCF : CF ad A s) (S : Scr s A b L xs) (hb : ad 1040 = b) (hi : 0 ≤ i ∧ i + 6 ≤ (L : Int)) (hcl : cells + 1 ≤ 600000) (hsl : slots + 6 ≤ 7302250) (hok : idsOK ids μ) {r : Int} {μ1 μ2 : Mem} (hf : f_X10_about μ (xs (i + 1).toNat).toInt (xs (i + 2).toNat).toInt = some (r, μ1)) (hg : f_X11_about μ1 (xs (i + 1).toNat).toInt (xs (i + 2).toNat).toInt = some (r, μ2)) (h2 : μ2 90 = μ1 90) (h1 : μ1 90 = μ 90) (kk : ∀ (ids1 : List Nat) (ad1 : Nat → Nat) (c1 s1 : Nat), idsOK ids1 μ2 → ad1 1040 = b → CF ad1 A s → c1 ≤ cells + 1 → s1 ≤ slots + 6 → V p l e room_1 s m args below meth c c1 s1 Q D A (lay cy) ids1 ad1 4 μ2 708 [some (rf 1040), some (rf 0), some (rf 300), some (nu i)] []) : V p l e room_1 s m args below meth c cells slots Q D A (lay cy) ids ad 4 μ 461 [some (rf 1040), some (rf 0), some (rf 300), some (nu i)] [] := by
  refine r_aload_n C 1 rfl rfl dL_law_461 ?_
  refine r_aload_n C 0 rfl rfl dL_law_462 ?_
  refine r_iload_n C 3 rfl rfl dL_law_463 ?_
  refine r_iconst C dL_law_464 ?_
  refine r_iadd C dL_law_465 ?_
  refine r_sld C S hb ⟨by omega, by omega⟩ dL_law_466 ?_
  refine r_aload_n C 0 rfl rfl dL_law_467 ?_
  refine r_iload_n C 3 rfl rfl dL_law_468 ?_
  refine r_iconst C dL_law_469 ?_
  refine r_iadd C dL_law_470 ?_
  refine r_sld C S hb ⟨by omega, by omega⟩ dL_law_471 ?_
  refine g_callVI C hCF (As := [nu (xs (i + 1).toNat).toInt, nu (xs (i + 2).toNat).toInt]) 0 (by decide) rfl (fx_m rfl) (ly_0 cy _ _) rfl (c_X10_about (zI_rng _) (zI_rng _) hf) ⟨by decide, by decide⟩ ⟨by show cells + 0 ≤ 600000; omega, by show slots + 0 ≤ 7302250; omega⟩ tw_702 tw_705 tw_1 tw_703 tw_704 2 (by decide) rfl (Nat.le_of_ble_eq_true rfl) dL_law_472 (fun hr0 => ?_)
  refine r_aload_n C 2 rfl rfl dL_law_475 ?_
  refine r_aload_n C 0 rfl rfl dL_law_476 ?_
  refine r_iload_n C 3 rfl rfl dL_law_477 ?_
  refine r_iconst C dL_law_478 ?_
  refine r_iadd C dL_law_479 ?_
  refine r_sld C S hb ⟨by omega, by omega⟩ dL_law_480 ?_
  refine r_aload_n C 0 rfl rfl dL_law_481 ?_
  refine r_iload_n C 3 rfl rfl dL_law_482 ?_
  refine r_iconst C dL_law_483 ?_
  refine r_iadd C dL_law_484 ?_
  refine r_sld C S hb ⟨by omega, by omega⟩ dL_law_485 ?_
  refine g_callVI C hCF (As := [nu (xs (i + 1).toNat).toInt, nu (xs (i + 2).toNat).toInt]) 300 (by decide) rfl (fx_m rfl) (ly_300 cy _ _) rfl (c_X11_about (zI_rng _) (zI_rng _) hg) ⟨by decide, by decide⟩ ⟨by show cells + 0 ≤ 600000; omega, by show slots + 0 ≤ 7302250; omega⟩ tw_1184 tw_1187 tw_10 tw_1185 tw_1186 2 (by decide) rfl (Nat.le_of_ble_eq_true rfl) dL_law_486 (fun hr1 => ?_)
  exact r_icmp_eq C 708 hr0 hr1 rfl dL_law_489 (fun _ => kk ids ad _ _ (idsOK_90 (h2.trans h1) hok) hb hCF (by omega) (by omega)) (fun hne => absurd rfl hne)
set_option maxHeartbeats 4000000 in
set_option maxRecDepth 100000 in
theorem law_12 (C : Cx p s m args meth c D (tyl cy) A 4 cL_law RL (some .boolean)) (hCF : CF ad A s) (S : Scr s A b L xs) (hb : ad 1040 = b) (hi : 0 ≤ i ∧ i + 6 ≤ (L : Int)) (hcl : cells + 1 ≤ 600000) (hsl : slots + 6 ≤ 7302250) (hok : idsOK ids μ) {r : Int} {μ1 μ2 : Mem} (hf : f_X10_gangs μ (xs (i + 1).toNat).toInt (xs (i + 2).toNat).toInt = some (r, μ1)) (hg : f_X11_gangs μ1 (xs (i + 1).toNat).toInt (xs (i + 2).toNat).toInt = some (r, μ2)) (h2 : μ2 90 = μ1 90) (h1 : μ1 90 = μ 90) (kk : ∀ (ids1 : List Nat) (ad1 : Nat → Nat) (c1 s1 : Nat), idsOK ids1 μ2 → ad1 1040 = b → CF ad1 A s → c1 ≤ cells + 1 → s1 ≤ slots + 6 → V p l e room_1 s m args below meth c c1 s1 Q D A (lay cy) ids1 ad1 4 μ2 708 [some (rf 1040), some (rf 0), some (rf 300), some (nu i)] []) : V p l e room_1 s m args below meth c cells slots Q D A (lay cy) ids ad 4 μ 494 [some (rf 1040), some (rf 0), some (rf 300), some (nu i)] [] := by
  refine r_aload_n C 1 rfl rfl dL_law_494 ?_
  refine r_aload_n C 0 rfl rfl dL_law_495 ?_
  refine r_iload_n C 3 rfl rfl dL_law_496 ?_
  refine r_iconst C dL_law_497 ?_
  refine r_iadd C dL_law_498 ?_
  refine r_sld C S hb ⟨by omega, by omega⟩ dL_law_499 ?_
  refine r_aload_n C 0 rfl rfl dL_law_500 ?_
  refine r_iload_n C 3 rfl rfl dL_law_501 ?_
  refine r_iconst C dL_law_502 ?_
  refine r_iadd C dL_law_503 ?_
  refine r_sld C S hb ⟨by omega, by omega⟩ dL_law_504 ?_
  refine g_callVI C hCF (As := [nu (xs (i + 1).toNat).toInt, nu (xs (i + 2).toNat).toInt]) 0 (by decide) rfl (fx_m rfl) (ly_0 cy _ _) rfl (c_X10_gangs (zI_rng _) (zI_rng _) hf) ⟨by decide, by decide⟩ ⟨by show cells + 0 ≤ 600000; omega, by show slots + 0 ≤ 7302250; omega⟩ tw_708 tw_711 tw_1 tw_709 tw_710 2 (by decide) rfl (Nat.le_of_ble_eq_true rfl) dL_law_505 (fun hr0 => ?_)
  refine r_aload_n C 2 rfl rfl dL_law_508 ?_
  refine r_aload_n C 0 rfl rfl dL_law_509 ?_
  refine r_iload_n C 3 rfl rfl dL_law_510 ?_
  refine r_iconst C dL_law_511 ?_
  refine r_iadd C dL_law_512 ?_
  refine r_sld C S hb ⟨by omega, by omega⟩ dL_law_513 ?_
  refine r_aload_n C 0 rfl rfl dL_law_514 ?_
  refine r_iload_n C 3 rfl rfl dL_law_515 ?_
  refine r_iconst C dL_law_516 ?_
  refine r_iadd C dL_law_517 ?_
  refine r_sld C S hb ⟨by omega, by omega⟩ dL_law_518 ?_
  refine g_callVI C hCF (As := [nu (xs (i + 1).toNat).toInt, nu (xs (i + 2).toNat).toInt]) 300 (by decide) rfl (fx_m rfl) (ly_300 cy _ _) rfl (c_X11_gangs (zI_rng _) (zI_rng _) hg) ⟨by decide, by decide⟩ ⟨by show cells + 0 ≤ 600000; omega, by show slots + 0 ≤ 7302250; omega⟩ tw_1188 tw_1191 tw_10 tw_1189 tw_1190 2 (by decide) rfl (Nat.le_of_ble_eq_true rfl) dL_law_519 (fun hr1 => ?_)
  exact r_icmp_eq C 708 hr0 hr1 rfl dL_law_522 (fun _ => kk ids ad _ _ (idsOK_90 (h2.trans h1) hok) hb hCF (by omega) (by omega)) (fun hne => absurd rfl hne)
set_option maxHeartbeats 4000000 in
set_option maxRecDepth 100000 in
theorem law_13 (C : Cx p s m args meth c D (tyl cy) A 4 cL_law RL (some .boolean)) (hCF : CF ad A s) (S : Scr s A b L xs) (hb : ad 1040 = b) (hi : 0 ≤ i ∧ i + 6 ≤ (L : Int)) (hcl : cells + 1 ≤ 600000) (hsl : slots + 6 ≤ 7302250) (hok : idsOK ids μ) {r : Int} {μ1 μ2 : Mem} (hf : f_X10_plan μ  = some (r, μ1)) (hg : f_X11_plan μ1  = some (r, μ2)) (h2 : μ2 90 = μ1 90) (h1 : μ1 90 = μ 90) (hbb : 0 ≤ μ 90 0 ∧ μ 90 0 < 100 ∧ 0 ≤ μ 90 1 ∧ μ 90 1 < 100) (kk : ∀ (ids1 : List Nat) (ad1 : Nat → Nat) (c1 s1 : Nat), idsOK ids1 μ2 → ad1 1040 = b → CF ad1 A s → c1 ≤ cells + 1 → s1 ≤ slots + 6 → V p l e room_1 s m args below meth c c1 s1 Q D A (lay cy) ids1 ad1 4 μ2 708 [some (rf 1040), some (rf 0), some (rf 300), some (nu i)] []) : V p l e room_1 s m args below meth c cells slots Q D A (lay cy) ids ad 4 μ 527 [some (rf 1040), some (rf 0), some (rf 300), some (nu i)] [] := by
  refine r_aload_n C 1 rfl rfl dL_law_527 ?_
  refine g_callVI C hCF (As := []) 0 (by decide) rfl (fx_m rfl) (ly_0 cy _ _) rfl (c_X10_plan  hf) ⟨by decide, by decide⟩ ⟨by show cells + 0 ≤ 600000; omega, by show slots + 0 ≤ 7302250; omega⟩ tw_713 tw_716 tw_1 tw_714 tw_715 0 (by decide) rfl (Nat.le_of_ble_eq_true rfl) dL_law_528 (fun hr0 => ?_)
  refine r_aload_n C 2 rfl rfl dL_law_531 ?_
  refine g_callVN C hCF (As := []) 300 (by decide) rfl (fx_m rfl) (ly_300 cy _ _) rfl (c_X11_plan (hid_of hok hbb) (idsOK_90 (h2.trans h1) hok) hg) ⟨by decide, by decide⟩ ⟨by show cells + 1 ≤ 600000; omega, by show slots + 5 ≤ 7302250; omega⟩ tw_1192 tw_1195 tw_10 tw_1193 tw_1194 0 (by decide) rfl (Nat.le_of_ble_eq_true rfl) dL_law_532 (okL_mem (lv := [some (rf 1040), some (rf 0), some (rf 300), some (nu i)]) (And.intro (fun _ => Or.inr (Or.inr (by decide))) (And.intro (fun _ => Or.inr (Or.inl ((hok _).mpr (Or.inl rfl)))) (And.intro (fun _ => Or.inr (Or.inl ((hok _).mpr (Or.inl rfl)))) (And.intro nuP trivial))))) (by intro v hv; rw [List.mem_singleton.mp hv]; exact nuP) (fun ids1 ad1 hx hr1 hCFx => ?_)
  have hb1 : ad1 1040 = b := (hx.2.2 1040 (by decide)).trans hb
  have hCF1 := hCFx hCF
  exact r_icmp_eq C 708 hr0 hr1 rfl dL_law_535 (fun _ => kk ids1 ad1 _ _ hx.1 hb1 hCF1 (by omega) (by omega)) (fun hne => absurd rfl hne)
set_option maxHeartbeats 4000000 in
set_option maxRecDepth 100000 in
theorem law_14 (C : Cx p s m args meth c D (tyl cy) A 4 cL_law RL (some .boolean)) (hCF : CF ad A s) (S : Scr s A b L xs) (hb : ad 1040 = b) (hi : 0 ≤ i ∧ i + 6 ≤ (L : Int)) (hcl : cells + 1 ≤ 600000) (hsl : slots + 6 ≤ 7302250) (hok : idsOK ids μ) {r : Int} {μ1 μ2 : Mem} (hf : f_X10_planned μ (xs (i + 1).toNat).toInt (xs (i + 2).toNat).toInt = some (r, μ1)) (hg : f_X11_planned μ1 (xs (i + 1).toNat).toInt (xs (i + 2).toNat).toInt = some (r, μ2)) (h2 : μ2 90 = μ1 90) (h1 : μ1 90 = μ 90) (kk : ∀ (ids1 : List Nat) (ad1 : Nat → Nat) (c1 s1 : Nat), idsOK ids1 μ2 → ad1 1040 = b → CF ad1 A s → c1 ≤ cells + 1 → s1 ≤ slots + 6 → V p l e room_1 s m args below meth c c1 s1 Q D A (lay cy) ids1 ad1 4 μ2 708 [some (rf 1040), some (rf 0), some (rf 300), some (nu i)] []) : V p l e room_1 s m args below meth c cells slots Q D A (lay cy) ids ad 4 μ 540 [some (rf 1040), some (rf 0), some (rf 300), some (nu i)] [] := by
  refine r_aload_n C 1 rfl rfl dL_law_540 ?_
  refine r_aload_n C 0 rfl rfl dL_law_541 ?_
  refine r_iload_n C 3 rfl rfl dL_law_542 ?_
  refine r_iconst C dL_law_543 ?_
  refine r_iadd C dL_law_544 ?_
  refine r_sld C S hb ⟨by omega, by omega⟩ dL_law_545 ?_
  refine r_aload_n C 0 rfl rfl dL_law_546 ?_
  refine r_iload_n C 3 rfl rfl dL_law_547 ?_
  refine r_iconst C dL_law_548 ?_
  refine r_iadd C dL_law_549 ?_
  refine r_sld C S hb ⟨by omega, by omega⟩ dL_law_550 ?_
  refine g_callVI C hCF (As := [nu (xs (i + 1).toNat).toInt, nu (xs (i + 2).toNat).toInt]) 0 (by decide) rfl (fx_m rfl) (ly_0 cy _ _) rfl (c_X10_planned (zI_rng _) (zI_rng _) hf) ⟨by decide, by decide⟩ ⟨by show cells + 0 ≤ 600000; omega, by show slots + 0 ≤ 7302250; omega⟩ tw_793 tw_796 tw_1 tw_794 tw_795 2 (by decide) rfl (Nat.le_of_ble_eq_true rfl) dL_law_551 (fun hr0 => ?_)
  refine r_aload_n C 2 rfl rfl dL_law_554 ?_
  refine r_aload_n C 0 rfl rfl dL_law_555 ?_
  refine r_iload_n C 3 rfl rfl dL_law_556 ?_
  refine r_iconst C dL_law_557 ?_
  refine r_iadd C dL_law_558 ?_
  refine r_sld C S hb ⟨by omega, by omega⟩ dL_law_559 ?_
  refine r_aload_n C 0 rfl rfl dL_law_560 ?_
  refine r_iload_n C 3 rfl rfl dL_law_561 ?_
  refine r_iconst C dL_law_562 ?_
  refine r_iadd C dL_law_563 ?_
  refine r_sld C S hb ⟨by omega, by omega⟩ dL_law_564 ?_
  refine g_callVI C hCF (As := [nu (xs (i + 1).toNat).toInt, nu (xs (i + 2).toNat).toInt]) 300 (by decide) rfl (fx_m rfl) (ly_300 cy _ _) rfl (c_X11_planned (zI_rng _) (zI_rng _) hg) ⟨by decide, by decide⟩ ⟨by show cells + 0 ≤ 600000; omega, by show slots + 0 ≤ 7302250; omega⟩ tw_1220 tw_1223 tw_10 tw_1221 tw_1222 2 (by decide) rfl (Nat.le_of_ble_eq_true rfl) dL_law_565 (fun hr1 => ?_)
  exact r_icmp_eq C 708 hr0 hr1 rfl dL_law_568 (fun _ => kk ids ad _ _ (idsOK_90 (h2.trans h1) hok) hb hCF (by omega) (by omega)) (fun hne => absurd rfl hne)
set_option maxHeartbeats 4000000 in
set_option maxRecDepth 100000 in
theorem law_15 (C : Cx p s m args meth c D (tyl cy) A 4 cL_law RL (some .boolean)) (hCF : CF ad A s) (S : Scr s A b L xs) (hb : ad 1040 = b) (hi : 0 ≤ i ∧ i + 6 ≤ (L : Int)) (hcl : cells + 1 ≤ 600000) (hsl : slots + 6 ≤ 7302250) (hok : idsOK ids μ) {r : Int} {μ1 μ2 : Mem} (hf : f_X10_tally μ (xs (i + 1).toNat).toInt (xs (i + 2).toNat).toInt (xs (i + 3).toNat).toInt (xs (i + 4).toNat).toInt = some (r, μ1)) (hg : f_X11_tally μ1 (xs (i + 1).toNat).toInt (xs (i + 2).toNat).toInt (xs (i + 3).toNat).toInt (xs (i + 4).toNat).toInt = some (r, μ2)) (h2 : μ2 90 = μ1 90) (h1 : μ1 90 = μ 90) (kk : ∀ (ids1 : List Nat) (ad1 : Nat → Nat) (c1 s1 : Nat), idsOK ids1 μ2 → ad1 1040 = b → CF ad1 A s → c1 ≤ cells + 1 → s1 ≤ slots + 6 → V p l e room_1 s m args below meth c c1 s1 Q D A (lay cy) ids1 ad1 4 μ2 708 [some (rf 1040), some (rf 0), some (rf 300), some (nu i)] []) : V p l e room_1 s m args below meth c cells slots Q D A (lay cy) ids ad 4 μ 573 [some (rf 1040), some (rf 0), some (rf 300), some (nu i)] [] := by
  refine r_aload_n C 1 rfl rfl dL_law_573 ?_
  refine r_aload_n C 0 rfl rfl dL_law_574 ?_
  refine r_iload_n C 3 rfl rfl dL_law_575 ?_
  refine r_iconst C dL_law_576 ?_
  refine r_iadd C dL_law_577 ?_
  refine r_sld C S hb ⟨by omega, by omega⟩ dL_law_578 ?_
  refine r_aload_n C 0 rfl rfl dL_law_579 ?_
  refine r_iload_n C 3 rfl rfl dL_law_580 ?_
  refine r_iconst C dL_law_581 ?_
  refine r_iadd C dL_law_582 ?_
  refine r_sld C S hb ⟨by omega, by omega⟩ dL_law_583 ?_
  refine r_aload_n C 0 rfl rfl dL_law_584 ?_
  refine r_iload_n C 3 rfl rfl dL_law_585 ?_
  refine r_iconst C dL_law_586 ?_
  refine r_iadd C dL_law_587 ?_
  refine r_sld C S hb ⟨by omega, by omega⟩ dL_law_588 ?_
  refine r_aload_n C 0 rfl rfl dL_law_589 ?_
  refine r_iload_n C 3 rfl rfl dL_law_590 ?_
  refine r_iconst C dL_law_591 ?_
  refine r_iadd C dL_law_592 ?_
  refine r_sld C S hb ⟨by omega, by omega⟩ dL_law_593 ?_
  refine g_callVI C hCF (As := [nu (xs (i + 1).toNat).toInt, nu (xs (i + 2).toNat).toInt, nu (xs (i + 3).toNat).toInt, nu (xs (i + 4).toNat).toInt]) 0 (by decide) rfl (fx_m rfl) (ly_0 cy _ _) rfl (c_X10_tally (zI_rng _) (zI_rng _) (zI_rng _) (zI_rng _) hf) ⟨by decide, by decide⟩ ⟨by show cells + 0 ≤ 600000; omega, by show slots + 0 ≤ 7302250; omega⟩ tw_801 tw_804 tw_1 tw_802 tw_803 4 (by decide) rfl (Nat.le_of_ble_eq_true rfl) dL_law_594 (fun hr0 => ?_)
  refine r_aload_n C 2 rfl rfl dL_law_597 ?_
  refine r_aload_n C 0 rfl rfl dL_law_598 ?_
  refine r_iload_n C 3 rfl rfl dL_law_599 ?_
  refine r_iconst C dL_law_600 ?_
  refine r_iadd C dL_law_601 ?_
  refine r_sld C S hb ⟨by omega, by omega⟩ dL_law_602 ?_
  refine r_aload_n C 0 rfl rfl dL_law_603 ?_
  refine r_iload_n C 3 rfl rfl dL_law_604 ?_
  refine r_iconst C dL_law_605 ?_
  refine r_iadd C dL_law_606 ?_
  refine r_sld C S hb ⟨by omega, by omega⟩ dL_law_607 ?_
  refine r_aload_n C 0 rfl rfl dL_law_608 ?_
  refine r_iload_n C 3 rfl rfl dL_law_609 ?_
  refine r_iconst C dL_law_610 ?_
  refine r_iadd C dL_law_611 ?_
  refine r_sld C S hb ⟨by omega, by omega⟩ dL_law_612 ?_
  refine r_aload_n C 0 rfl rfl dL_law_613 ?_
  refine r_iload_n C 3 rfl rfl dL_law_614 ?_
  refine r_iconst C dL_law_615 ?_
  refine r_iadd C dL_law_616 ?_
  refine r_sld C S hb ⟨by omega, by omega⟩ dL_law_617 ?_
  refine g_callVI C hCF (As := [nu (xs (i + 1).toNat).toInt, nu (xs (i + 2).toNat).toInt, nu (xs (i + 3).toNat).toInt, nu (xs (i + 4).toNat).toInt]) 300 (by decide) rfl (fx_m rfl) (ly_300 cy _ _) rfl (c_X11_tally (zI_rng _) (zI_rng _) (zI_rng _) (zI_rng _) hg) ⟨by decide, by decide⟩ ⟨by show cells + 0 ≤ 600000; omega, by show slots + 0 ≤ 7302250; omega⟩ tw_1224 tw_1227 tw_10 tw_1225 tw_1226 4 (by decide) rfl (Nat.le_of_ble_eq_true rfl) dL_law_618 (fun hr1 => ?_)
  exact r_icmp_eq C 708 hr0 hr1 rfl dL_law_621 (fun _ => kk ids ad _ _ (idsOK_90 (h2.trans h1) hok) hb hCF (by omega) (by omega)) (fun hne => absurd rfl hne)
set_option maxHeartbeats 4000000 in
set_option maxRecDepth 100000 in
theorem law_16 (C : Cx p s m args meth c D (tyl cy) A 4 cL_law RL (some .boolean)) (hCF : CF ad A s) (S : Scr s A b L xs) (hb : ad 1040 = b) (hi : 0 ≤ i ∧ i + 6 ≤ (L : Int)) (hcl : cells + 1 ≤ 600000) (hsl : slots + 6 ≤ 7302250) (hok : idsOK ids μ) {r : Int} {μ1 μ2 : Mem} (hf : f_X10_isTrue μ (xs (i + 1).toNat).toInt = some (r, μ1)) (hg : f_X11_isTrue μ1 (xs (i + 1).toNat).toInt = some (r, μ2)) (h2 : μ2 90 = μ1 90) (h1 : μ1 90 = μ 90) (kk : ∀ (ids1 : List Nat) (ad1 : Nat → Nat) (c1 s1 : Nat), idsOK ids1 μ2 → ad1 1040 = b → CF ad1 A s → c1 ≤ cells + 1 → s1 ≤ slots + 6 → V p l e room_1 s m args below meth c c1 s1 Q D A (lay cy) ids1 ad1 4 μ2 708 [some (rf 1040), some (rf 0), some (rf 300), some (nu i)] []) : V p l e room_1 s m args below meth c cells slots Q D A (lay cy) ids ad 4 μ 626 [some (rf 1040), some (rf 0), some (rf 300), some (nu i)] [] := by
  refine r_aload_n C 1 rfl rfl dL_law_626 ?_
  refine r_aload_n C 0 rfl rfl dL_law_627 ?_
  refine r_iload_n C 3 rfl rfl dL_law_628 ?_
  refine r_iconst C dL_law_629 ?_
  refine r_iadd C dL_law_630 ?_
  refine r_sld C S hb ⟨by omega, by omega⟩ dL_law_631 ?_
  refine g_callVI C hCF (As := [nu (xs (i + 1).toNat).toInt]) 0 (by decide) rfl (fx_m rfl) (ly_0 cy _ _) rfl (c_X10_isTrue (zI_rng _) hf) ⟨by decide, by decide⟩ ⟨by show cells + 0 ≤ 600000; omega, by show slots + 0 ≤ 7302250; omega⟩ tw_810 tw_813 tw_1 tw_811 tw_812 1 (by decide) rfl (Nat.le_of_ble_eq_true rfl) dL_law_632 (fun hr0 => ?_)
  refine r_aload_n C 2 rfl rfl dL_law_635 ?_
  refine r_aload_n C 0 rfl rfl dL_law_636 ?_
  refine r_iload_n C 3 rfl rfl dL_law_637 ?_
  refine r_iconst C dL_law_638 ?_
  refine r_iadd C dL_law_639 ?_
  refine r_sld C S hb ⟨by omega, by omega⟩ dL_law_640 ?_
  refine g_callVI C hCF (As := [nu (xs (i + 1).toNat).toInt]) 300 (by decide) rfl (fx_m rfl) (ly_300 cy _ _) rfl (c_X11_isTrue (zI_rng _) hg) ⟨by decide, by decide⟩ ⟨by show cells + 0 ≤ 600000; omega, by show slots + 0 ≤ 7302250; omega⟩ tw_1228 tw_1231 tw_10 tw_1229 tw_1230 1 (by decide) rfl (Nat.le_of_ble_eq_true rfl) dL_law_641 (fun hr1 => ?_)
  exact r_icmp_eq C 708 hr0 hr1 rfl dL_law_644 (fun _ => kk ids ad _ _ (idsOK_90 (h2.trans h1) hok) hb hCF (by omega) (by omega)) (fun hne => absurd rfl hne)
set_option maxHeartbeats 4000000 in
set_option maxRecDepth 100000 in
theorem law_17 (C : Cx p s m args meth c D (tyl cy) A 4 cL_law RL (some .boolean)) (hCF : CF ad A s) (S : Scr s A b L xs) (hb : ad 1040 = b) (hi : 0 ≤ i ∧ i + 6 ≤ (L : Int)) (hcl : cells + 1 ≤ 600000) (hsl : slots + 6 ≤ 7302250) (hok : idsOK ids μ) {r : Int} {μ1 μ2 : Mem} (hf : f_X10_quarrel μ  = some (r, μ1)) (hg : f_X11_quarrel μ1  = some (r, μ2)) (h2 : μ2 90 = μ1 90) (h1 : μ1 90 = μ 90) (kk : ∀ (ids1 : List Nat) (ad1 : Nat → Nat) (c1 s1 : Nat), idsOK ids1 μ2 → ad1 1040 = b → CF ad1 A s → c1 ≤ cells + 1 → s1 ≤ slots + 6 → V p l e room_1 s m args below meth c c1 s1 Q D A (lay cy) ids1 ad1 4 μ2 708 [some (rf 1040), some (rf 0), some (rf 300), some (nu i)] []) : V p l e room_1 s m args below meth c cells slots Q D A (lay cy) ids ad 4 μ 649 [some (rf 1040), some (rf 0), some (rf 300), some (nu i)] [] := by
  refine r_aload_n C 1 rfl rfl dL_law_649 ?_
  refine g_callVI C hCF (As := []) 0 (by decide) rfl (fx_m rfl) (ly_0 cy _ _) rfl (c_X10_quarrel  hf) ⟨by decide, by decide⟩ ⟨by show cells + 0 ≤ 600000; omega, by show slots + 0 ≤ 7302250; omega⟩ tw_822 tw_825 tw_1 tw_823 tw_824 0 (by decide) rfl (Nat.le_of_ble_eq_true rfl) dL_law_650 (fun hr0 => ?_)
  refine r_aload_n C 2 rfl rfl dL_law_653 ?_
  refine g_callVI C hCF (As := []) 300 (by decide) rfl (fx_m rfl) (ly_300 cy _ _) rfl (c_X11_quarrel  hg) ⟨by decide, by decide⟩ ⟨by show cells + 0 ≤ 600000; omega, by show slots + 0 ≤ 7302250; omega⟩ tw_1232 tw_1235 tw_10 tw_1233 tw_1234 0 (by decide) rfl (Nat.le_of_ble_eq_true rfl) dL_law_654 (fun hr1 => ?_)
  exact r_icmp_eq C 708 hr0 hr1 rfl dL_law_657 (fun _ => kk ids ad _ _ (idsOK_90 (h2.trans h1) hok) hb hCF (by omega) (by omega)) (fun hne => absurd rfl hne)
set_option maxHeartbeats 4000000 in
set_option maxRecDepth 100000 in
theorem law_18 (C : Cx p s m args meth c D (tyl cy) A 4 cL_law RL (some .boolean)) (hCF : CF ad A s) (S : Scr s A b L xs) (hb : ad 1040 = b) (hi : 0 ≤ i ∧ i + 6 ≤ (L : Int)) (hcl : cells + 1 ≤ 600000) (hsl : slots + 6 ≤ 7302250) (hok : idsOK ids μ) {r : Int} {μ1 μ2 : Mem} (hf : f_X10_quarrels μ (xs (i + 1).toNat).toInt = some (r, μ1)) (hg : f_X11_quarrels μ1 (xs (i + 1).toNat).toInt = some (r, μ2)) (h2 : μ2 90 = μ1 90) (h1 : μ1 90 = μ 90) (kk : ∀ (ids1 : List Nat) (ad1 : Nat → Nat) (c1 s1 : Nat), idsOK ids1 μ2 → ad1 1040 = b → CF ad1 A s → c1 ≤ cells + 1 → s1 ≤ slots + 6 → V p l e room_1 s m args below meth c c1 s1 Q D A (lay cy) ids1 ad1 4 μ2 708 [some (rf 1040), some (rf 0), some (rf 300), some (nu i)] []) : V p l e room_1 s m args below meth c cells slots Q D A (lay cy) ids ad 4 μ 662 [some (rf 1040), some (rf 0), some (rf 300), some (nu i)] [] := by
  refine r_aload_n C 1 rfl rfl dL_law_662 ?_
  refine r_aload_n C 0 rfl rfl dL_law_663 ?_
  refine r_iload_n C 3 rfl rfl dL_law_664 ?_
  refine r_iconst C dL_law_665 ?_
  refine r_iadd C dL_law_666 ?_
  refine r_sld C S hb ⟨by omega, by omega⟩ dL_law_667 ?_
  refine g_callVI C hCF (As := [nu (xs (i + 1).toNat).toInt]) 0 (by decide) rfl (fx_m rfl) (ly_0 cy _ _) rfl (c_X10_quarrels (zI_rng _) hf) ⟨by decide, by decide⟩ ⟨by show cells + 0 ≤ 600000; omega, by show slots + 0 ≤ 7302250; omega⟩ tw_869 tw_872 tw_1 tw_870 tw_871 1 (by decide) rfl (Nat.le_of_ble_eq_true rfl) dL_law_668 (fun hr0 => ?_)
  refine r_aload_n C 2 rfl rfl dL_law_671 ?_
  refine r_aload_n C 0 rfl rfl dL_law_672 ?_
  refine r_iload_n C 3 rfl rfl dL_law_673 ?_
  refine r_iconst C dL_law_674 ?_
  refine r_iadd C dL_law_675 ?_
  refine r_sld C S hb ⟨by omega, by omega⟩ dL_law_676 ?_
  refine g_callVI C hCF (As := [nu (xs (i + 1).toNat).toInt]) 300 (by decide) rfl (fx_m rfl) (ly_300 cy _ _) rfl (c_X11_quarrels (zI_rng _) hg) ⟨by decide, by decide⟩ ⟨by show cells + 0 ≤ 600000; omega, by show slots + 0 ≤ 7302250; omega⟩ tw_1249 tw_1252 tw_10 tw_1250 tw_1251 1 (by decide) rfl (Nat.le_of_ble_eq_true rfl) dL_law_677 (fun hr1 => ?_)
  exact r_icmp_eq C 708 hr0 hr1 rfl dL_law_680 (fun _ => kk ids ad _ _ (idsOK_90 (h2.trans h1) hok) hb hCF (by omega) (by omega)) (fun hne => absurd rfl hne)
set_option maxHeartbeats 4000000 in
set_option maxRecDepth 100000 in
theorem law_19 (C : Cx p s m args meth c D (tyl cy) A 4 cL_law RL (some .boolean)) (hCF : CF ad A s) (S : Scr s A b L xs) (hb : ad 1040 = b) (hi : 0 ≤ i ∧ i + 6 ≤ (L : Int)) (hcl : cells + 1 ≤ 600000) (hsl : slots + 6 ≤ 7302250) (hok : idsOK ids μ) {r : Int} {μ1 μ2 : Mem} (hf : f_X10_count μ (xs (i + 1).toNat).toInt = some (r, μ1)) (hg : f_X11_count μ1 (xs (i + 1).toNat).toInt = some (r, μ2)) (h2 : μ2 90 = μ1 90) (h1 : μ1 90 = μ 90) (kk : ∀ (ids1 : List Nat) (ad1 : Nat → Nat) (c1 s1 : Nat), idsOK ids1 μ2 → ad1 1040 = b → CF ad1 A s → c1 ≤ cells + 1 → s1 ≤ slots + 6 → V p l e room_1 s m args below meth c c1 s1 Q D A (lay cy) ids1 ad1 4 μ2 708 [some (rf 1040), some (rf 0), some (rf 300), some (nu i)] []) : V p l e room_1 s m args below meth c cells slots Q D A (lay cy) ids ad 4 μ 685 [some (rf 1040), some (rf 0), some (rf 300), some (nu i)] [] := by
  refine r_aload_n C 1 rfl rfl dL_law_685 ?_
  refine r_aload_n C 0 rfl rfl dL_law_686 ?_
  refine r_iload_n C 3 rfl rfl dL_law_687 ?_
  refine r_iconst C dL_law_688 ?_
  refine r_iadd C dL_law_689 ?_
  refine r_sld C S hb ⟨by omega, by omega⟩ dL_law_690 ?_
  refine g_callVI C hCF (As := [nu (xs (i + 1).toNat).toInt]) 0 (by decide) rfl (fx_m rfl) (ly_0 cy _ _) rfl (c_X10_count (zI_rng _) hf) ⟨by decide, by decide⟩ ⟨by show cells + 0 ≤ 600000; omega, by show slots + 0 ≤ 7302250; omega⟩ tw_877 tw_880 tw_1 tw_878 tw_879 1 (by decide) rfl (Nat.le_of_ble_eq_true rfl) dL_law_691 (fun hr0 => ?_)
  refine r_aload_n C 2 rfl rfl dL_law_694 ?_
  refine r_aload_n C 0 rfl rfl dL_law_695 ?_
  refine r_iload_n C 3 rfl rfl dL_law_696 ?_
  refine r_iconst C dL_law_697 ?_
  refine r_iadd C dL_law_698 ?_
  refine r_sld C S hb ⟨by omega, by omega⟩ dL_law_699 ?_
  refine g_callVI C hCF (As := [nu (xs (i + 1).toNat).toInt]) 300 (by decide) rfl (fx_m rfl) (ly_300 cy _ _) rfl (c_X11_count (zI_rng _) hg) ⟨by decide, by decide⟩ ⟨by show cells + 0 ≤ 600000; omega, by show slots + 0 ≤ 7302250; omega⟩ tw_1254 tw_1257 tw_10 tw_1255 tw_1256 1 (by decide) rfl (Nat.le_of_ble_eq_true rfl) dL_law_700 (fun hr1 => ?_)
  exact r_icmp_eq C 708 hr0 hr1 rfl dL_law_703 (fun _ => kk ids ad _ _ (idsOK_90 (h2.trans h1) hok) hb hCF (by omega) (by omega)) (fun hne => absurd rfl hne)
set_option maxHeartbeats 4000000 in
set_option maxRecDepth 100000 in
theorem law_case {Inv : Mem → Prop} (hO : PureOK Inv) (C : Cx p s m args meth c D (tyl cy) A 4 cL_law RL (some .boolean)) (hCF : CF ad A s) (S : Scr s A b L xs) (hb : ad 1040 = b) (hi : 0 ≤ i ∧ i + 6 ≤ (L : Int)) (hcl : cells + 1 ≤ 600000) (hsl : slots + 6 ≤ 7302250) (hok : idsOK ids μ) (hI : Inv μ) (kk : ∀ (μ2 : Mem) (ids1 : List Nat) (ad1 : Nat → Nat) (c1 s1 : Nat), Inv μ2 → idsOK ids1 μ2 → ad1 1040 = b → CF ad1 A s → c1 ≤ cells + 1 → s1 ≤ slots + 6 → V p l e room_1 s m args below meth c c1 s1 Q D A (lay cy) ids1 ad1 4 μ2 708 [some (rf 1040), some (rf 0), some (rf 300), some (nu i)] []) : V p l e room_1 s m args below meth c cells slots Q D A (lay cy) ids ad 4 μ 33 [some (rf 1040), some (rf 0), some (rf 300), some (nu i)] [nu (zand (xs i.toNat).toInt 31)] := by
  refine V_in (fun ho _ => ?_)
  obtain ⟨hbb, hrs, hrg, q0, q1, q2, q3, q4, q5, q6, q7, q8, q9, q10, q11, q12, q13, q14, q15, q16, q17, q18, q19⟩ := hO μ ho hI
  generalize hz : zand (xs i.toNat).toInt 31 = z
  have hzr : inR z := by rw [← hz]; exact zI_rng _
  by_cases hout : z < 0 ∨ 19 < z
  · exact r_swOut C 708 hzr hout rfl dL_law_33 (kk μ ids ad cells slots hI hok hb hCF (by omega) (by omega))
  have hcase : z = 0 ∨ z = 1 ∨ z = 2 ∨ z = 3 ∨ z = 4 ∨ z = 5 ∨ z = 6 ∨ z = 7 ∨ z = 8 ∨ z = 9 ∨ z = 10 ∨ z = 11 ∨ z = 12 ∨ z = 13 ∨ z = 14 ∨ z = 15 ∨ z = 16 ∨ z = 17 ∨ z = 18 ∨ z = 19 := by omega
  rcases hcase with hv | hv | hv | hv | hv | hv | hv | hv | hv | hv | hv | hv | hv | hv | hv | hv | hv | hv | hv | hv
  · obtain ⟨r, μ1, μ2, hf, hg, h2, hI2⟩ := q0 _ (zI_rng (xs (i + 1).toNat))
    exact r_swIn C 128 0 hv (inR_lit rfl) (by decide) (by decide) rfl rfl dL_law_33 (law_0 C hCF S hb hi hcl hsl hok hf hg h2 hbb hrg (fun ids1 ad1 c1 s1 => kk μ2 ids1 ad1 c1 s1 hI2))
  · obtain ⟨r, μ1, μ2, hf, hg, h1, h2, hI2⟩ := q1 _ _ (zI_rng (xs (i + 1).toNat)) (zI_rng (xs (i + 2).toNat))
    exact r_swIn C 151 1 hv (inR_lit rfl) (by decide) (by decide) rfl rfl dL_law_33 (law_1 C hCF S hb hi hcl hsl hok hf hg h2 h1 (fun ids1 ad1 c1 s1 => kk μ2 ids1 ad1 c1 s1 hI2))
  · obtain ⟨r, μ1, μ2, hf, hg, h1, h2, hI2⟩ := q2 _ _ _ (zI_rng (xs (i + 1).toNat)) (zI_rng (xs (i + 2).toNat)) (zI_rng (xs (i + 3).toNat))
    exact r_swIn C 184 2 hv (inR_lit rfl) (by decide) (by decide) rfl rfl dL_law_33 (law_2 C hCF S hb hi hcl hsl hok hf hg h2 h1 (fun ids1 ad1 c1 s1 => kk μ2 ids1 ad1 c1 s1 hI2))
  · obtain ⟨r, μ1, μ2, hf, hg, h1, h2, hI2⟩ := q3 _ _ _ _ _ (zI_rng (xs (i + 1).toNat)) (zI_rng (xs (i + 2).toNat)) (zI_rng (xs (i + 3).toNat)) (zI_rng (xs (i + 4).toNat)) (zI_rng (xs (i + 5).toNat))
    exact r_swIn C 227 3 hv (inR_lit rfl) (by decide) (by decide) rfl rfl dL_law_33 (law_3 C hCF S hb hi hcl hsl hok hf hg h2 h1 (fun ids1 ad1 c1 s1 => kk μ2 ids1 ad1 c1 s1 hI2))
  · obtain ⟨r, μ1, μ2, hf, hg, h1, h2, hI2⟩ := q4 _ (zI_rng (xs (i + 1).toNat))
    exact r_swIn C 290 4 hv (inR_lit rfl) (by decide) (by decide) rfl rfl dL_law_33 (law_4 C hCF S hb hi hcl hsl hok hf hg h2 h1 (fun ids1 ad1 c1 s1 => kk μ2 ids1 ad1 c1 s1 hI2))
  · obtain ⟨r, μ1, μ2, hf, hg, h1, h2, hI2⟩ := q5
    exact r_swIn C 313 5 hv (inR_lit rfl) (by decide) (by decide) rfl rfl dL_law_33 (law_5 C hCF S hb hi hcl hsl hok hf hg h2 h1 (fun ids1 ad1 c1 s1 => kk μ2 ids1 ad1 c1 s1 hI2))
  · obtain ⟨r, μ1, μ2, hf, hg, h2, hI2⟩ := q6 _ _ (zI_rng (xs (i + 1).toNat)) (zI_rng (xs (i + 2).toNat))
    exact r_swIn C 326 6 hv (inR_lit rfl) (by decide) (by decide) rfl rfl dL_law_33 (law_6 C hCF S hb hi hcl hsl hok hf hg h2 hbb hrs (fun ids1 ad1 c1 s1 => kk μ2 ids1 ad1 c1 s1 hI2))
  · obtain ⟨r, μ1, μ2, hf, hg, h1, h2, hI2⟩ := q7 _ _ (zI_rng (xs (i + 1).toNat)) (zI_rng (xs (i + 2).toNat))
    exact r_swIn C 359 7 hv (inR_lit rfl) (by decide) (by decide) rfl rfl dL_law_33 (law_7 C hCF S hb hi hcl hsl hok hf hg h2 h1 (fun ids1 ad1 c1 s1 => kk μ2 ids1 ad1 c1 s1 hI2))
  · obtain ⟨r, μ1, μ2, hf, hg, h1, h2, hI2⟩ := q8 _ (zI_rng (xs (i + 1).toNat))
    exact r_swIn C 392 8 hv (inR_lit rfl) (by decide) (by decide) rfl rfl dL_law_33 (law_8 C hCF S hb hi hcl hsl hok hf hg h2 h1 (fun ids1 ad1 c1 s1 => kk μ2 ids1 ad1 c1 s1 hI2))
  · obtain ⟨r, μ1, μ2, hf, hg, h1, h2, hI2⟩ := q9 _ (zI_rng (xs (i + 1).toNat))
    exact r_swIn C 415 9 hv (inR_lit rfl) (by decide) (by decide) rfl rfl dL_law_33 (law_9 C hCF S hb hi hcl hsl hok hf hg h2 h1 (fun ids1 ad1 c1 s1 => kk μ2 ids1 ad1 c1 s1 hI2))
  · obtain ⟨r, μ1, μ2, hf, hg, h1, h2, hI2⟩ := q10 _ (zI_rng (xs (i + 1).toNat))
    exact r_swIn C 438 10 hv (inR_lit rfl) (by decide) (by decide) rfl rfl dL_law_33 (law_10 C hCF S hb hi hcl hsl hok hf hg h2 h1 (fun ids1 ad1 c1 s1 => kk μ2 ids1 ad1 c1 s1 hI2))
  · obtain ⟨r, μ1, μ2, hf, hg, h1, h2, hI2⟩ := q11 _ _ (zI_rng (xs (i + 1).toNat)) (zI_rng (xs (i + 2).toNat))
    exact r_swIn C 461 11 hv (inR_lit rfl) (by decide) (by decide) rfl rfl dL_law_33 (law_11 C hCF S hb hi hcl hsl hok hf hg h2 h1 (fun ids1 ad1 c1 s1 => kk μ2 ids1 ad1 c1 s1 hI2))
  · obtain ⟨r, μ1, μ2, hf, hg, h1, h2, hI2⟩ := q12 _ _ (zI_rng (xs (i + 1).toNat)) (zI_rng (xs (i + 2).toNat))
    exact r_swIn C 494 12 hv (inR_lit rfl) (by decide) (by decide) rfl rfl dL_law_33 (law_12 C hCF S hb hi hcl hsl hok hf hg h2 h1 (fun ids1 ad1 c1 s1 => kk μ2 ids1 ad1 c1 s1 hI2))
  · obtain ⟨r, μ1, μ2, hf, hg, h1, h2, hI2⟩ := q13
    exact r_swIn C 527 13 hv (inR_lit rfl) (by decide) (by decide) rfl rfl dL_law_33 (law_13 C hCF S hb hi hcl hsl hok hf hg h2 h1 hbb (fun ids1 ad1 c1 s1 => kk μ2 ids1 ad1 c1 s1 hI2))
  · obtain ⟨r, μ1, μ2, hf, hg, h1, h2, hI2⟩ := q14 _ _ (zI_rng (xs (i + 1).toNat)) (zI_rng (xs (i + 2).toNat))
    exact r_swIn C 540 14 hv (inR_lit rfl) (by decide) (by decide) rfl rfl dL_law_33 (law_14 C hCF S hb hi hcl hsl hok hf hg h2 h1 (fun ids1 ad1 c1 s1 => kk μ2 ids1 ad1 c1 s1 hI2))
  · obtain ⟨r, μ1, μ2, hf, hg, h1, h2, hI2⟩ := q15 _ _ _ _ (zI_rng (xs (i + 1).toNat)) (zI_rng (xs (i + 2).toNat)) (zI_rng (xs (i + 3).toNat)) (zI_rng (xs (i + 4).toNat))
    exact r_swIn C 573 15 hv (inR_lit rfl) (by decide) (by decide) rfl rfl dL_law_33 (law_15 C hCF S hb hi hcl hsl hok hf hg h2 h1 (fun ids1 ad1 c1 s1 => kk μ2 ids1 ad1 c1 s1 hI2))
  · obtain ⟨r, μ1, μ2, hf, hg, h1, h2, hI2⟩ := q16 _ (zI_rng (xs (i + 1).toNat))
    exact r_swIn C 626 16 hv (inR_lit rfl) (by decide) (by decide) rfl rfl dL_law_33 (law_16 C hCF S hb hi hcl hsl hok hf hg h2 h1 (fun ids1 ad1 c1 s1 => kk μ2 ids1 ad1 c1 s1 hI2))
  · obtain ⟨r, μ1, μ2, hf, hg, h1, h2, hI2⟩ := q17
    exact r_swIn C 649 17 hv (inR_lit rfl) (by decide) (by decide) rfl rfl dL_law_33 (law_17 C hCF S hb hi hcl hsl hok hf hg h2 h1 (fun ids1 ad1 c1 s1 => kk μ2 ids1 ad1 c1 s1 hI2))
  · obtain ⟨r, μ1, μ2, hf, hg, h1, h2, hI2⟩ := q18 _ (zI_rng (xs (i + 1).toNat))
    exact r_swIn C 662 18 hv (inR_lit rfl) (by decide) (by decide) rfl rfl dL_law_33 (law_18 C hCF S hb hi hcl hsl hok hf hg h2 h1 (fun ids1 ad1 c1 s1 => kk μ2 ids1 ad1 c1 s1 hI2))
  · obtain ⟨r, μ1, μ2, hf, hg, h1, h2, hI2⟩ := q19 _ (zI_rng (xs (i + 1).toNat))
    exact r_swIn C 685 19 hv (inR_lit rfl) (by decide) (by decide) rfl rfl dL_law_33 (law_19 C hCF S hb hi hcl hsl hok hf hg h2 h1 (fun ids1 ad1 c1 s1 => kk μ2 ids1 ad1 c1 s1 hI2))
end LAW
