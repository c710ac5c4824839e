/-! THE PLAN: when a stone is ready -/
noncomputable def runK (H : Int → Prop) : Nat → Int
  | 0 => 0
  | k + 1 => if b2i (H (3000 - (k : Int))) = 1 then runK H k + 1 else 0
noncomputable def rafK (H : Int → Prop) (R : Int) : Nat → Int
  | 0 => -1
  | k + 1 => if R ≤ runK H (k + 1) then 3000 - (k : Int) else rafK H R k
def allH (H : Int → Prop) (R s : Int) : Prop := ∀ d : Int, s ≤ d → d < s + R → H d
theorem runK_s {H : Int → Prop} (hH : ∀ d, H d → 0 ≤ d ∧ d ≤ 3000) : ∀ (k : Nat) (m : Int), 0 ≤ m → (m ≤ runK H k ↔ ∀ e : Int, 3001 - (k : Int) ≤ e → e < 3001 - (k : Int) + m → H e)
  | 0, m, hm => by
    show m ≤ 0 ↔ _
    constructor
    · intro h e e1 e2
      omega
    · intro h
      by_cases z : m ≤ 0
      · exact z
      · have := hH _ (h 3001 (by omega) (by omega))
        omega
  | k + 1, m, hm => by
    have e1 : runK H (k + 1) = if b2i (H (3000 - (k : Int))) = 1 then runK H k + 1 else 0 := rfl
    have e2 : (3001 : Int) - ((k + 1 : Nat) : Int) = 3000 - (k : Int) := by omega
    rw [e1, e2]
    by_cases c : H (3000 - (k : Int))
    · rw [b2i_t c, if_pos rfl]
      by_cases z : m = 0
      · subst z
        constructor
        · intro _ e q1 q2; omega
        · intro _
          have := (runK_s hH k 0 (Int.le_refl 0)).mpr (fun e q1 q2 => by omega)
          omega
      · have ih := runK_s hH k (m - 1) (by omega)
        constructor
        · intro h e q1 q2
          by_cases ee : e = 3000 - (k : Int)
          · rw [ee]; exact c
          · exact ih.mp (by omega) e (by omega) (by omega)
        · intro h
          have := ih.mpr (fun e q1 q2 => h e (by omega) (by omega))
          omega
    · rw [b2i_f c, if_neg (by decide)]
      constructor
      · intro h e q1 q2; omega
      · intro h
        by_cases z : m ≤ 0
        · exact z
        · exact absurd (h _ (Int.le_refl _) (by omega)) c
def rftP (H : Int → Prop) (R x r : Int) : Prop := (r = -1 ∧ ∀ s, x ≤ s → ¬ allH H R s) ∨ (0 ≤ r ∧ x ≤ r ∧ r ≤ 3000 ∧ allH H R r ∧ ∀ s, x ≤ s → s < r → ¬ allH H R s)
theorem rftP_u {H : Int → Prop} {R x r r' : Int} (h : rftP H R x r) (k : rftP H R x r') : r = r' := by
  rcases h with ⟨h1, h2⟩ | ⟨h0, h1, h2, h3, h4⟩
  · rcases k with ⟨k1, k2⟩ | ⟨k0, k1, k2, k3, k4⟩
    · omega
    · exact absurd k3 (h2 r' k1)
  · rcases k with ⟨k1, k2⟩ | ⟨k0, k1, k2, k3, k4⟩
    · exact absurd h3 (k2 r h1)
    · rcases Int.lt_trichotomy r r' with q | q | q
      · exact absurd h3 (k4 r h1 q)
      · exact q
      · exact absurd k3 (h4 r' k1 q)
theorem allH_b {H : Int → Prop} {R s : Int} (hH : ∀ d, H d → 0 ≤ d ∧ d ≤ 3000) (hR : 1 ≤ R) (h : allH H R s) : 0 ≤ s ∧ s + R ≤ 3001 := by
  have a := hH s (h s (Int.le_refl _) (by omega))
  have b := hH (s + R - 1) (h (s + R - 1) (by omega) (by omega))
  omega
theorem rafK_s {H : Int → Prop} {R : Int} (hH : ∀ d, H d → 0 ≤ d ∧ d ≤ 3000) (hR : 1 ≤ R) : ∀ k : Nat, k ≤ 3001 → rftP H R (3001 - (k : Int)) (rafK H R k)
  | 0, _ => Or.inl ⟨rfl, fun s hs h => by have := allH_b hH hR h; omega⟩
  | k + 1, hk => by
    have ih := rafK_s hH hR k (by omega)
    have e1 : rafK H R (k + 1) = if R ≤ runK H (k + 1) then 3000 - (k : Int) else rafK H R k := rfl
    have e2 : (3001 : Int) - ((k + 1 : Nat) : Int) = 3000 - (k : Int) := by omega
    have hr := runK_s hH (k + 1) R (by omega)
    rw [e2] at hr
    rw [e1, e2]
    by_cases c : R ≤ runK H (k + 1)
    · rw [if_pos c]
      exact Or.inr ⟨by omega, Int.le_refl _, by omega, fun d d1 d2 => hr.mp c d d1 d2, fun s s1 s2 => by omega⟩
    · rw [if_neg c]
      have hno : ¬ allH H R (3000 - (k : Int)) := fun q => c (hr.mpr (fun e q1 q2 => q e q1 q2))
      rcases ih with ⟨h1, h2⟩ | ⟨h0, h1, h2, h3, h4⟩
      · refine Or.inl ⟨h1, fun s hs h => ?_⟩
        by_cases es : s = 3000 - (k : Int)
        · rw [es] at h; exact hno h
        · exact h2 s (by omega) h
      · refine Or.inr ⟨h0, by omega, h2, h3, fun s s1 s2 h => ?_⟩
        by_cases es : s = 3000 - (k : Int)
        · rw [es] at h; exact hno h
        · exact h4 s (by omega) s2 h
noncomputable def rft (H : Int → Prop) (R x : Int) : Int := if x ≤ 3000 then rafK H R (3001 - x).toNat else -1
theorem rft_s {H : Int → Prop} {R x : Int} (hH : ∀ d, H d → 0 ≤ d ∧ d ≤ 3000) (hR : 1 ≤ R) (hx : 0 ≤ x) : rftP H R x (rft H R x) := by
  unfold rft
  by_cases c : x ≤ 3000
  · rw [if_pos c]
    have := rafK_s hH hR (3001 - x).toNat (by omega)
    rw [show (3001 : Int) - (((3001 - x).toNat : Nat) : Int) = x by omega] at this
    exact this
  · rw [if_neg c]
    exact Or.inl ⟨rfl, fun s hs h => by have := allH_b hH hR h; omega⟩
theorem rft_b {H : Int → Prop} {R x : Int} (hH : ∀ d, H d → 0 ≤ d ∧ d ≤ 3000) (hR : 1 ≤ R) (hx : 0 ≤ x) : rft H R x = -1 ∨ (x ≤ rft H R x ∧ rft H R x ≤ 3000) := by
  rcases rft_s hH hR hx with ⟨h1, -⟩ | ⟨h0, h1, h2, -⟩
  · exact Or.inl h1
  · exact Or.inr ⟨h1, h2⟩
theorem rft_m {H : Int → Prop} {R x y : Int} (hH : ∀ d, H d → 0 ≤ d ∧ d ≤ 3000) (hR : 1 ≤ R) (hx : 0 ≤ x) (hxy : x ≤ y) (hn : rft H R y ≠ -1) : rft H R x ≠ -1 ∧ rft H R x ≤ rft H R y := by
  rcases rft_s hH hR (show 0 ≤ y by omega) with ⟨h1, -⟩ | ⟨h0, h1, h2, h3, -⟩
  · exact absurd h1 hn
  · rcases rft_s hH hR hx with ⟨k1, k2⟩ | ⟨k0, k1, k2, k3, k4⟩
    · exact absurd h3 (k2 _ (by omega))
    · refine ⟨by omega, ?_⟩
      by_cases q : rft H R x ≤ rft H R y
      · exact q
      · exact absurd h3 (k4 _ (by omega) (by omega))
/-- the class finds the raft's day by its runs -/
theorem e_raft {μ : Mem} {H : Int → Prop} {RR : Nat} {x L : Int} (hR : μ 1 6 = (RR : Int)) (hRR : RR ≤ 40) (hv : ∀ i, i < RR → 0 ≤ μ 12 i ∧ μ 12 i ≤ μ 13 i ∧ μ 13 i ≤ 3000) (hg : ∀ x y, x < y → y < RR → μ 13 x + 1 < μ 12 y) (hH : ∀ d, H d ↔ ∃ i, i < RR ∧ μ 12 i ≤ d ∧ d ≤ μ 13 i) (hx : 0 ≤ x ∧ x ≤ 100000) (hL : 1 ≤ L ∧ L ≤ 200) : ∀ (e n v : Nat), v + e = RR → e < n → (∀ j, j < v → μ 13 j < (if x < μ 12 j then μ 12 j else x) + L - 1) → ∃ r, f_X2_firstRaftDay_2 n x L (v : Int) μ = some (r, μ) ∧ rftP H L x r
  | 0, n + 1, v, h1, h2, h3 => by
    refine ⟨-1, ?_, Or.inl ⟨rfl, fun s hs h => ?_⟩⟩
    · rw [f_X2_firstRaftDay_2_e, if_pos (by omega)]
    · obtain ⟨i, i1, i2, i3⟩ := (hH s).mp (h s (Int.le_refl _) (by omega))
      have hf := h3 i (by omega)
      have hle : μ 13 i < s + L - 1 := by
        split at hf <;> omega
      obtain ⟨j, j1, j2, j3⟩ := (hH (μ 13 i + 1)).mp (h _ (by omega) (by omega))
      rcases Nat.lt_trichotomy i j with q | q | q
      · have := hg i j q j1; omega
      · rw [q] at j3; rw [← q] at j3; omega
      · have := hg j i q i1
        have := hv i i1
        omega
  | e + 1, n + 1, v, h1, h2, h3 => by
    have hvv := hv v (by omega)
    have hb : ∃ bg : Int, f_J9_max_7cf53 μ x (μ 12 v) = some (bg, μ) ∧ bg = if x < μ 12 v then μ 12 v else x := by
      refine ⟨_, ?_, rfl⟩
      unfold f_J9_max_7cf53
      split <;> rfl
    obtain ⟨bg, b1, b2⟩ := hb
    have b3 : x ≤ bg ∧ μ 12 v ≤ bg ∧ (bg = x ∨ bg = μ 12 v) ∧ bg ≤ 100000 := by
      rw [b2]; split <;> omega
    rw [f_X2_firstRaftDay_2_e, if_neg (by omega), if_pos (by omega), Int.toNat_natCast, b1, bd_some, if_pos (by omega)]
    by_cases c : μ 13 v < bg + L - 1
    · obtain ⟨r, q1, q2⟩ := e_raft hR hRR hv hg hH hx hL e n (v + 1) (by omega) (by omega) (fun j hj => by
        by_cases ej : j = v
        · rw [ej, ← b2]; exact c
        · exact h3 j (by omega))
      refine ⟨r, ?_, q2⟩
      rw [if_pos c, if_pos (by omega), show (v : Int) + 1 = ((v + 1 : Nat) : Int) by omega, q1]
    · refine ⟨bg, by rw [if_neg c], Or.inr ⟨by omega, by omega, by omega, fun d d1 d2 => (hH d).mpr ⟨v, by omega, by omega, by omega⟩, fun s s1 s2 h => ?_⟩⟩
      obtain ⟨i, i1, i2, i3⟩ := (hH s).mp (h s (Int.le_refl _) (by omega))
      have hiv : i < v := by
        rcases Nat.lt_trichotomy i v with q | q | q
        · exact q
        · rw [q] at i2; omega
        · have := hg v i q i1; omega
      have hf := h3 i hiv
      have hle : μ 13 i < s + L - 1 := by
        split at hf <;> omega
      obtain ⟨j, j1, j2, j3⟩ := (hH (μ 13 i + 1)).mp (h _ (by omega) (by omega))
      rcases Nat.lt_trichotomy i j with q | q | q
      · have := hg i j q j1; omega
      · rw [q] at j3; rw [← q] at j3; omega
      · have := hg j i q i1
        have := hv i i1
        omega
/-- how long up to the raft -/
def leadV (ν : Mem) (t : Nat → Int) (G hi : Int) (k g : Nat) : Int :=
  if ((g : Int) < G ∧ ν 302 g = -1) ∧ (pullW (ν 315 k) (t 0) ≤ ν 301 g ∧ (3 < ν 317 k ∨ (pullW (ν 315 k) (t 2) ≤ ν 301 g ∧ ν 316 k < hi))) then (if ν 317 k = 0 then (ν 315 k * t 4 + ν 301 g - 1) / ν 301 g else 0) + (if ν 317 k ≤ 1 then t 5 else 0) else -1
noncomputable def rdyV (ν : Mem) (t : Nat → Int) (G hi : Int) (H : Int → Prop) (w : Nat → Nat) (i g : Nat) (x : Int) : Int :=
  if x < 0 ∨ leadV ν t G hi (w i) g = -1 then -1 else
    (if ν 317 (w i) ≤ 2 then
      (if rft H (t 6) (x + leadV ν t G hi (w i) g) = -1 then -1 else if rft H (t 6) (x + leadV ν t G hi (w i) g) + t 6 + (ν 316 (w i) + 1) ≤ 3000 then rft H (t 6) (x + leadV ν t G hi (w i) g) + t 6 + (ν 316 (w i) + 1) else -1)
    else if x + leadV ν t G hi (w i) g + (if ν 317 (w i) ≤ 3 then ν 316 (w i) + 1 else 0) ≤ 3000 then x + leadV ν t G hi (w i) g + (if ν 317 (w i) ≤ 3 then ν 316 (w i) + 1 else 0) else -1)
theorem pullW_p {w n : Int} (h1 : 0 ≤ w) (h2 : w ≤ 99) (h3 : 0 ≤ n) (h4 : n ≤ 200) : 0 ≤ pullW w n ∧ pullW w n ≤ 1981 := by
  have := pullW_b h1 h2 h3 h4
  unfold pullW
  generalize w * n = z at this
  omega
theorem cut_b {a m : Int} (h0 : 0 ≤ a) (h1 : a ≤ 19800) (hm : 1 ≤ m) (hm2 : m ≤ 200) : 0 ≤ (a + m - 1) / m ∧ (a + m - 1) / m ≤ 20000 := by
  refine ⟨Int.ediv_nonneg (by omega) (by omega), ?_⟩
  exact Int.le_trans (Int.ediv_le_self m (by omega)) (by omega)
theorem leadV_b {μ ν : Mem} {t : Nat → Int} {G hi : Int} {k g : Nat} (ht : ∀ i : Nat, i < 9 → 1 ≤ t i ∧ t i ≤ 200) (hw : 1 ≤ ν 315 k ∧ ν 315 k ≤ 99) (hm : (g : Int) < G → 1 ≤ ν 301 g ∧ ν 301 g ≤ 200) : -1 ≤ leadV ν t G hi k g ∧ leadV ν t G hi k g ≤ 30000 := by
  unfold leadV
  have t4 := ht 4 (by decide)
  have t5 := ht 5 (by decide)
  split
  · next h =>
    have hg := hm h.1.1
    have := cut_b (a := ν 315 k * t 4) (m := ν 301 g) (pullW_b (by omega) hw.2 (by omega) t4.2).1 (pullW_b (by omega) hw.2 (by omega) t4.2).2 hg.1 hg.2
    split <;> split <;> omega
  · omega
set_option maxHeartbeats 4000000 in
theorem c_leadOf {μ ν : Mem} (hs : Isite2 μ ν) (ht : Itab (μ 17) (ν 312)) {k : Nat} (hk : (k : Int) < μ 6 6) {g : Nat} (hg6 : g < 6) : ∃ x, f_X3_gangAt μ (g : Int) = some (x, μ) ∧ f_X1_leadOf μ (100 + (k : Int)) x = some (leadV ν (μ 17) (μ 6 5) (μ 6 8) k g, μ) := by
  have hN := sN_of hs
  have n0 := sN_n hN
  obtain ⟨s0, s1, s2, s3, s4, s5, s6, s7, s8, s9, s10, s11, s12, s13, s14⟩ := sN_s hN k hk
  by_cases hg : (g : Int) < μ 6 5
  case neg =>
    refine ⟨-1, e_gangAt_n hs (by omega), ?_⟩
    unfold f_X1_leadOf leadV
    rw [if_pos (by decide), if_neg (fun x => hg x.1.1)]
  obtain ⟨z0, z1, z2, z3, z4, z5, z6, z7, z8, z9, z10, z11, z12, z13, z14, z15⟩ := sN_g hN g hg
  refine ⟨200 + (g : Int), by rw [n_gangAt hN (by omega) hg]; rfl, ?_⟩
  have t0 := ht 0 (by decide)
  have t2 := ht 2 (by decide)
  have t4 := ht 4 (by decide)
  have t5 := ht 5 (by decide)
  have p0 : f_X6_pullOfWeight μ (ν 315 k) 0 = some (pullW (ν 315 k) (μ 17 0), μ) := e_pullOfWeight s6 s7 (by decide) (by decide) ⟨t0.2.1, t0.2.2.1⟩
  have p2 : f_X6_pullOfWeight μ (ν 315 k) 2 = some (pullW (ν 315 k) (μ 17 2), μ) := e_pullOfWeight s6 s7 (by decide) (by decide) ⟨t2.2.1, t2.2.2.1⟩
  have b0 := pullW_p (w := ν 315 k) (n := μ 17 0) (by omega) s7 (by omega) (by omega)
  have b2 := pullW_p (w := ν 315 k) (n := μ 17 2) (by omega) s7 (by omega) (by omega)
  have u4 : f_X6_numberAt μ 4 = some (μ 17 4, μ) := e_numberAt (by decide) (by decide)
  have u5 : f_X6_numberAt μ 5 = some (μ 17 5, μ) := e_numberAt (by decide) (by decide)
  have hmul := pullW_b (w := ν 315 k) (n := μ 17 4) (by omega) s7 (by omega) (by omega)
  have hcut := cut_b (a := ν 315 k * μ 17 4) (m := ν 301 g) hmul.1 hmul.2 z6 z7
  have mw : f_X1_menWanted μ (100 + (k : Int)) = some (if ν 317 k ≤ 3 then (if pullW (ν 315 k) (μ 17 0) < pullW (ν 315 k) (μ 17 2) then pullW (ν 315 k) (μ 17 2) else pullW (ν 315 k) (μ 17 0)) else pullW (ν 315 k) (μ 17 0), μ) := by
    unfold f_X1_menWanted f_J9_max_7cf53
    rw [if_pos (by omega)]
    simp only [tn100, s1]
    rw [p0, bd_some, if_pos (by omega)]
    simp only [s3, s1]
    by_cases c : 3 < ν 317 k
    · rw [if_pos c, if_neg (by omega), bd_some, if_neg (by omega)]
    · rw [if_neg c, p2, bd_some, if_pos (show ν 317 k ≤ 3 by omega)]
      by_cases c2 : pullW (ν 315 k) (μ 17 0) < pullW (ν 315 k) (μ 17 2)
      · rw [if_pos c2, bd_some, if_pos c2]
      · rw [if_neg c2, bd_some, if_neg c2]
  have l82 : ∀ v : Int, 0 ≤ v → v ≤ 30000 → f_X1_leadOf_82 (100 + (k : Int)) v μ = some (v + (if ν 317 k ≤ 1 then μ 17 5 else 0), μ) := by
    intro v v0 v1
    unfold f_X1_leadOf_82
    rw [if_pos (by omega)]
    simp only [tn100, s3]
    by_cases c : 1 < ν 317 k
    · rw [if_pos c, if_neg (by omega), Int.add_zero]
    · rw [if_neg c, u5, bd_some, if_pos (by omega), if_pos (by omega)]
  have l50 : f_X1_leadOf_50 (100 + (k : Int)) (200 + (g : Int)) μ = some ((if ν 317 k = 0 then (ν 315 k * μ 17 4 + ν 301 g - 1) / ν 301 g else 0) + (if ν 317 k ≤ 1 then μ 17 5 else 0), μ) := by
    unfold f_X1_leadOf_50
    rw [if_pos (by omega)]
    simp only [tn100, tn200, s3, s1]
    by_cases c : 0 < ν 317 k
    · rw [if_pos c, if_neg (by omega), l82 0 (by omega) (by omega)]
    · have e0 : ν 317 k = 0 := by omega
      rw [if_neg c, if_pos e0, u4, bd_some, if_pos (by omega), if_pos (by omega), z1]
      unfold f_X10_upwards
      rw [if_pos z6, if_pos (by omega), bd_some, zdiv_e (by omega) (by omega) (by omega) (by omega), if_pos (by omega), Int.zero_add, l82 _ hcut.1 (by omega)]
  unfold f_X1_leadOf leadV
  rw [if_neg (by omega), if_pos (by omega)]
  simp only [tn200, tn100, z2, z1]
  by_cases c1 : ν 302 g = -1
  case neg => rw [if_neg c1, if_neg (fun x => c1 x.1.2)]
  rw [if_pos c1, mw, bd_some, if_pos (by omega)]
  simp only [z1]
  by_cases c3 : ν 317 k ≤ 3
  · rw [if_pos c3]
    by_cases c2 : (if pullW (ν 315 k) (μ 17 0) < pullW (ν 315 k) (μ 17 2) then pullW (ν 315 k) (μ 17 2) else pullW (ν 315 k) (μ 17 0)) ≤ ν 301 g
    · have c2' : pullW (ν 315 k) (μ 17 0) ≤ ν 301 g ∧ pullW (ν 315 k) (μ 17 2) ≤ ν 301 g := by
        split at c2 <;> omega
      rw [if_pos c2, if_pos (by omega)]
      simp only [s3, s2]
      rw [if_neg (by omega)]
      by_cases c4 : ν 316 k < μ 6 8
      · rw [if_pos c4, l50, if_pos (show (((g : Int) < μ 6 5 ∧ ν 302 g = -1) ∧ (pullW (ν 315 k) (μ 17 0) ≤ ν 301 g ∧ (3 < ν 317 k ∨ (pullW (ν 315 k) (μ 17 2) ≤ ν 301 g ∧ ν 316 k < μ 6 8)))) from ⟨⟨hg, c1⟩, c2'.1, Or.inr ⟨c2'.2, c4⟩⟩)]
      · rw [if_neg c4, if_neg]
        rintro ⟨-, -, x | x⟩
        · omega
        · exact c4 x.2
    · have c2' : ¬ (pullW (ν 315 k) (μ 17 0) ≤ ν 301 g ∧ pullW (ν 315 k) (μ 17 2) ≤ ν 301 g) := by
        split at c2 <;> omega
      rw [if_neg c2, if_neg]
      rintro ⟨-, x0, x | x⟩
      · omega
      · exact c2' ⟨x0, x.1⟩
  · rw [if_neg c3]
    by_cases c2 : pullW (ν 315 k) (μ 17 0) ≤ ν 301 g
    · rw [if_pos c2, if_pos (by omega)]
      simp only [s3]
      rw [if_pos (by omega), l50, if_pos (show (((g : Int) < μ 6 5 ∧ ν 302 g = -1) ∧ (pullW (ν 315 k) (μ 17 0) ≤ ν 301 g ∧ (3 < ν 317 k ∨ (pullW (ν 315 k) (μ 17 2) ≤ ν 301 g ∧ ν 316 k < μ 6 8)))) from ⟨⟨hg, c1⟩, c2, Or.inl (by omega)⟩)]
    · rw [if_neg c2, if_neg (fun x => c2 x.2.1)]
