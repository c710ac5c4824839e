/-! THE PLAN, the class: what the search rests on -/
def fS2 (μ κ : Mem) : Prop := (∀ a, a ≠ 26 → a ≠ 27 → a ≠ 28 → a ≠ 29 → a ≠ 30 → a ≠ 7 → κ a = μ a) ∧ (∀ j, j ≠ 14 → j ≠ 15 → κ 7 j = μ 7 j)
/-- all that stands when the works are prepared -/
def PR (ν : Mem) (w : Nat → Nat) (n : Nat) (μ : Mem) : Prop :=
  Isite2 μ ν ∧ Itab (μ 17) (ν 312) ∧ Ispell (μ 1 3) (ν 300 4) (μ 9) (μ 10) (μ 11) (ν 308) (ν 309) (ν 310) ∧ Iruns (μ 1 3) (μ 9) (μ 10) (μ 11) (μ 1 6) (μ 12) (μ 13) ∧ (μ 7 5 = (n : Int) ∧ 1 ≤ n ∧ n ≤ 5) ∧ (∀ j, j < n → μ 21 j = 100 + (w j : Int) ∧ (w j : Int) < μ 6 6 ∧ ν 317 (w j) < 5) ∧ pI ν (μ 17) (μ 6 5) (μ 6 8) w n n μ
def Hd (μ : Mem) (d : Int) : Prop := isOnP (μ 1 3) (μ 9) (μ 10) (μ 11) 0 d
section PP
variable {ν μ : Mem} {w : Nat → Nat} {n : Nat}
theorem Hd_b (h : PR ν w n μ) : ∀ d, Hd μ d → 0 ≤ d ∧ d ≤ 3000 := by
  obtain ⟨-, -, ⟨-, -, -, p4⟩, -⟩ := h
  rintro d ⟨i, i1, i2, i3, i4⟩
  have := p4 i i1
  omega
noncomputable def rdyM (ν : Mem) (w : Nat → Nat) (μ : Mem) : Nat → Nat → Int → Int := rdyV ν (μ 17) (μ 6 5) (μ 6 8) (Hd μ) w
def crsM (ν : Mem) (w : Nat → Nat) : Nat → Int := fun i => ν 316 (w i)
theorem lead_b (h : PR ν w n μ) {i g : Nat} (hi : i < n) : -1 ≤ leadV ν (μ 17) (μ 6 5) (μ 6 8) (w i) g ∧ leadV ν (μ 17) (μ 6 5) (μ 6 8) (w i) g ≤ 30000 := by
  obtain ⟨hs, ht, -, -, -, h21, -⟩ := h
  have hN := sN_of hs
  obtain ⟨b1, b2, -⟩ := h21 i hi
  obtain ⟨-, -, -, -, -, -, s6, s7, -⟩ := sN_s hN (w i) b2
  exact leadV_b (μ := μ) (fun j hj => by have := ht j hj; omega) ⟨s6, s7⟩ (fun hg => by
    obtain ⟨-, -, -, -, -, -, z6, z7, -⟩ := sN_g hN g hg
    exact ⟨z6, z7⟩)
theorem c_ready (h : PR ν w n μ) {κ : Mem} (hf : fS2 μ κ) (hb : bndS n κ) {i g : Nat} (hi : i < n) (hg : g < 6) : f_X1_readyDay κ (i : Int) (g : Int) = some (rdyM ν w μ i g (κ 30 g), κ) := by
  have h0 := h
  obtain ⟨hs, ht, hsp, hru, ⟨h75, hn1, hn5⟩, h21, hp⟩ := h
  have hN := sN_of hs
  have n0 := sN_n hN
  obtain ⟨b1, b2, b3⟩ := h21 i hi
  obtain ⟨s0, s1, s2, s3, s4, s5, s6, s7, s8, s9, s10, s11, s12, s13, s14⟩ := sN_s hN (w i) b2
  obtain ⟨p1, p2, p3, p4⟩ := hp i hi
  have C : ∀ a, a ≠ 26 ∧ a ≠ 27 ∧ a ≠ 28 ∧ a ≠ 29 ∧ a ≠ 30 ∧ a ≠ 7 → κ a = μ a := fun a q => hf.1 a q.1 q.2.1 q.2.2.1 q.2.2.2.1 q.2.2.2.2.1 q.2.2.2.2.2
  have e21 : κ 21 i = 100 + (w i : Int) := by rw [C 21 (by decide)]; exact b1
  have e900 : κ 90 0 = μ 90 0 := by rw [C 90 (by decide)]
  have ew : κ (100 + w i) 2 = ν 317 (w i) := by rw [C _ (by omega)]; exact s3
  have e40 : κ (40 + i) g = leadV ν (μ 17) (μ 6 5) (μ 6 8) (w i) g := by rw [C _ (by omega)]; exact p4 g hg
  have e24 : κ 24 i = (if ν 317 (w i) ≤ 3 then ν 316 (w i) + 1 else 0) := by rw [C 24 (by decide)]; exact p1
  have lb := lead_b h0 hi (g := g)
  have hF := hb.1 g hg
  have t6 := ht 6 (by decide)
  have r80 : ∀ v : Int, 0 ≤ v → v ≤ 100000 → f_X1_readyDay_80 (i : Int) v κ = some (if v + (if ν 317 (w i) ≤ 3 then ν 316 (w i) + 1 else 0) ≤ 3000 then v + (if ν 317 (w i) ≤ 3 then ν 316 (w i) + 1 else 0) else -1, κ) := by
    intro v v0 v1
    unfold f_X1_readyDay_80
    rw [if_pos (by omega), Int.toNat_natCast, e24]
    have hx : 0 ≤ (if ν 317 (w i) ≤ 3 then ν 316 (w i) + 1 else 0) ∧ (if ν 317 (w i) ≤ 3 then ν 316 (w i) + 1 else 0) ≤ 10 := by
      split <;> omega
    generalize (if ν 317 (w i) ≤ 3 then ν 316 (w i) + 1 else 0) = z at hx
    rw [if_pos (by omega)]
    by_cases c : v + z ≤ 3000
    · rw [if_pos c, if_pos c]
    · rw [if_neg c, if_neg c]
  unfold f_X1_readyDay
  rw [if_pos (by omega), if_pos (by omega)]
  simp only [Int.toNat_natCast, tn40', e40, e21, tn100, ew]
  unfold rdyM rdyV
  generalize leadV ν (μ 17) (μ 6 5) (μ 6 8) (w i) g = L at lb
  generalize κ 30 g = x at hF
  by_cases c1 : L = -1
  · rw [if_pos c1, if_pos (Or.inr c1)]
  rw [if_neg c1, if_pos (by omega), if_neg (show ¬ (x < 0 ∨ L = -1) by omega)]
  by_cases c2 : 2 < ν 317 (w i)
  · rw [if_pos c2, if_pos (by omega), r80 _ (by omega) (by omega), if_neg (show ¬ ν 317 (w i) ≤ 2 by omega)]
  · have u6 : f_X6_numberAt κ 6 = some (μ 17 6, κ) := by
      have := e_numberAt (μ := κ) (i := 6) (by decide) (by decide)
      rw [C 17 (by decide)] at this
      exact this
    have e1 : κ 1 = μ 1 := C 1 (by decide)
    have e12 : κ 12 = μ 12 := C 12 (by decide)
    have e13 : κ 13 = μ 13 := C 13 (by decide)
    obtain ⟨u1, u2, u3, u4, u5⟩ := hru
    have hsp3 := hsp.2.2.1
    obtain ⟨RR, hRR⟩ : ∃ RR : Nat, μ 1 6 = (RR : Int) := ⟨(μ 1 6).toNat, by omega⟩
    rw [hRR] at u2 u3 u4 u5
    have hfar := runs_far (R := RR) (rf := μ 12) (rl := μ 13) (fun i hi => (u3 i (by omega)).2.1) (fun i hi => u4 i (by omega))
    obtain ⟨r, q1, q2⟩ := e_raft (μ := κ) (H := Hd μ) (RR := RR) (x := x + L) (L := μ 17 6) (by rw [e1]; exact hRR) (by omega) (fun j hj => by rw [e12, e13]; exact u3 j (by omega)) (fun a b hab hb2 => by rw [e12, e13]; exact hfar b a hab hb2) (fun d => by
      rw [e12, e13]
      unfold Hd
      rw [← u5 d]
      constructor
      · rintro ⟨j, j1, j2⟩; exact ⟨j, by omega, j2⟩
      · rintro ⟨j, j1, j2⟩; exact ⟨j, by omega, j2⟩) (by omega) (by omega) RR 64 0 (by omega) (by omega) (fun j hj => by omega)
    rw [show ((0 : Nat) : Int) = 0 from rfl] at q1
    have hr : r = rft (Hd μ) (μ 17 6) (x + L) := rftP_u q2 (rft_s (Hd_b h0) (by omega) (by omega))
    have hrb := rft_b (Hd_b h0) (show 1 ≤ μ 17 6 by omega) (show 0 ≤ x + L by omega)
    have q1' : f_X2_firstRaftDay κ (x + L) (μ 17 6) = some (r, κ) := q1
    rw [← hr] at hrb ⊢
    rw [if_neg c2, u6, bd_some, if_pos (by omega), q1', bd_some, if_pos (show ν 317 (w i) ≤ 2 by omega)]
    by_cases c3 : r = -1
    · rw [if_pos c3, if_pos c3]
    · rw [if_neg c3, if_neg c3, if_pos (by omega), r80 _ (by omega) (by omega), if_pos (show ν 317 (w i) ≤ 3 by omega)]
theorem rdy_b (h : PR ν w n μ) : ∀ i g x, i < n → (-1 ≤ rdyM ν w μ i g x ∧ rdyM ν w μ i g x ≤ 3000) ∧ (rdyM ν w μ i g x ≠ -1 → 0 ≤ x ∧ x ≤ rdyM ν w μ i g x) := by
  intro i g x hi
  have h0 := h
  have lb := lead_b h0 hi (g := g)
  obtain ⟨hs, ht, hsp, hru, -, h21, -⟩ := h
  have hN := sN_of hs
  obtain ⟨b1, b2, b3⟩ := h21 i hi
  obtain ⟨s0, s1, s2, s3, s4, s5, s6, s7, s8, s9, s10, s11, s12, s13, s14⟩ := sN_s hN (w i) b2
  have t6 := ht 6 (by decide)
  unfold rdyM rdyV
  generalize leadV ν (μ 17) (μ 6 5) (μ 6 8) (w i) g = L at lb
  by_cases c : x < 0 ∨ L = -1
  · rw [if_pos c]
    exact ⟨by omega, fun z => absurd rfl z⟩
  rw [if_neg c]
  by_cases c2 : ν 317 (w i) ≤ 2
  · have hrb := rft_b (Hd_b h0) (show 1 ≤ μ 17 6 by omega) (show 0 ≤ x + L by omega)
    rw [if_pos c2]
    generalize rft (Hd μ) (μ 17 6) (x + L) = r at hrb
    by_cases c3 : r = -1
    · rw [if_pos c3]
      exact ⟨by omega, fun z => absurd rfl z⟩
    · rw [if_neg c3]
      split
      · omega
      · exact ⟨by omega, fun z => absurd rfl z⟩
  · rw [if_neg c2]
    have hx : 0 ≤ (if ν 317 (w i) ≤ 3 then ν 316 (w i) + 1 else 0) ∧ (if ν 317 (w i) ≤ 3 then ν 316 (w i) + 1 else 0) ≤ 10 := by
      split <;> omega
    generalize (if ν 317 (w i) ≤ 3 then ν 316 (w i) + 1 else 0) = z at hx
    split
    · omega
    · exact ⟨by omega, fun z => absurd rfl z⟩
theorem rdy_m (h : PR ν w n μ) : ∀ i g a b, i < n → 0 ≤ a → a ≤ b → rdyM ν w μ i g b ≠ -1 → rdyM ν w μ i g a ≠ -1 ∧ rdyM ν w μ i g a ≤ rdyM ν w μ i g b := by
  intro i g a b hi ha hab hn
  have h0 := h
  have lb := lead_b h0 hi (g := g)
  obtain ⟨hs, ht, hsp, hru, -, h21, -⟩ := h
  have hN := sN_of hs
  obtain ⟨b1, b2, b3⟩ := h21 i hi
  obtain ⟨s0, s1, s2, s3, s4, s5, s6, s7, s8, s9, s10, s11, s12, s13, s14⟩ := sN_s hN (w i) b2
  have t6 := ht 6 (by decide)
  unfold rdyM rdyV at hn ⊢
  generalize leadV ν (μ 17) (μ 6 5) (μ 6 8) (w i) g = L at lb hn
  by_cases c : b < 0 ∨ L = -1
  · rw [if_pos c] at hn
    exact absurd rfl hn
  rw [if_neg c] at hn ⊢
  rw [if_neg (show ¬ (a < 0 ∨ L = -1) by omega)]
  by_cases c2 : ν 317 (w i) ≤ 2
  · have hra := rft_b (Hd_b h0) (show 1 ≤ μ 17 6 by omega) (show 0 ≤ a + L by omega)
    rw [if_pos c2] at hn ⊢
    rw [if_pos c2]
    have hm := fun q => rft_m (Hd_b h0) (R := μ 17 6) (x := a + L) (y := b + L) (by omega) (by omega) (by omega) q
    generalize rft (Hd μ) (μ 17 6) (b + L) = rb at hn hm
    generalize rft (Hd μ) (μ 17 6) (a + L) = ra at hra hm
    by_cases c3 : rb = -1
    · rw [if_pos c3] at hn
      exact absurd rfl hn
    rw [if_neg c3] at hn ⊢
    have := hm c3
    rw [if_neg this.1]
    by_cases c4 : rb + μ 17 6 + (ν 316 (w i) + 1) ≤ 3000
    · rw [if_pos c4, if_pos (by omega)]
      omega
    · rw [if_neg c4] at hn
      exact absurd rfl hn
  · rw [if_neg c2] at hn ⊢
    rw [if_neg c2]
    have hx : 0 ≤ (if ν 317 (w i) ≤ 3 then ν 316 (w i) + 1 else 0) ∧ (if ν 317 (w i) ≤ 3 then ν 316 (w i) + 1 else 0) ≤ 10 := by
      split <;> omega
    generalize (if ν 317 (w i) ≤ 3 then ν 316 (w i) + 1 else 0) = z at hx hn
    by_cases c4 : b + L + z ≤ 3000
    · rw [if_pos c4, if_pos (by omega)]
      omega
    · rw [if_neg c4] at hn
      exact absurd rfl hn
theorem layTo_neg {crs Y : Nat → Int} {i : Nat} {d : Int} : ∀ (m k : Nat), layTo crs Y i k d = -1 → layTo crs Y i (k + m) d = -1
  | 0, k, h => h
  | m + 1, k, h => by
    show (if layTo crs Y i (k + m) d = -1 then -1 else _) = -1
    rw [if_pos (layTo_neg m k h)]
theorem layTo_e {crs Y : Nat → Int} {i k : Nat} {d : Int} : layTo crs Y i (k + 1) d = if layTo crs Y i k d = -1 then -1 else if crs k < crs i then (if Y k = -1 ∨ 3000 ≤ Y k then -1 else if layTo crs Y i k d < Y k + 1 then Y k + 1 else layTo crs Y i k d) else layTo crs Y i k d := rfl
theorem c_lay10 (h : PR ν w n μ) {κ : Mem} (hf : fS2 μ κ) (hb : bndS n κ) {i : Nat} (hi : i < n) {d : Int} (hd : -1 ≤ d ∧ d ≤ 3000) : ∀ (e m j : Nat), j + e = n → e < m → f_X1_layDay_10 m (i : Int) (layTo (crsM ν w) (κ 29) i j d) (j : Int) κ = some (layTo (crsM ν w) (κ 29) i n d, κ)
  | 0, m + 1, j, h1, h2 => by
    obtain ⟨-, -, -, -, ⟨h75, hn1, hn5⟩, -⟩ := h
    have e75 : κ 7 5 = (n : Int) := by rw [hf.2 5 (by decide) (by decide)]; exact h75
    rw [f_X1_layDay_10_e, if_pos (by omega), show n = j by omega]
  | e + 1, m + 1, j, h1, h2 => by
    have ih := c_lay10 h hf hb hi hd e m (j + 1) (by omega) (by omega)
    obtain ⟨-, -, -, -, ⟨h75, hn1, hn5⟩, -, hp⟩ := h
    have e75 : κ 7 5 = (n : Int) := by rw [hf.2 5 (by decide) (by decide)]; exact h75
    obtain ⟨p1, p2, ⟨m1, m2, m3⟩, p4⟩ := hp i hi
    have e25 : κ 25 = μ 25 := hf.1 25 (by decide) (by decide) (by decide) (by decide) (by decide) (by decide)
    have hY := hb.2.1 j (by omega)
    have hY2 := hb.2.2 j (by omega)
    have hc := layTo_c (crs := crsM ν w) (Y := κ 29) (i := i) (d := d) hd.1 j (fun x hx => hb.2.1 x (by omega))
    rw [f_X1_layDay_10_e, if_neg (by omega)]
    by_cases c1 : layTo (crsM ν w) (κ 29) i j d = -1
    · have := layTo_neg (crs := crsM ν w) (Y := κ 29) (i := i) (d := d) (n - j) j c1
      rw [show j + (n - j) = n by omega] at this
      rw [if_pos c1, c1, this]
    rw [if_neg c1, if_pos (by omega), Int.toNat_natCast, e25]
    rw [layTo_e, if_neg c1] at ih
    rw [show ((j + 1 : Nat) : Int) = (j : Int) + 1 by omega] at ih
    have hlb : layTo (crsM ν w) (κ 29) i j d ≤ 3001 ∧ -1 ≤ layTo (crsM ν w) (κ 29) i j d := by
      rcases hc with ⟨q, -⟩ | ⟨q1, q2, q3, q4, q5⟩
      · exact absurd q c1
      · rcases q5 with q5 | ⟨x, x1, x2, x3⟩
        · omega
        · have := hb.2.2 x (by omega)
          omega
    by_cases c2 : crsM ν w j < crsM ν w i
    · rw [if_pos c2] at ih
      rw [if_neg (msk_t m1 m2 (by omega) ((m3 j).mpr ⟨by omega, c2⟩)), if_pos (by omega), Int.toNat_natCast]
      by_cases c3 : κ 29 j = -1
      · have e1 : layTo (crsM ν w) (κ 29) i (j + 1) d = -1 := by rw [layTo_e, if_neg c1, if_pos c2, if_pos (Or.inl c3)]
        have := layTo_neg (crs := crsM ν w) (Y := κ 29) (i := i) (d := d) (n - (j + 1)) (j + 1) e1
        rw [show j + 1 + (n - (j + 1)) = n by omega] at this
        rw [if_pos c3, this]
      rw [if_neg c3]
      by_cases c4 : κ 29 j < 3000
      · rw [if_neg (show ¬ (κ 29 j = -1 ∨ 3000 ≤ κ 29 j) by omega)] at ih
        rw [if_pos c4, if_pos (by omega)]
        unfold f_J9_max_7cf53
        by_cases c5 : layTo (crsM ν w) (κ 29) i j d < κ 29 j + 1
        · rw [if_pos c5] at ih
          rw [if_pos c5, bd_some, if_pos (by omega), ih]
        · rw [if_neg c5] at ih
          rw [if_neg c5, bd_some, if_pos (by omega), ih]
      · have e1 : layTo (crsM ν w) (κ 29) i (j + 1) d = -1 := by rw [layTo_e, if_neg c1, if_pos c2, if_pos (Or.inr (by omega))]
        have := layTo_neg (crs := crsM ν w) (Y := κ 29) (i := i) (d := d) (n - (j + 1)) (j + 1) e1
        rw [show j + 1 + (n - (j + 1)) = n by omega] at this
        rw [if_neg c4, this]
    · rw [if_neg c2] at ih
      rw [if_pos (msk_f m1 m2 (by omega) (fun x => c2 ((m3 j).mp x).2)), if_pos (by omega), ih]
/-- the class's search rests on this -/
noncomputable def rdyZ (ν : Mem) (w : Nat → Nat) (n : Nat) (μ : Mem) (i g : Nat) (x : Int) : Int := if i < n then rdyM ν w μ i g x else -1
theorem sr_of (h : PR ν w n μ) {μ' : Mem} (hf : fS2 μ μ') : Sr n (rdyZ ν w n μ) (crsM ν w) μ' := by
  have h0 := h
  obtain ⟨hs, ht, hsp, hru, ⟨h75, hn1, hn5⟩, h21, hp⟩ := h
  have hN := sN_of hs
  have n0 := sN_n hN
  have tr : ∀ κ, fS μ' κ → fS2 μ κ := fun κ k => ⟨fun a a1 a2 a3 a4 a5 a6 => (k.1 a a1 a2 a3 a4 a5 a6).trans (hf.1 a a1 a2 a3 a4 a5 a6), fun j j1 j2 => (k.2 j j1).trans (hf.2 j j1 j2)⟩
  refine ⟨⟨by rw [hf.2 5 (by decide) (by decide)]; exact h75, hn1, hn5⟩, fun i g x => ?_, fun κ hk hb i g hi hg => ?_, fun κ hk i m hi m1 m2 => ?_, fun κ hk i p k hi hp1 k1 k2 k3 => ?_⟩
  · unfold rdyZ
    by_cases c : i < n
    · rw [if_pos c]; exact (rdy_b h0 i g x c).1
    · rw [if_neg c]; omega
  · have hrb := (rdy_b h0 i g (κ 30 g) hi).1
    have q := c_lay10 h0 (tr κ hk) hb hi hrb n 64 0 (by omega) (by omega)
    rw [show ((0 : Nat) : Int) = 0 from rfl, show layTo (crsM ν w) (κ 29) i 0 (rdyM ν w μ i g (κ 30 g)) = rdyM ν w μ i g (κ 30 g) from rfl] at q
    unfold f_X1_layDay layPd rdyZ
    rw [c_ready h0 (tr κ hk) hb hi hg, bd_some, if_pos hi, q]
  · obtain ⟨p1, p2, ⟨q1, q2, q3⟩, p4⟩ := hp i hi
    have e25 : κ 25 = μ 25 := (tr κ hk).1 25 (by decide) (by decide) (by decide) (by decide) (by decide) (by decide)
    have hz := msk_sub q1 q2 m1 m2
    unfold f_X1_mayComeNext
    by_cases c1 : mskP m i
    · rw [if_neg (msk_t m1 m2 (by omega) c1), b2i_f (fun x => x.1 c1)]
    · rw [if_pos (msk_f m1 m2 (by omega) c1), if_pos (by omega), Int.toNat_natCast, e25]
      by_cases c2 : ∀ j, mskP (μ 25 i) j → mskP m j
      · rw [if_pos (hz.mpr c2), b2i_t ⟨c1, fun j hj hc => c2 j ((q3 j).mpr ⟨hj, hc⟩)⟩]
      · rw [if_neg (fun x => c2 (hz.mp x)), b2i_f (fun x => c2 (fun j hj => x.2 j ((q3 j).mp hj).1 ((q3 j).mp hj).2))]
  · have F := tr κ hk
    have e75 : κ 7 5 = (n : Int) := by rw [F.2 5 (by decide) (by decide)]; exact h75
    have C : ∀ a, a ≠ 26 ∧ a ≠ 27 ∧ a ≠ 28 ∧ a ≠ 29 ∧ a ≠ 30 ∧ a ≠ 7 → κ a = μ a := fun a q => F.1 a q.1 q.2.1 q.2.2.1 q.2.2.2.1 q.2.2.2.2.1 q.2.2.2.2.2
    have e900 : κ 90 0 = μ 90 0 := by rw [C 90 (by decide)]
    obtain ⟨a1, a2, a3⟩ := h21 i hi
    obtain ⟨b1, b2, b3⟩ := h21 p hp1
    have ei : κ (100 + w i) 1 = ν 316 (w i) := by rw [C _ (by omega)]; exact (sN_s hN (w i) a2).2.2.1
    have ep : κ (100 + w p) 1 = ν 316 (w p) := by rw [C _ (by omega)]; exact (sN_s hN (w p) b2).2.2.1
    have e21i : κ 21 i = 100 + (w i : Int) := by rw [C 21 (by decide)]; exact a1
    have e21p : κ 21 p = 100 + (w p : Int) := by rw [C 21 (by decide)]; exact b1
    unfold f_X1_leastTaker crsM
    rw [if_neg (by omega), if_pos (by omega), if_pos (by omega), show ((k : Int) - 1).toNat = k - 1 by omega, k3, if_pos (by omega)]
    simp only [Int.toNat_natCast, e21p, e21i, tn100, ei, ep]
    rw [if_pos (by omega), if_pos (by omega), if_pos (by omega)]
    by_cases c : ν 316 (w p) = ν 316 (w i)
    · rw [if_pos c, if_pos c]
    · rw [if_neg c, if_neg c]
/-- the floor -/
theorem e_floor1 (h : PR ν w n μ) {k7 : Int → Mem → Option (Int × Mem)} {κ : Mem} (hf : fS2 μ κ) (hb : bndS n κ) {i : Nat} (hi : i < n) : ∀ (e m g : Nat) (s : Int), g + e = 6 → e < m → 0 ≤ s → s ≤ 3001 → ∃ s', f_X1_findFloor_21 k7 m (i : Int) s (g : Int) κ = k7 ((i : Int) + 1) (up κ 7 15 (if κ 7 15 < s' then s' else κ 7 15)) ∧ 0 ≤ s' ∧ s' ≤ s ∧ (s' = s ∨ ∃ g', g' < 6 ∧ rdyM ν w μ i g' (κ 30 g') = s') ∧ (∀ g', g ≤ g' → g' < 6 → rdyM ν w μ i g' (κ 30 g') ≠ -1 → s' ≤ rdyM ν w μ i g' (κ 30 g'))
  | 0, m + 1, g, s, h1, h2, h3, h4 => by
    have hn5 := h.2.2.2.2.1.2.2
    refine ⟨s, ?_, h3, Int.le_refl _, Or.inl rfl, fun g' q1 q2 => by omega⟩
    rw [f_X1_findFloor_21_e, if_pos (by omega)]
    unfold f_J9_max_7cf53
    by_cases c : κ 7 15 < s
    · rw [if_pos c, bd_some, lm_e, if_pos (by omega), if_pos c]
    · rw [if_neg c, bd_some, lm_e, if_pos (by omega), if_neg c]
  | e + 1, m + 1, g, s, h1, h2, h3, h4 => by
    have hr := (rdy_b h i g (κ 30 g) hi)
    rw [f_X1_findFloor_21_e, if_neg (by omega), c_ready h hf hb hi (by omega), bd_some]
    by_cases c1 : rdyM ν w μ i g (κ 30 g) = -1
    · obtain ⟨s', q1, q2, q3, q4, q5⟩ := e_floor1 h (k7 := k7) hf hb hi e m (g + 1) s (by omega) (by omega) h3 h4
      refine ⟨s', ?_, q2, q3, q4, fun g' x1 x2 x3 => ?_⟩
      · rw [if_pos c1, if_pos (by omega), show (g : Int) + 1 = ((g + 1 : Nat) : Int) by omega, q1]
      · by_cases eg : g' = g
        · rw [eg] at x3; exact absurd c1 x3
        · exact q5 g' (by omega) x2 x3
    rw [if_neg c1]
    unfold f_J9_min_7cf53
    by_cases c2 : rdyM ν w μ i g (κ 30 g) < s
    · obtain ⟨s', q1, q2, q3, q4, q5⟩ := e_floor1 h (k7 := k7) hf hb hi e m (g + 1) (rdyM ν w μ i g (κ 30 g)) (by omega) (by omega) (by omega) (by omega)
      refine ⟨s', ?_, q2, by omega, ?_, fun g' x1 x2 x3 => ?_⟩
      · rw [if_pos c2, bd_some, if_pos (by omega), show (g : Int) + 1 = ((g + 1 : Nat) : Int) by omega, q1]
      · rcases q4 with q4 | q4
        · exact Or.inr ⟨g, by omega, q4.symm⟩
        · exact Or.inr q4
      · by_cases eg : g' = g
        · rw [eg]; exact q3
        · exact q5 g' (by omega) x2 x3
    · obtain ⟨s', q1, q2, q3, q4, q5⟩ := e_floor1 h (k7 := k7) hf hb hi e m (g + 1) s (by omega) (by omega) h3 h4
      refine ⟨s', ?_, q2, q3, q4, fun g' x1 x2 x3 => ?_⟩
      · rw [if_neg c2, bd_some, if_pos (by omega), show (g : Int) + 1 = ((g + 1 : Nat) : Int) by omega, q1]
      · by_cases eg : g' = g
        · rw [eg]; omega
        · exact q5 g' (by omega) x2 x3
theorem e_floor2 (h : PR ν w n μ) : ∀ (e m i : Nat) (κ : Mem), i + e = n → e < m → fS2 μ κ → bndS n κ → 0 ≤ κ 7 15 → ∃ (fl : Int), f_X1_findFloor_7 m (i : Int) κ = some (if 3000 < fl then 0 else 1, up κ 7 15 fl) ∧ κ 7 15 ≤ fl ∧ (∀ D, κ 7 15 ≤ D → (∀ i', i ≤ i' → i' < n → ∃ g, g < 6 ∧ rdyM ν w μ i' g (κ 30 g) ≠ -1 ∧ rdyM ν w μ i' g (κ 30 g) ≤ D) → fl ≤ D) ∧ (κ 7 15 ≤ 3000 → 3000 < fl → ∃ i', i ≤ i' ∧ i' < n ∧ ∀ g, g < 6 → rdyM ν w μ i' g (κ 30 g) = -1)
  | 0, m + 1, i, κ, h1, h2, h3, h4, h5 => by
    have e75 : κ 7 5 = (n : Int) := by rw [h3.2 5 (by decide) (by decide)]; exact h.2.2.2.2.1.1
    refine ⟨κ 7 15, ?_, Int.le_refl _, fun D hD _ => hD, fun a b => by omega⟩
    rw [f_X1_findFloor_7_e, if_pos (by omega), up_id]
    by_cases c : 3000 < κ 7 15
    · rw [if_pos c, if_pos c]
    · rw [if_neg c, if_neg c]
  | e + 1, m + 1, i, κ, h1, h2, h3, h4, h5 => by
    have e75 : κ 7 5 = (n : Int) := by rw [h3.2 5 (by decide) (by decide)]; exact h.2.2.2.2.1.1
    obtain ⟨s, q1, q2, q3, q4, q5⟩ := e_floor1 h (k7 := f_X1_findFloor_7 m) h3 h4 (i := i) (by omega) 6 64 0 3001 rfl (by decide) (by decide) (by decide)
    rw [show ((0 : Nat) : Int) = 0 from rfl] at q1
    have hf' : fS2 μ (up κ 7 15 (if κ 7 15 < s then s else κ 7 15)) := ⟨fun a a1 a2 a3 a4 a5 a6 => by rw [up_ne a6]; exact h3.1 a a1 a2 a3 a4 a5 a6, fun j j1 j2 => by rw [up_at, upf_ne j2]; exact h3.2 j j1 j2⟩
    have e15 : up κ 7 15 (if κ 7 15 < s then s else κ 7 15) 7 15 = (if κ 7 15 < s then s else κ 7 15) := by rw [up_at, upf_same]
    have e30 : up κ 7 15 (if κ 7 15 < s then s else κ 7 15) 30 = κ 30 := up_ne (by decide)
    obtain ⟨fl, w1, w2, w3, w4⟩ := e_floor2 h e m (i + 1) _ (by omega) (by omega) hf' (by unfold bndS; simp (disch := omega) only [bd_some, lm_e, if_pos, if_neg, up_ne, up_at, upf_same, upf_ne, reduceIte, or_true, true_or, Int.reduceToNat, Int.toNat_natCast, tn100, tn200]; exact h4) (by rw [e15]; split <;> omega)
    rw [e15, e30] at w3 w4
    rw [e15] at w2
    have hmx : κ 7 15 ≤ (if κ 7 15 < s then s else κ 7 15) ∧ s ≤ (if κ 7 15 < s then s else κ 7 15) ∧ ((if κ 7 15 < s then s else κ 7 15) = κ 7 15 ∨ (if κ 7 15 < s then s else κ 7 15) = s) := by
      split <;> omega
    refine ⟨fl, ?_, by omega, fun D hD hall => ?_, fun a b => ?_⟩
    · rw [f_X1_findFloor_7_e, if_neg (by omega), q1, show (i : Int) + 1 = ((i + 1 : Nat) : Int) by omega, w1, up_up]
    · refine w3 D ?_ (fun i' x1 x2 => hall i' (by omega) x2)
      obtain ⟨g, g1, g2, g3⟩ := hall i (Nat.le_refl i) (by omega)
      have := q5 g (Nat.zero_le _) g1 g2
      omega
    · by_cases c : s ≤ 3000
      · obtain ⟨i', x1, x2, x3⟩ := w4 (by omega) b
        exact ⟨i', by omega, x2, x3⟩
      · refine ⟨i, Nat.le_refl i, by omega, fun g hg => ?_⟩
        by_cases z : rdyM ν w μ i g (κ 30 g) = -1
        · exact z
        · have a1 := q5 g (Nat.zero_le _) hg z
          have a2 := (rdy_b h i g (κ 30 g) (by omega)).1
          omega
end PP
