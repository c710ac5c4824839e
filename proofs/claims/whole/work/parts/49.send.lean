/-! SEND -/
def lacks (S : Int) (c s : Nat → Int) (k : Nat) (v : Int) : Prop := ∃ i : Nat, v ≤ (i : Int) ∧ (i : Int) < S ∧ c i < c k ∧ s i < 5
theorem lacks_s {S : Int} {c s : Nat → Int} {k : Nat} {v : Int} (h0 : 0 ≤ v) (h : ¬ (c v.toNat < c k ∧ s v.toNat < 5)) : lacks S c s k v ↔ lacks S c s k (v + 1) := by
  constructor
  · rintro ⟨i, i1, i2, i3, i4⟩
    refine ⟨i, ?_, i2, i3, i4⟩
    by_cases e : (i : Int) = v
    · exfalso; apply h; rw [← e, Int.toNat_natCast]; exact ⟨i3, i4⟩
    · omega
  · rintro ⟨i, i1, i2⟩
    exact ⟨i, by omega, i2⟩
theorem lacks_t {S : Int} {c s : Nat → Int} {k : Nat} {v : Int} (h0 : 0 ≤ v) (h1 : v < S) (h : c v.toNat < c k ∧ s v.toNat < 5) : lacks S c s k v := ⟨v.toNat, by omega, by omega, h⟩
theorem lacks_e {S : Int} {c s : Nat → Int} {k : Nat} {v : Int} (h : S ≤ v) : ¬ lacks S c s k v := by
  rintro ⟨i, i1, i2, -⟩; omega
theorem e_waits_2 {N : Int} {μ ν : Mem} (h : sN N μ ν) (k : Nat) (hk : (k : Int) < μ 6 6) : ∀ (d n : Nat) (v : Int), 0 ≤ v → v + (d : Int) = μ 6 6 → d < n → f_X3_waitsForLesser_2 n (100 + (k : Int)) v μ = some (b2i (lacks (μ 6 6) (ν 316) (ν 317) k v), μ)
  | 0, n + 1, v, h0, h1, h2 => by
    rw [f_X3_waitsForLesser_2_e, b2i_f (lacks_e (by omega))]
    simp (disch := omega) only [bd_some, lm_e, if_pos, if_neg, up_ne, up_at, upf_same, upf_ne, reduceIte, or_true, true_or, Int.reduceToNat, Int.toNat_natCast, tn100, tn200]
  | d + 1, n + 1, v, h0, h1, h2 => by
    have n0 := sN_n h
    have ih := e_waits_2 h k hk d n (v + 1) (by omega) (by omega) (by omega)
    obtain ⟨s0, s1, s2, s3, s4, s5, s6, s7, s8, s9, s10, s11, -⟩ := sN_s h v.toNat (by omega)
    obtain ⟨-, -, u2, -⟩ := sN_s h k hk
    rw [f_X3_waitsForLesser_2_e]
    unfold f_X4_isDone
    by_cases c1 : ν 316 v.toNat < ν 316 k
    · by_cases c2 : ν 317 v.toNat < 5
      · rw [b2i_t (lacks_t h0 (by omega) ⟨c1, c2⟩)]
        simp (disch := omega) only [s0, tn100, s2, u2, s3, bd_some, lm_e, if_pos, if_neg, up_ne, up_at, upf_same, upf_ne, reduceIte, or_true, true_or, Int.reduceToNat, Int.toNat_natCast, tn100, tn200]
      · rw [b2i_cong (lacks_s h0 (by omega))]
        by_cases c3 : ν 317 v.toNat = 5
        · simp (disch := omega) only [s0, tn100, s2, u2, s3, bd_some, lm_e, if_pos, if_neg, up_ne, up_at, upf_same, upf_ne, reduceIte, or_true, true_or, Int.reduceToNat, Int.toNat_natCast, tn100, tn200]
          exact ih
        · simp (disch := omega) only [s0, tn100, s2, u2, s3, bd_some, lm_e, if_pos, if_neg, up_ne, up_at, upf_same, upf_ne, reduceIte, or_true, true_or, Int.reduceToNat, Int.toNat_natCast, tn100, tn200]
          exact ih
    · rw [b2i_cong (lacks_s h0 (by omega))]
      simp (disch := omega) only [s0, tn100, s2, u2, s3, bd_some, lm_e, if_pos, if_neg, up_ne, up_at, upf_same, upf_ne, reduceIte, or_true, true_or, Int.reduceToNat, Int.toNat_natCast, tn100, tn200]
      exact ih
theorem e_lacks_1 {N : Int} {μ ν : Mem} (h : sN N μ ν) (k : Nat) (hk : (k : Int) < μ 6 6) : ∀ (d n : Nat) (v : Int), 0 ≤ v → v + (d : Int) = μ 6 6 → d < n → f_X11_lacksLesser_4 n (k : Int) 1 v ν = some (1, ν)
  | 0, n + 1, v, h0, h1, h2 => by
    have n0 := sN_n h
    rw [f_X11_lacksLesser_4_e]
    simp (disch := omega) only [bd_some, lm_e, if_pos, if_neg, up_ne, up_at, upf_same, upf_ne, reduceIte, or_true, true_or, Int.reduceToNat, Int.toNat_natCast, tn100, tn200]
  | d + 1, n + 1, v, h0, h1, h2 => by
    have n0 := sN_n h
    have ih := e_lacks_1 h k hk d n (v + 1) (by omega) (by omega) (by omega)
    rw [f_X11_lacksLesser_4_e]
    simp (disch := omega) only [ih, bd_some, lm_e, if_pos, if_neg, up_ne, up_at, upf_same, upf_ne, reduceIte, or_true, true_or, Int.reduceToNat, Int.toNat_natCast, tn100, tn200]
theorem e_lacks_4 {N : Int} {μ ν : Mem} (h : sN N μ ν) (k : Nat) (hk : (k : Int) < μ 6 6) : ∀ (d n : Nat) (v : Int), 0 ≤ v → v + (d : Int) = μ 6 6 → d < n → f_X11_lacksLesser_4 n (k : Int) 0 v ν = some (b2i (lacks (μ 6 6) (ν 316) (ν 317) k v), ν)
  | 0, n + 1, v, h0, h1, h2 => by
    have n0 := sN_n h
    rw [f_X11_lacksLesser_4_e, b2i_f (lacks_e (by omega))]
    simp (disch := omega) only [bd_some, lm_e, if_pos, if_neg, up_ne, up_at, upf_same, upf_ne, reduceIte, or_true, true_or, Int.reduceToNat, Int.toNat_natCast, tn100, tn200]
  | d + 1, n + 1, v, h0, h1, h2 => by
    have n0 := sN_n h
    have ih := e_lacks_4 h k hk d n (v + 1) (by omega) (by omega) (by omega)
    have i1 := e_lacks_1 h k hk d n (v + 1) (by omega) (by omega) (by omega)
    rw [f_X11_lacksLesser_4_e]
    by_cases c1 : ν 316 v.toNat < ν 316 k
    · by_cases c2 : ν 317 v.toNat < 5
      · rw [b2i_t (lacks_t h0 (by omega) ⟨c1, c2⟩)]
        simp (disch := omega) only [Int.toNat_natCast, i1, bd_some, lm_e, if_pos, if_neg, up_ne, up_at, upf_same, upf_ne, reduceIte, or_true, true_or, Int.reduceToNat, Int.toNat_natCast, tn100, tn200]
      · rw [b2i_cong (lacks_s h0 (by omega))]
        simp (disch := omega) only [Int.toNat_natCast, ih, bd_some, lm_e, if_pos, if_neg, up_ne, up_at, upf_same, upf_ne, reduceIte, or_true, true_or, Int.reduceToNat, Int.toNat_natCast, tn100, tn200]
    · rw [b2i_cong (lacks_s h0 (by omega))]
      simp (disch := omega) only [Int.toNat_natCast, ih, bd_some, lm_e, if_pos, if_neg, up_ne, up_at, upf_same, upf_ne, reduceIte, or_true, true_or, Int.reduceToNat, Int.toNat_natCast, tn100, tn200]
def lenNext (w c st : Int) (t : Nat → Int) : Int := if st = 0 then w * t 4 else if st = 1 then t 5 else if st = 2 then t 6 else if st = 3 then c + 1 else 1
set_option maxHeartbeats 8000000 in
theorem s_send {μ ν : Mem} (h : Inv2 μ ν) (a b : Int) : Step2 (fun μ => f_X10_send μ a b) (fun ν => f_X11_send ν a b) μ ν := by
  have hI := h
  obtain ⟨-, hsp, -, -, ht, hs, -⟩ := h
  have hN := sN_of hs
  have n0 := sN_n hN
  have n9 := hs.1.1
  have hsp0 := hsp
  obtain ⟨p1, p2, p3, -⟩ := hsp0
  have n1 : 0 ≤ μ 6 9 ∧ μ 6 9 ≤ 3001 := by have := hs.1; unfold Inum2 at this; omega
  by_cases hc : 0 ≤ a ∧ a < μ 6 5
  case neg =>
    refine step2_ro hI 1 (ex_of ?_) (ex_of ?_)
    · unfold f_X10_send f_X3_sendToStone
      by_cases hb : 0 ≤ b ∧ b < μ 6 6
      · repeat (first | rw [wp_ret] | rw [wp_lm] | rw [wp_bd] | (rw [e_gangAt_n hs hc, wp_ret]; (try simp only [tn200, tn100, Int.toNat_natCast, Int.reduceToNat])) | (rw [n_stoneAt hN hb.1 hb.2, wp_ret]; (try simp only [tn200, tn100, Int.toNat_natCast, Int.reduceToNat])) | (with_reducible refine wp_t ?_ ?_; focus (first | omega | (simp (disch := omega) only [gaq, stq, up_ne, up_at, upf_same, upf_ne, tn200, tn100, Int.toNat_natCast, Int.reduceToNat]; (try omega); done))) | (with_reducible refine wp_f ?_ ?_; focus (first | omega | (simp (disch := omega) only [gaq, stq, up_ne, up_at, upf_same, upf_ne, tn200, tn100, Int.toNat_natCast, Int.reduceToNat]; (try omega); done))))
        first | exact ⟨rfl, rfl⟩ | exact ⟨trivial, rfl⟩ | exact ⟨trivial, trivial⟩ | exact trivial
      · repeat (first | rw [wp_ret] | rw [wp_lm] | rw [wp_bd] | (rw [e_gangAt_n hs hc, wp_ret]; (try simp only [tn200, tn100, Int.toNat_natCast, Int.reduceToNat])) | (rw [n_stoneAt_n hb, wp_ret]; (try simp only [tn200, tn100, Int.toNat_natCast, Int.reduceToNat])) | (with_reducible refine wp_t ?_ ?_; focus (first | omega | (simp (disch := omega) only [gaq, stq, up_ne, up_at, upf_same, upf_ne, tn200, tn100, Int.toNat_natCast, Int.reduceToNat]; (try omega); done))) | (with_reducible refine wp_f ?_ ?_; focus (first | omega | (simp (disch := omega) only [gaq, stq, up_ne, up_at, upf_same, upf_ne, tn200, tn100, Int.toNat_natCast, Int.reduceToNat]; (try omega); done))))
        first | exact ⟨rfl, rfl⟩ | exact ⟨trivial, rfl⟩ | exact ⟨trivial, trivial⟩ | exact trivial
    · unfold f_X11_send
      repeat (first | rw [wp_ret] | rw [wp_lm] | rw [wp_bd] | (rw [f_in_e, wp_ret]; (try simp only [b2i_0, tn200, tn100, Int.toNat_natCast, Int.reduceToNat])) | (with_reducible refine wp_t ?_ ?_; focus (first | omega | (simp (disch := omega) only [b2i_0, gaq, stq, up_ne, up_at, upf_same, upf_ne, tn200, tn100, Int.toNat_natCast, Int.reduceToNat]; (try omega); done))) | (with_reducible refine wp_f ?_ ?_; focus (first | omega | (simp (disch := omega) only [b2i_0, gaq, stq, up_ne, up_at, upf_same, upf_ne, tn200, tn100, Int.toNat_natCast, Int.reduceToNat]; (try omega); done))))
      first | exact ⟨rfl, rfl⟩ | exact ⟨trivial, rfl⟩ | exact ⟨trivial, trivial⟩ | exact trivial
  obtain ⟨g, rfl⟩ : ∃ g : Nat, a = (g : Int) := ⟨a.toNat, by omega⟩
  have e1 : f_X3_gangAt μ (g : Int) = some (200 + (g : Int), μ) := by rw [n_gangAt hN (by omega) hc.2]; rfl
  have f0 : f_X11_in ν (g : Int) 0 (ν 300 2 - 1) = some (1, ν) := by rw [f_in_e, b2i_t (by omega)]
  by_cases hb : 0 ≤ b ∧ b < μ 6 6
  case neg =>
    refine step2_ro hI 1 (ex_of ?_) (ex_of ?_)
    · unfold f_X10_send f_X3_sendToStone
      repeat (first | rw [wp_ret] | rw [wp_lm] | rw [wp_bd] | (rw [e1, wp_ret]; (try simp only [tn200, tn100, Int.toNat_natCast, Int.reduceToNat])) | (rw [n_stoneAt_n hb, wp_ret]; (try simp only [tn200, tn100, Int.toNat_natCast, Int.reduceToNat])) | (with_reducible refine wp_t ?_ ?_; focus (first | omega | (simp (disch := omega) only [gaq, stq, up_ne, up_at, upf_same, upf_ne, tn200, tn100, Int.toNat_natCast, Int.reduceToNat]; (try omega); done))) | (with_reducible refine wp_f ?_ ?_; focus (first | omega | (simp (disch := omega) only [gaq, stq, up_ne, up_at, upf_same, upf_ne, tn200, tn100, Int.toNat_natCast, Int.reduceToNat]; (try omega); done))))
      first | exact ⟨rfl, rfl⟩ | exact ⟨trivial, rfl⟩ | exact ⟨trivial, trivial⟩ | exact trivial
    · unfold f_X11_send
      repeat (first | rw [wp_ret] | rw [wp_lm] | rw [wp_bd] | (rw [f0, wp_ret]; (try simp only [b2i_0, tn200, tn100, Int.toNat_natCast, Int.reduceToNat])) | (rw [f_in_e, wp_ret]; (try simp only [b2i_0, tn200, tn100, Int.toNat_natCast, Int.reduceToNat])) | (with_reducible refine wp_t ?_ ?_; focus (first | omega | (simp (disch := omega) only [b2i_0, gaq, stq, up_ne, up_at, upf_same, upf_ne, tn200, tn100, Int.toNat_natCast, Int.reduceToNat]; (try omega); done))) | (with_reducible refine wp_f ?_ ?_; focus (first | omega | (simp (disch := omega) only [b2i_0, gaq, stq, up_ne, up_at, upf_same, upf_ne, tn200, tn100, Int.toNat_natCast, Int.reduceToNat]; (try omega); done))))
      first | exact ⟨rfl, rfl⟩ | exact ⟨trivial, rfl⟩ | exact ⟨trivial, trivial⟩ | exact trivial
  obtain ⟨k, rfl⟩ : ∃ k : Nat, b = (k : Int) := ⟨b.toNat, by omega⟩
  have e2 : f_X3_stoneAt μ (k : Int) = some (100 + (k : Int), μ) := by rw [n_stoneAt hN (by omega) hb.2]; rfl
  have f2 : f_X11_in ν (k : Int) 0 (ν 300 26 - 1) = some (1, ν) := by rw [f_in_e, b2i_t (by omega)]
  obtain ⟨z0, z1, z2, z3, z4, z5, z6, z7, z8, z9, z10, z11, z12, z13, z14, z15⟩ := sN_g hN g hc.2
  obtain ⟨s0, s1, s2, s3, s4, s5, s6, s7, s8, s9, s10, s11, s12, s13, s14⟩ := sN_s hN k hb.2
  by_cases hn : 3000 < μ 6 9
  · refine step2_ro hI 1 (ex_of ?_) (ex_of ?_)
    · unfold f_X10_send f_X3_sendToStone
      repeat (first | rw [wp_ret] | rw [wp_lm] | rw [wp_bd] | (rw [e1, wp_ret]; (try simp only [tn200, tn100, Int.toNat_natCast, Int.reduceToNat])) | (rw [e2, wp_ret]; (try simp only [tn200, tn100, Int.toNat_natCast, Int.reduceToNat])) | (with_reducible refine wp_t ?_ ?_; focus (first | omega | (simp (disch := omega) only [gaq, stq, up_ne, up_at, upf_same, upf_ne, tn200, tn100, Int.toNat_natCast, Int.reduceToNat]; (try omega); done))) | (with_reducible refine wp_f ?_ ?_; focus (first | omega | (simp (disch := omega) only [gaq, stq, up_ne, up_at, upf_same, upf_ne, tn200, tn100, Int.toNat_natCast, Int.reduceToNat]; (try omega); done))))
      first | exact ⟨rfl, rfl⟩ | exact ⟨trivial, rfl⟩ | exact ⟨trivial, trivial⟩ | exact trivial
    · unfold f_X11_send f_X11_isEnd
      repeat (first | rw [wp_ret] | rw [wp_lm] | rw [wp_bd] | (rw [f0, wp_ret]; (try simp only [tn200, tn100, Int.toNat_natCast, Int.reduceToNat])) | (rw [f2, wp_ret]; (try simp only [tn200, tn100, Int.toNat_natCast, Int.reduceToNat])) | (with_reducible refine wp_t ?_ ?_; focus (first | omega | (simp (disch := omega) only [gaq, stq, up_ne, up_at, upf_same, upf_ne, tn200, tn100, Int.toNat_natCast, Int.reduceToNat]; (try omega); done))) | (with_reducible refine wp_f ?_ ?_; focus (first | omega | (simp (disch := omega) only [gaq, stq, up_ne, up_at, upf_same, upf_ne, tn200, tn100, Int.toNat_natCast, Int.reduceToNat]; (try omega); done))))
      first | exact ⟨rfl, rfl⟩ | exact ⟨trivial, rfl⟩ | exact ⟨trivial, trivial⟩ | exact trivial
  have f1 : f_X11_isEnd ν = some (0, ν) := by unfold f_X11_isEnd; rw [if_pos (by omega)]
  by_cases hw : ν 302 g = -1
  case neg =>
    refine step2_ro hI 2 (ex_of ?_) (ex_of ?_)
    · unfold f_X10_send f_X3_sendToStone
      repeat (first | rw [wp_ret] | rw [wp_lm] | rw [wp_bd] | (rw [e1, wp_ret]; (try simp only [tn200, tn100, Int.toNat_natCast, Int.reduceToNat])) | (rw [e2, wp_ret]; (try simp only [tn200, tn100, Int.toNat_natCast, Int.reduceToNat])) | (with_reducible refine wp_t ?_ ?_; focus (first | omega | (simp (disch := omega) only [gaq, stq, up_ne, up_at, upf_same, upf_ne, tn200, tn100, Int.toNat_natCast, Int.reduceToNat]; (try omega); done))) | (with_reducible refine wp_f ?_ ?_; focus (first | omega | (simp (disch := omega) only [gaq, stq, up_ne, up_at, upf_same, upf_ne, tn200, tn100, Int.toNat_natCast, Int.reduceToNat]; (try omega); done))))
      first | exact ⟨rfl, rfl⟩ | exact ⟨trivial, rfl⟩ | exact ⟨trivial, trivial⟩ | exact trivial
    · unfold f_X11_send
      simp only [Int.toNat_natCast]
      repeat (first | rw [wp_ret] | rw [wp_lm] | rw [wp_bd] | (rw [f0, wp_ret]; (try simp only [tn200, tn100, Int.toNat_natCast, Int.reduceToNat])) | (rw [f2, wp_ret]; (try simp only [tn200, tn100, Int.toNat_natCast, Int.reduceToNat])) | (rw [f1, wp_ret]; (try simp only [tn200, tn100, Int.toNat_natCast, Int.reduceToNat])) | (with_reducible refine wp_t ?_ ?_; focus (first | omega | (simp (disch := omega) only [gaq, stq, up_ne, up_at, upf_same, upf_ne, tn200, tn100, Int.toNat_natCast, Int.reduceToNat]; (try omega); done))) | (with_reducible refine wp_f ?_ ?_; focus (first | omega | (simp (disch := omega) only [gaq, stq, up_ne, up_at, upf_same, upf_ne, tn200, tn100, Int.toNat_natCast, Int.reduceToNat]; (try omega); done))))
      first | exact ⟨rfl, rfl⟩ | exact ⟨trivial, rfl⟩ | exact ⟨trivial, trivial⟩ | exact trivial
  have hwk : firstW (ν 302) (ν 300 2) (k : Int) (μ (100 + k) 3) := by
    rw [n0.1]
    have w1 := (sN_w hN).1
    by_cases c : μ (100 + k) 3 = -1
    · refine Or.inl ⟨c, fun j hj e => ?_⟩
      have := (w1 k j hb.2 hj).mpr e
      omega
    · refine Or.inr ⟨by omega, by omega, ?_, fun j hj e => ?_⟩
      · exact (w1 k (μ (100 + k) 3).toNat hb.2 (by omega)).mp (by omega)
      · have := (w1 k j hb.2 (by omega)).mpr e
        omega
  have k1 := e_worker (by omega) (by omega) hwk
  clear hwk
  by_cases hf : μ (100 + k) 3 = -1
  case neg =>
    refine step2_ro hI 3 (ex_of ?_) (ex_of ?_)
    · unfold f_X10_send f_X3_sendToStone
      repeat (first | rw [wp_ret] | rw [wp_lm] | rw [wp_bd] | (rw [e1, wp_ret]; (try simp only [tn200, tn100, Int.toNat_natCast, Int.reduceToNat])) | (rw [e2, wp_ret]; (try simp only [tn200, tn100, Int.toNat_natCast, Int.reduceToNat])) | (with_reducible refine wp_t ?_ ?_; focus (first | omega | (simp (disch := omega) only [gaq, stq, up_ne, up_at, upf_same, upf_ne, tn200, tn100, Int.toNat_natCast, Int.reduceToNat]; (try omega); done))) | (with_reducible refine wp_f ?_ ?_; focus (first | omega | (simp (disch := omega) only [gaq, stq, up_ne, up_at, upf_same, upf_ne, tn200, tn100, Int.toNat_natCast, Int.reduceToNat]; (try omega); done))))
      first | exact ⟨rfl, rfl⟩ | exact ⟨trivial, rfl⟩ | exact ⟨trivial, trivial⟩ | exact trivial
    · unfold f_X11_send
      simp only [Int.toNat_natCast]
      repeat (first | rw [wp_ret] | rw [wp_lm] | rw [wp_bd] | (rw [f0, wp_ret]; (try simp only [tn200, tn100, Int.toNat_natCast, Int.reduceToNat])) | (rw [f2, wp_ret]; (try simp only [tn200, tn100, Int.toNat_natCast, Int.reduceToNat])) | (rw [f1, wp_ret]; (try simp only [tn200, tn100, Int.toNat_natCast, Int.reduceToNat])) | (rw [k1, wp_ret]; (try simp only [tn200, tn100, Int.toNat_natCast, Int.reduceToNat])) | (with_reducible refine wp_t ?_ ?_; focus (first | omega | (simp (disch := omega) only [gaq, stq, up_ne, up_at, upf_same, upf_ne, tn200, tn100, Int.toNat_natCast, Int.reduceToNat]; (try omega); done))) | (with_reducible refine wp_f ?_ ?_; focus (first | omega | (simp (disch := omega) only [gaq, stq, up_ne, up_at, upf_same, upf_ne, tn200, tn100, Int.toNat_natCast, Int.reduceToNat]; (try omega); done))))
      first | exact ⟨rfl, rfl⟩ | exact ⟨trivial, rfl⟩ | exact ⟨trivial, trivial⟩ | exact trivial
  by_cases h5 : ν 317 k < 5
  case neg =>
    refine step2_ro hI 4 (ex_of ?_) (ex_of ?_)
    · unfold f_X10_send f_X3_sendToStone f_X4_isDone f_X3_sendToStone_74
      by_cases h55 : ν 317 k = 5
      · repeat (first | rw [wp_ret] | rw [wp_lm] | rw [wp_bd] | (rw [e1, wp_ret]; (try simp only [tn200, tn100, Int.toNat_natCast, Int.reduceToNat])) | (rw [e2, wp_ret]; (try simp only [tn200, tn100, Int.toNat_natCast, Int.reduceToNat])) | (with_reducible refine wp_t ?_ ?_; focus (first | omega | (simp (disch := omega) only [gaq, stq, up_ne, up_at, upf_same, upf_ne, tn200, tn100, Int.toNat_natCast, Int.reduceToNat]; (try omega); done))) | (with_reducible refine wp_f ?_ ?_; focus (first | omega | (simp (disch := omega) only [gaq, stq, up_ne, up_at, upf_same, upf_ne, tn200, tn100, Int.toNat_natCast, Int.reduceToNat]; (try omega); done))))
        first | exact ⟨rfl, rfl⟩ | exact ⟨trivial, rfl⟩ | exact ⟨trivial, trivial⟩ | exact trivial
      · repeat (first | rw [wp_ret] | rw [wp_lm] | rw [wp_bd] | (rw [e1, wp_ret]; (try simp only [tn200, tn100, Int.toNat_natCast, Int.reduceToNat])) | (rw [e2, wp_ret]; (try simp only [tn200, tn100, Int.toNat_natCast, Int.reduceToNat])) | (with_reducible refine wp_t ?_ ?_; focus (first | omega | (simp (disch := omega) only [gaq, stq, up_ne, up_at, upf_same, upf_ne, tn200, tn100, Int.toNat_natCast, Int.reduceToNat]; (try omega); done))) | (with_reducible refine wp_f ?_ ?_; focus (first | omega | (simp (disch := omega) only [gaq, stq, up_ne, up_at, upf_same, upf_ne, tn200, tn100, Int.toNat_natCast, Int.reduceToNat]; (try omega); done))))
        first | exact ⟨rfl, rfl⟩ | exact ⟨trivial, rfl⟩ | exact ⟨trivial, trivial⟩ | exact trivial
    · unfold f_X11_send
      simp only [Int.toNat_natCast]
      repeat (first | rw [wp_ret] | rw [wp_lm] | rw [wp_bd] | (rw [f0, wp_ret]; (try simp only [tn200, tn100, Int.toNat_natCast, Int.reduceToNat])) | (rw [f2, wp_ret]; (try simp only [tn200, tn100, Int.toNat_natCast, Int.reduceToNat])) | (rw [f1, wp_ret]; (try simp only [tn200, tn100, Int.toNat_natCast, Int.reduceToNat])) | (rw [k1, wp_ret]; (try simp only [tn200, tn100, Int.toNat_natCast, Int.reduceToNat])) | (with_reducible refine wp_t ?_ ?_; focus (first | omega | (simp (disch := omega) only [gaq, stq, up_ne, up_at, upf_same, upf_ne, tn200, tn100, Int.toNat_natCast, Int.reduceToNat]; (try omega); done))) | (with_reducible refine wp_f ?_ ?_; focus (first | omega | (simp (disch := omega) only [gaq, stq, up_ne, up_at, upf_same, upf_ne, tn200, tn100, Int.toNat_natCast, Int.reduceToNat]; (try omega); done))))
      first | exact ⟨rfl, rfl⟩ | exact ⟨trivial, rfl⟩ | exact ⟨trivial, trivial⟩ | exact trivial
  have cis : ∀ kind : Int, f_X2_isOn μ kind (μ 6 9) = some (b2i (isOnP (μ 1 3) (μ 9) (μ 10) (μ 11) kind (μ 6 9)), μ) := fun kind => e_isOn p2 p3 kind _
  have ris : ∀ kind : Int, f_X11_is ν kind (ν 300 1) = some (b2i (isOnP (μ 1 3) (μ 9) (μ 10) (μ 11) kind (μ 6 9)), ν) := fun kind => by
    rw [n9, e_is (by omega) (by omega), b2i_cong (isOn_same hsp kind _)]
  have hdn : f_X4_isDone μ (100 + (k : Int)) = some (0, μ) := by
    unfold f_X4_isDone
    refine ex_of ?_
    repeat (first | rw [wp_ret] | rw [wp_lm] | rw [wp_bd] | (with_reducible refine wp_t ?_ ?_; focus (first | omega | (simp (disch := omega) only [gaq, stq, up_ne, up_at, upf_same, upf_ne, tn200, tn100, Int.toNat_natCast, Int.reduceToNat]; (try omega); done))) | (with_reducible refine wp_f ?_ ?_; focus (first | omega | (simp (disch := omega) only [gaq, stq, up_ne, up_at, upf_same, upf_ne, tn200, tn100, Int.toNat_natCast, Int.reduceToNat]; (try omega); done))))
    first | exact ⟨rfl, rfl⟩ | exact ⟨trivial, rfl⟩ | exact ⟨trivial, trivial⟩ | exact trivial
  have cwet := cis 1
  have rwet := ris 1
  have chig := cis 0
  have rhig := ris 0
  generalize b2i (isOnP (μ 1 3) (μ 9) (μ 10) (μ 11) 1 (μ 6 9)) = wet at cwet rwet
  generalize b2i (isOnP (μ 1 3) (μ 9) (μ 10) (μ 11) 0 (μ 6 9)) = hig at chig rhig
  clear cis ris
  have c1 := n_pullOf hN ht k hb.2 wet
  have r1 : f_X11_pull ν (k : Int) (ν 317 k) wet = some (pullS (ν 315 k) (ν 317 k) (μ 17) wet, ν) := n_pull hN ht (by omega) hb.2 _ _
  generalize pullS (ν 315 k) (ν 317 k) (μ 17) wet = p at c1 r1
  have t7 : ν 312 7 = μ 17 7 := (ht 7 (by decide)).1
  have c2 : f_X6_numberAt μ 7 = some (μ 17 7, μ) := e_numberAt (by decide) (by decide)
  -- the hindrance, one number for both
  have both : ∀ r : Int, r ≠ 0 → f_X3_hindranceOfNext μ (200 + (g : Int)) (100 + (k : Int)) = some (r, μ) → f_X11_send ν (g : Int) (k : Int) = some (r, ν) → Step2 (fun μ => f_X10_send μ (g : Int) (k : Int)) (fun ν => f_X11_send ν (g : Int) (k : Int)) μ ν := by
    intro r hr q1 q2
    refine step2_ro hI r (ex_of ?_) q2
    unfold f_X10_send f_X3_sendToStone f_X3_sendToStone_74
    repeat (first | rw [wp_ret] | rw [wp_lm] | rw [wp_bd] | (rw [e1, wp_ret]; (try simp only [tn200, tn100, Int.toNat_natCast, Int.reduceToNat])) | (rw [e2, wp_ret]; (try simp only [tn200, tn100, Int.toNat_natCast, Int.reduceToNat])) | (rw [hdn, wp_ret]; (try simp only [tn200, tn100, Int.toNat_natCast, Int.reduceToNat])) | (rw [q1, wp_ret]; (try simp only [tn200, tn100, Int.toNat_natCast, Int.reduceToNat])) | (with_reducible refine wp_t ?_ ?_; focus (first | omega | (simp (disch := omega) only [gaq, stq, up_ne, up_at, upf_same, upf_ne, tn200, tn100, Int.toNat_natCast, Int.reduceToNat]; (try omega); done))) | (with_reducible refine wp_f ?_ ?_; focus (first | omega | (simp (disch := omega) only [gaq, stq, up_ne, up_at, upf_same, upf_ne, tn200, tn100, Int.toNat_natCast, Int.reduceToNat]; (try omega); done))))
    first | exact ⟨rfl, rfl⟩ | exact ⟨trivial, rfl⟩ | exact ⟨trivial, trivial⟩ | exact trivial
  by_cases q5 : μ 17 7 < p
  · refine both 5 (by omega) (ex_of ?_) (ex_of ?_)
    · unfold f_X3_hindranceOfNext
      repeat (first | rw [wp_ret] | rw [wp_lm] | rw [wp_bd] | (rw [cwet, wp_ret]; (try simp only [tn200, tn100, Int.toNat_natCast, Int.reduceToNat])) | (rw [c1, wp_ret]; (try simp only [tn200, tn100, Int.toNat_natCast, Int.reduceToNat])) | (rw [c2, wp_ret]; (try simp only [tn200, tn100, Int.toNat_natCast, Int.reduceToNat])) | (with_reducible refine wp_t ?_ ?_; focus (first | omega | (simp (disch := omega) only [gaq, stq, up_ne, up_at, upf_same, upf_ne, tn200, tn100, Int.toNat_natCast, Int.reduceToNat]; (try omega); done))) | (with_reducible refine wp_f ?_ ?_; focus (first | omega | (simp (disch := omega) only [gaq, stq, up_ne, up_at, upf_same, upf_ne, tn200, tn100, Int.toNat_natCast, Int.reduceToNat]; (try omega); done))))
      first | exact ⟨rfl, rfl⟩ | exact ⟨trivial, rfl⟩ | exact ⟨trivial, trivial⟩ | exact trivial
    · unfold f_X11_send
      simp only [Int.toNat_natCast]
      repeat (first | rw [wp_ret] | rw [wp_lm] | rw [wp_bd] | (rw [f0, wp_ret]; (try simp only [tn200, tn100, Int.toNat_natCast, Int.reduceToNat])) | (rw [f2, wp_ret]; (try simp only [tn200, tn100, Int.toNat_natCast, Int.reduceToNat])) | (rw [f1, wp_ret]; (try simp only [tn200, tn100, Int.toNat_natCast, Int.reduceToNat])) | (rw [k1, wp_ret]; (try simp only [tn200, tn100, Int.toNat_natCast, Int.reduceToNat])) | (rw [rwet, wp_ret]; (try simp only [tn200, tn100, Int.toNat_natCast, Int.reduceToNat])) | (rw [r1, wp_ret]; (try simp only [tn200, tn100, Int.toNat_natCast, Int.reduceToNat])) | (with_reducible refine wp_t ?_ ?_; focus (first | omega | (simp (disch := omega) only [gaq, stq, up_ne, up_at, upf_same, upf_ne, tn200, tn100, Int.toNat_natCast, Int.reduceToNat]; (try omega); done))) | (with_reducible refine wp_f ?_ ?_; focus (first | omega | (simp (disch := omega) only [gaq, stq, up_ne, up_at, upf_same, upf_ne, tn200, tn100, Int.toNat_natCast, Int.reduceToNat]; (try omega); done))))
      first | exact ⟨rfl, rfl⟩ | exact ⟨trivial, rfl⟩ | exact ⟨trivial, trivial⟩ | exact trivial
  by_cases q6 : ν 301 g < p
  · refine both 6 (by omega) (ex_of ?_) (ex_of ?_)
    · unfold f_X3_hindranceOfNext
      repeat (first | rw [wp_ret] | rw [wp_lm] | rw [wp_bd] | (rw [cwet, wp_ret]; (try simp only [tn200, tn100, Int.toNat_natCast, Int.reduceToNat])) | (rw [c1, wp_ret]; (try simp only [tn200, tn100, Int.toNat_natCast, Int.reduceToNat])) | (rw [c2, wp_ret]; (try simp only [tn200, tn100, Int.toNat_natCast, Int.reduceToNat])) | (with_reducible refine wp_t ?_ ?_; focus (first | omega | (simp (disch := omega) only [gaq, stq, up_ne, up_at, upf_same, upf_ne, tn200, tn100, Int.toNat_natCast, Int.reduceToNat]; (try omega); done))) | (with_reducible refine wp_f ?_ ?_; focus (first | omega | (simp (disch := omega) only [gaq, stq, up_ne, up_at, upf_same, upf_ne, tn200, tn100, Int.toNat_natCast, Int.reduceToNat]; (try omega); done))))
      first | exact ⟨rfl, rfl⟩ | exact ⟨trivial, rfl⟩ | exact ⟨trivial, trivial⟩ | exact trivial
    · unfold f_X11_send
      simp only [Int.toNat_natCast]
      repeat (first | rw [wp_ret] | rw [wp_lm] | rw [wp_bd] | (rw [f0, wp_ret]; (try simp only [tn200, tn100, Int.toNat_natCast, Int.reduceToNat])) | (rw [f2, wp_ret]; (try simp only [tn200, tn100, Int.toNat_natCast, Int.reduceToNat])) | (rw [f1, wp_ret]; (try simp only [tn200, tn100, Int.toNat_natCast, Int.reduceToNat])) | (rw [k1, wp_ret]; (try simp only [tn200, tn100, Int.toNat_natCast, Int.reduceToNat])) | (rw [rwet, wp_ret]; (try simp only [tn200, tn100, Int.toNat_natCast, Int.reduceToNat])) | (rw [r1, wp_ret]; (try simp only [tn200, tn100, Int.toNat_natCast, Int.reduceToNat])) | (with_reducible refine wp_t ?_ ?_; focus (first | omega | (simp (disch := omega) only [gaq, stq, up_ne, up_at, upf_same, upf_ne, tn200, tn100, Int.toNat_natCast, Int.reduceToNat]; (try omega); done))) | (with_reducible refine wp_f ?_ ?_; focus (first | omega | (simp (disch := omega) only [gaq, stq, up_ne, up_at, upf_same, upf_ne, tn200, tn100, Int.toNat_natCast, Int.reduceToNat]; (try omega); done))))
      first | exact ⟨rfl, rfl⟩ | exact ⟨trivial, rfl⟩ | exact ⟨trivial, trivial⟩ | exact trivial
  by_cases q7 : ν 317 k = 2 ∧ hig = 0
  · refine both 7 (by omega) (ex_of ?_) (ex_of ?_)
    · unfold f_X3_hindranceOfNext
      repeat (first | rw [wp_ret] | rw [wp_lm] | rw [wp_bd] | (rw [cwet, wp_ret]; (try simp only [tn200, tn100, Int.toNat_natCast, Int.reduceToNat])) | (rw [c1, wp_ret]; (try simp only [tn200, tn100, Int.toNat_natCast, Int.reduceToNat])) | (rw [c2, wp_ret]; (try simp only [tn200, tn100, Int.toNat_natCast, Int.reduceToNat])) | (rw [chig, wp_ret]; (try simp only [tn200, tn100, Int.toNat_natCast, Int.reduceToNat])) | (with_reducible refine wp_t ?_ ?_; focus (first | omega | (simp (disch := omega) only [gaq, stq, up_ne, up_at, upf_same, upf_ne, tn200, tn100, Int.toNat_natCast, Int.reduceToNat]; (try omega); done))) | (with_reducible refine wp_f ?_ ?_; focus (first | omega | (simp (disch := omega) only [gaq, stq, up_ne, up_at, upf_same, upf_ne, tn200, tn100, Int.toNat_natCast, Int.reduceToNat]; (try omega); done))))
      first | exact ⟨rfl, rfl⟩ | exact ⟨trivial, rfl⟩ | exact ⟨trivial, trivial⟩ | exact trivial
    · unfold f_X11_send
      simp only [Int.toNat_natCast]
      repeat (first | rw [wp_ret] | rw [wp_lm] | rw [wp_bd] | (rw [f0, wp_ret]; (try simp only [tn200, tn100, Int.toNat_natCast, Int.reduceToNat])) | (rw [f2, wp_ret]; (try simp only [tn200, tn100, Int.toNat_natCast, Int.reduceToNat])) | (rw [f1, wp_ret]; (try simp only [tn200, tn100, Int.toNat_natCast, Int.reduceToNat])) | (rw [k1, wp_ret]; (try simp only [tn200, tn100, Int.toNat_natCast, Int.reduceToNat])) | (rw [rwet, wp_ret]; (try simp only [tn200, tn100, Int.toNat_natCast, Int.reduceToNat])) | (rw [r1, wp_ret]; (try simp only [tn200, tn100, Int.toNat_natCast, Int.reduceToNat])) | (rw [rhig, wp_ret]; (try simp only [tn200, tn100, Int.toNat_natCast, Int.reduceToNat])) | (with_reducible refine wp_t ?_ ?_; focus (first | omega | (simp (disch := omega) only [gaq, stq, up_ne, up_at, upf_same, upf_ne, tn200, tn100, Int.toNat_natCast, Int.reduceToNat]; (try omega); done))) | (with_reducible refine wp_f ?_ ?_; focus (first | omega | (simp (disch := omega) only [gaq, stq, up_ne, up_at, upf_same, upf_ne, tn200, tn100, Int.toNat_natCast, Int.reduceToNat]; (try omega); done))))
      first | exact ⟨rfl, rfl⟩ | exact ⟨trivial, rfl⟩ | exact ⟨trivial, trivial⟩ | exact trivial
  have n17 : ν 300 17 = μ 6 8 := by omega
  by_cases q8 : ν 317 k = 3 ∧ μ 6 8 ≤ ν 316 k
  · refine both 8 (by omega) (ex_of ?_) (ex_of ?_)
    · unfold f_X3_hindranceOfNext f_X3_hindranceOfNext_73
      repeat (first | rw [wp_ret] | rw [wp_lm] | rw [wp_bd] | (rw [cwet, wp_ret]; (try simp only [tn200, tn100, Int.toNat_natCast, Int.reduceToNat])) | (rw [c1, wp_ret]; (try simp only [tn200, tn100, Int.toNat_natCast, Int.reduceToNat])) | (rw [c2, wp_ret]; (try simp only [tn200, tn100, Int.toNat_natCast, Int.reduceToNat])) | (rw [chig, wp_ret]; (try simp only [tn200, tn100, Int.toNat_natCast, Int.reduceToNat])) | (with_reducible refine wp_t ?_ ?_; focus (first | omega | (simp (disch := omega) only [gaq, stq, up_ne, up_at, upf_same, upf_ne, tn200, tn100, Int.toNat_natCast, Int.reduceToNat]; (try omega); done))) | (with_reducible refine wp_f ?_ ?_; focus (first | omega | (simp (disch := omega) only [gaq, stq, up_ne, up_at, upf_same, upf_ne, tn200, tn100, Int.toNat_natCast, Int.reduceToNat]; (try omega); done))))
      first | exact ⟨rfl, rfl⟩ | exact ⟨trivial, rfl⟩ | exact ⟨trivial, trivial⟩ | exact trivial
    · unfold f_X11_send f_X11_send_139
      simp only [Int.toNat_natCast]
      repeat (first | rw [wp_ret] | rw [wp_lm] | rw [wp_bd] | (rw [f0, wp_ret]; (try simp only [tn200, tn100, Int.toNat_natCast, Int.reduceToNat])) | (rw [f2, wp_ret]; (try simp only [tn200, tn100, Int.toNat_natCast, Int.reduceToNat])) | (rw [f1, wp_ret]; (try simp only [tn200, tn100, Int.toNat_natCast, Int.reduceToNat])) | (rw [k1, wp_ret]; (try simp only [tn200, tn100, Int.toNat_natCast, Int.reduceToNat])) | (rw [rwet, wp_ret]; (try simp only [tn200, tn100, Int.toNat_natCast, Int.reduceToNat])) | (rw [r1, wp_ret]; (try simp only [tn200, tn100, Int.toNat_natCast, Int.reduceToNat])) | (rw [rhig, wp_ret]; (try simp only [tn200, tn100, Int.toNat_natCast, Int.reduceToNat])) | (with_reducible refine wp_t ?_ ?_; focus (first | omega | (simp (disch := omega) only [gaq, stq, up_ne, up_at, upf_same, upf_ne, tn200, tn100, Int.toNat_natCast, Int.reduceToNat]; (try omega); done))) | (with_reducible refine wp_f ?_ ?_; focus (first | omega | (simp (disch := omega) only [gaq, stq, up_ne, up_at, upf_same, upf_ne, tn200, tn100, Int.toNat_natCast, Int.reduceToNat]; (try omega); done))))
      first | exact ⟨rfl, rfl⟩ | exact ⟨trivial, rfl⟩ | exact ⟨trivial, trivial⟩ | exact trivial
  have cw : f_X3_waitsForLesser μ (100 + (k : Int)) = some (b2i (lacks (μ 6 6) (ν 316) (ν 317) k 0), μ) := e_waits_2 hN k hb.2 (μ 6 6).toNat 64 0 (by omega) (by omega) (by omega)
  have rw_ : f_X11_lacksLesser ν (k : Int) = some (b2i (lacks (μ 6 6) (ν 316) (ν 317) k 0), ν) := e_lacks_4 hN k hb.2 (μ 6 6).toNat 64 0 (by omega) (by omega) (by omega)
  generalize b2i (lacks (μ 6 6) (ν 316) (ν 317) k 0) = lk at cw rw_
  by_cases q9 : ν 317 k = 4 ∧ lk ≠ 0
  · refine both 9 (by omega) (ex_of ?_) (ex_of ?_)
    · unfold f_X3_hindranceOfNext f_X3_hindranceOfNext_73 f_X3_hindranceOfNext_95
      repeat (first | rw [wp_ret] | rw [wp_lm] | rw [wp_bd] | (rw [cwet, wp_ret]; (try simp only [tn200, tn100, Int.toNat_natCast, Int.reduceToNat])) | (rw [c1, wp_ret]; (try simp only [tn200, tn100, Int.toNat_natCast, Int.reduceToNat])) | (rw [c2, wp_ret]; (try simp only [tn200, tn100, Int.toNat_natCast, Int.reduceToNat])) | (rw [chig, wp_ret]; (try simp only [tn200, tn100, Int.toNat_natCast, Int.reduceToNat])) | (rw [cw, wp_ret]; (try simp only [tn200, tn100, Int.toNat_natCast, Int.reduceToNat])) | (with_reducible refine wp_t ?_ ?_; focus (first | omega | (simp (disch := omega) only [gaq, stq, up_ne, up_at, upf_same, upf_ne, tn200, tn100, Int.toNat_natCast, Int.reduceToNat]; (try omega); done))) | (with_reducible refine wp_f ?_ ?_; focus (first | omega | (simp (disch := omega) only [gaq, stq, up_ne, up_at, upf_same, upf_ne, tn200, tn100, Int.toNat_natCast, Int.reduceToNat]; (try omega); done))))
      first | exact ⟨rfl, rfl⟩ | exact ⟨trivial, rfl⟩ | exact ⟨trivial, trivial⟩ | exact trivial
    · unfold f_X11_send f_X11_send_139 f_X11_send_160
      simp only [Int.toNat_natCast]
      repeat (first | rw [wp_ret] | rw [wp_lm] | rw [wp_bd] | (rw [f0, wp_ret]; (try simp only [tn200, tn100, Int.toNat_natCast, Int.reduceToNat])) | (rw [f2, wp_ret]; (try simp only [tn200, tn100, Int.toNat_natCast, Int.reduceToNat])) | (rw [f1, wp_ret]; (try simp only [tn200, tn100, Int.toNat_natCast, Int.reduceToNat])) | (rw [k1, wp_ret]; (try simp only [tn200, tn100, Int.toNat_natCast, Int.reduceToNat])) | (rw [rwet, wp_ret]; (try simp only [tn200, tn100, Int.toNat_natCast, Int.reduceToNat])) | (rw [r1, wp_ret]; (try simp only [tn200, tn100, Int.toNat_natCast, Int.reduceToNat])) | (rw [rhig, wp_ret]; (try simp only [tn200, tn100, Int.toNat_natCast, Int.reduceToNat])) | (rw [rw_, wp_ret]; (try simp only [tn200, tn100, Int.toNat_natCast, Int.reduceToNat])) | (with_reducible refine wp_t ?_ ?_; focus (first | omega | (simp (disch := omega) only [gaq, stq, up_ne, up_at, upf_same, upf_ne, tn200, tn100, Int.toNat_natCast, Int.reduceToNat]; (try omega); done))) | (with_reducible refine wp_f ?_ ?_; focus (first | omega | (simp (disch := omega) only [gaq, stq, up_ne, up_at, upf_same, upf_ne, tn200, tn100, Int.toNat_natCast, Int.reduceToNat]; (try omega); done))))
      first | exact ⟨rfl, rfl⟩ | exact ⟨trivial, rfl⟩ | exact ⟨trivial, trivial⟩ | exact trivial
  -- it goes
  have t4 := ht 4 (by decide)
  have t5 := ht 5 (by decide)
  have t6 := ht 6 (by decide)
  have hmul := pullW_b (w := ν 315 k) (n := μ 17 4) (by omega) s7 (by omega) (by omega)
  have hlen : 0 ≤ lenNext (ν 315 k) (ν 316 k) (ν 317 k) (μ 17) ∧ lenNext (ν 315 k) (ν 316 k) (ν 317 k) (μ 17) ≤ 10000 := by
    have hmul2 : ν 315 k * μ 17 4 ≤ 9801 := Int.le_trans (Int.mul_le_mul (c := 99) (d := 99) s7 (by omega) (by omega) (by decide)) (by decide)
    unfold lenNext
    repeat' split
    all_goals omega
  have e412 : ν 312 4 = μ 17 4 := t4.1
  have e512 : ν 312 5 = μ 17 5 := t5.1
  have e612 : ν 312 6 = μ 17 6 := t6.1
  have ch : f_X3_hindranceOfNext μ (200 + (g : Int)) (100 + (k : Int)) = some (0, μ) := by
    refine ex_of ?_
    unfold f_X3_hindranceOfNext f_X3_hindranceOfNext_73 f_X3_hindranceOfNext_95
    by_cases c2' : ν 317 k = 2
    · repeat (first | rw [wp_ret] | rw [wp_lm] | rw [wp_bd] | (rw [cwet, wp_ret]; (try simp only [tn200, tn100, Int.toNat_natCast, Int.reduceToNat])) | (rw [c1, wp_ret]; (try simp only [tn200, tn100, Int.toNat_natCast, Int.reduceToNat])) | (rw [c2, wp_ret]; (try simp only [tn200, tn100, Int.toNat_natCast, Int.reduceToNat])) | (rw [chig, wp_ret]; (try simp only [tn200, tn100, Int.toNat_natCast, Int.reduceToNat])) | (rw [cw, wp_ret]; (try simp only [tn200, tn100, Int.toNat_natCast, Int.reduceToNat])) | (with_reducible refine wp_t ?_ ?_; focus (first | omega | (simp (disch := omega) only [gaq, stq, up_ne, up_at, upf_same, upf_ne, tn200, tn100, Int.toNat_natCast, Int.reduceToNat]; (try omega); done))) | (with_reducible refine wp_f ?_ ?_; focus (first | omega | (simp (disch := omega) only [gaq, stq, up_ne, up_at, upf_same, upf_ne, tn200, tn100, Int.toNat_natCast, Int.reduceToNat]; (try omega); done))))
      first | exact ⟨rfl, rfl⟩ | exact ⟨trivial, rfl⟩ | exact ⟨trivial, trivial⟩ | exact trivial
    · by_cases c3' : ν 317 k = 3
      · repeat (first | rw [wp_ret] | rw [wp_lm] | rw [wp_bd] | (rw [cwet, wp_ret]; (try simp only [tn200, tn100, Int.toNat_natCast, Int.reduceToNat])) | (rw [c1, wp_ret]; (try simp only [tn200, tn100, Int.toNat_natCast, Int.reduceToNat])) | (rw [c2, wp_ret]; (try simp only [tn200, tn100, Int.toNat_natCast, Int.reduceToNat])) | (rw [chig, wp_ret]; (try simp only [tn200, tn100, Int.toNat_natCast, Int.reduceToNat])) | (rw [cw, wp_ret]; (try simp only [tn200, tn100, Int.toNat_natCast, Int.reduceToNat])) | (with_reducible refine wp_t ?_ ?_; focus (first | omega | (simp (disch := omega) only [gaq, stq, up_ne, up_at, upf_same, upf_ne, tn200, tn100, Int.toNat_natCast, Int.reduceToNat]; (try omega); done))) | (with_reducible refine wp_f ?_ ?_; focus (first | omega | (simp (disch := omega) only [gaq, stq, up_ne, up_at, upf_same, upf_ne, tn200, tn100, Int.toNat_natCast, Int.reduceToNat]; (try omega); done))))
        first | exact ⟨rfl, rfl⟩ | exact ⟨trivial, rfl⟩ | exact ⟨trivial, trivial⟩ | exact trivial
      · by_cases c4' : ν 317 k = 4
        · repeat (first | rw [wp_ret] | rw [wp_lm] | rw [wp_bd] | (rw [cwet, wp_ret]; (try simp only [tn200, tn100, Int.toNat_natCast, Int.reduceToNat])) | (rw [c1, wp_ret]; (try simp only [tn200, tn100, Int.toNat_natCast, Int.reduceToNat])) | (rw [c2, wp_ret]; (try simp only [tn200, tn100, Int.toNat_natCast, Int.reduceToNat])) | (rw [chig, wp_ret]; (try simp only [tn200, tn100, Int.toNat_natCast, Int.reduceToNat])) | (rw [cw, wp_ret]; (try simp only [tn200, tn100, Int.toNat_natCast, Int.reduceToNat])) | (with_reducible refine wp_t ?_ ?_; focus (first | omega | (simp (disch := omega) only [gaq, stq, up_ne, up_at, upf_same, upf_ne, tn200, tn100, Int.toNat_natCast, Int.reduceToNat]; (try omega); done))) | (with_reducible refine wp_f ?_ ?_; focus (first | omega | (simp (disch := omega) only [gaq, stq, up_ne, up_at, upf_same, upf_ne, tn200, tn100, Int.toNat_natCast, Int.reduceToNat]; (try omega); done))))
          first | exact ⟨rfl, rfl⟩ | exact ⟨trivial, rfl⟩ | exact ⟨trivial, trivial⟩ | exact trivial
        · repeat (first | rw [wp_ret] | rw [wp_lm] | rw [wp_bd] | (rw [cwet, wp_ret]; (try simp only [tn200, tn100, Int.toNat_natCast, Int.reduceToNat])) | (rw [c1, wp_ret]; (try simp only [tn200, tn100, Int.toNat_natCast, Int.reduceToNat])) | (rw [c2, wp_ret]; (try simp only [tn200, tn100, Int.toNat_natCast, Int.reduceToNat])) | (rw [chig, wp_ret]; (try simp only [tn200, tn100, Int.toNat_natCast, Int.reduceToNat])) | (rw [cw, wp_ret]; (try simp only [tn200, tn100, Int.toNat_natCast, Int.reduceToNat])) | (with_reducible refine wp_t ?_ ?_; focus (first | omega | (simp (disch := omega) only [gaq, stq, up_ne, up_at, upf_same, upf_ne, tn200, tn100, Int.toNat_natCast, Int.reduceToNat]; (try omega); done))) | (with_reducible refine wp_f ?_ ?_; focus (first | omega | (simp (disch := omega) only [gaq, stq, up_ne, up_at, upf_same, upf_ne, tn200, tn100, Int.toNat_natCast, Int.reduceToNat]; (try omega); done))))
          first | exact ⟨rfl, rfl⟩ | exact ⟨trivial, rfl⟩ | exact ⟨trivial, trivial⟩ | exact trivial
  have cl : f_X6_lengthOfNext μ (100 + (k : Int)) = some (lenNext (ν 315 k) (ν 316 k) (ν 317 k) (μ 17), μ) := by
    refine ex_of ?_
    unfold f_X6_lengthOfNext lenNext
    simp only [tn100, s3, s1, s2]
    have u4 : f_X6_numberAt μ 4 = some (μ 17 4, μ) := e_numberAt (by decide) (by decide)
    have u5 : f_X6_numberAt μ 5 = some (μ 17 5, μ) := e_numberAt (by decide) (by decide)
    have u6 : f_X6_numberAt μ 6 = some (μ 17 6, μ) := e_numberAt (by decide) (by decide)
    by_cases c0' : ν 317 k = 0
    · rw [if_pos c0']
      repeat (first | rw [wp_ret] | rw [wp_lm] | rw [wp_bd] | (rw [u4, wp_ret]; (try simp only [tn200, tn100, Int.toNat_natCast, Int.reduceToNat])) | (rw [u5, wp_ret]; (try simp only [tn200, tn100, Int.toNat_natCast, Int.reduceToNat])) | (rw [u6, wp_ret]; (try simp only [tn200, tn100, Int.toNat_natCast, Int.reduceToNat])) | (with_reducible refine wp_t ?_ ?_; focus (first | omega | (simp (disch := omega) only [gaq, stq, up_ne, up_at, upf_same, upf_ne, tn200, tn100, Int.toNat_natCast, Int.reduceToNat]; (try omega); done))) | (with_reducible refine wp_f ?_ ?_; focus (first | omega | (simp (disch := omega) only [gaq, stq, up_ne, up_at, upf_same, upf_ne, tn200, tn100, Int.toNat_natCast, Int.reduceToNat]; (try omega); done))))
      simp (disch := omega) only [bd_some, lm_e, if_pos, if_neg, up_ne, up_at, upf_same, upf_ne, reduceIte, or_true, true_or, Int.reduceToNat, Int.toNat_natCast, tn100, tn200]
      first | exact ⟨rfl, rfl⟩ | exact ⟨trivial, rfl⟩ | exact ⟨trivial, trivial⟩ | exact trivial
    · rw [if_neg c0']
      by_cases c1' : ν 317 k = 1
      · rw [if_pos c1']
        repeat (first | rw [wp_ret] | rw [wp_lm] | rw [wp_bd] | (rw [u4, wp_ret]; (try simp only [tn200, tn100, Int.toNat_natCast, Int.reduceToNat])) | (rw [u5, wp_ret]; (try simp only [tn200, tn100, Int.toNat_natCast, Int.reduceToNat])) | (rw [u6, wp_ret]; (try simp only [tn200, tn100, Int.toNat_natCast, Int.reduceToNat])) | (with_reducible refine wp_t ?_ ?_; focus (first | omega | (simp (disch := omega) only [gaq, stq, up_ne, up_at, upf_same, upf_ne, tn200, tn100, Int.toNat_natCast, Int.reduceToNat]; (try omega); done))) | (with_reducible refine wp_f ?_ ?_; focus (first | omega | (simp (disch := omega) only [gaq, stq, up_ne, up_at, upf_same, upf_ne, tn200, tn100, Int.toNat_natCast, Int.reduceToNat]; (try omega); done))))
        simp (disch := omega) only [bd_some, lm_e, if_pos, if_neg, up_ne, up_at, upf_same, upf_ne, reduceIte, or_true, true_or, Int.reduceToNat, Int.toNat_natCast, tn100, tn200]
        first | exact ⟨rfl, rfl⟩ | exact ⟨trivial, rfl⟩ | exact ⟨trivial, trivial⟩ | exact trivial
      · rw [if_neg c1']
        by_cases c2' : ν 317 k = 2
        · rw [if_pos c2']
          repeat (first | rw [wp_ret] | rw [wp_lm] | rw [wp_bd] | (rw [u4, wp_ret]; (try simp only [tn200, tn100, Int.toNat_natCast, Int.reduceToNat])) | (rw [u5, wp_ret]; (try simp only [tn200, tn100, Int.toNat_natCast, Int.reduceToNat])) | (rw [u6, wp_ret]; (try simp only [tn200, tn100, Int.toNat_natCast, Int.reduceToNat])) | (with_reducible refine wp_t ?_ ?_; focus (first | omega | (simp (disch := omega) only [gaq, stq, up_ne, up_at, upf_same, upf_ne, tn200, tn100, Int.toNat_natCast, Int.reduceToNat]; (try omega); done))) | (with_reducible refine wp_f ?_ ?_; focus (first | omega | (simp (disch := omega) only [gaq, stq, up_ne, up_at, upf_same, upf_ne, tn200, tn100, Int.toNat_natCast, Int.reduceToNat]; (try omega); done))))
          simp (disch := omega) only [bd_some, lm_e, if_pos, if_neg, up_ne, up_at, upf_same, upf_ne, reduceIte, or_true, true_or, Int.reduceToNat, Int.toNat_natCast, tn100, tn200]
          first | exact ⟨rfl, rfl⟩ | exact ⟨trivial, rfl⟩ | exact ⟨trivial, trivial⟩ | exact trivial
        · rw [if_neg c2']
          by_cases c3' : ν 317 k = 3
          · rw [if_pos c3']
            repeat (first | rw [wp_ret] | rw [wp_lm] | rw [wp_bd] | (rw [u4, wp_ret]; (try simp only [tn200, tn100, Int.toNat_natCast, Int.reduceToNat])) | (rw [u5, wp_ret]; (try simp only [tn200, tn100, Int.toNat_natCast, Int.reduceToNat])) | (rw [u6, wp_ret]; (try simp only [tn200, tn100, Int.toNat_natCast, Int.reduceToNat])) | (with_reducible refine wp_t ?_ ?_; focus (first | omega | (simp (disch := omega) only [gaq, stq, up_ne, up_at, upf_same, upf_ne, tn200, tn100, Int.toNat_natCast, Int.reduceToNat]; (try omega); done))) | (with_reducible refine wp_f ?_ ?_; focus (first | omega | (simp (disch := omega) only [gaq, stq, up_ne, up_at, upf_same, upf_ne, tn200, tn100, Int.toNat_natCast, Int.reduceToNat]; (try omega); done))))
            simp (disch := omega) only [bd_some, lm_e, if_pos, if_neg, up_ne, up_at, upf_same, upf_ne, reduceIte, or_true, true_or, Int.reduceToNat, Int.toNat_natCast, tn100, tn200]
            first | exact ⟨rfl, rfl⟩ | exact ⟨trivial, rfl⟩ | exact ⟨trivial, trivial⟩ | exact trivial
          · rw [if_neg c3']
            repeat (first | rw [wp_ret] | rw [wp_lm] | rw [wp_bd] | (rw [u4, wp_ret]; (try simp only [tn200, tn100, Int.toNat_natCast, Int.reduceToNat])) | (rw [u5, wp_ret]; (try simp only [tn200, tn100, Int.toNat_natCast, Int.reduceToNat])) | (rw [u6, wp_ret]; (try simp only [tn200, tn100, Int.toNat_natCast, Int.reduceToNat])) | (with_reducible refine wp_t ?_ ?_; focus (first | omega | (simp (disch := omega) only [gaq, stq, up_ne, up_at, upf_same, upf_ne, tn200, tn100, Int.toNat_natCast, Int.reduceToNat]; (try omega); done))) | (with_reducible refine wp_f ?_ ?_; focus (first | omega | (simp (disch := omega) only [gaq, stq, up_ne, up_at, upf_same, upf_ne, tn200, tn100, Int.toNat_natCast, Int.reduceToNat]; (try omega); done))))
            simp (disch := omega) only [bd_some, lm_e, if_pos, if_neg, up_ne, up_at, upf_same, upf_ne, reduceIte, or_true, true_or, Int.reduceToNat, Int.toNat_natCast, tn100, tn200]
            first | exact ⟨rfl, rfl⟩ | exact ⟨trivial, rfl⟩ | exact ⟨trivial, trivial⟩ | exact trivial
  have r76 : f_X11_send_176 (g : Int) (k : Int) (ν 317 k) ν = some (0, up (up ν 302 g (k : Int)) 303 g (lenNext (ν 315 k) (ν 316 k) (ν 317 k) (μ 17))) := by
    refine ex_of ?_
    unfold f_X11_send_176 lenNext
    simp only [Int.toNat_natCast]
    by_cases c0' : ν 317 k = 0
    · repeat (first | rw [wp_ret] | rw [wp_lm] | rw [wp_bd] | (with_reducible refine wp_t ?_ ?_; focus (first | omega | (simp (disch := omega) only [e412, gaq, stq, up_ne, up_at, upf_same, upf_ne, tn200, tn100, Int.toNat_natCast, Int.reduceToNat]; (try omega); done))) | (with_reducible refine wp_f ?_ ?_; focus (first | omega | (simp (disch := omega) only [e412, gaq, stq, up_ne, up_at, upf_same, upf_ne, tn200, tn100, Int.toNat_natCast, Int.reduceToNat]; (try omega); done))))
      simp (disch := omega) only [e412, e512, e612, bd_some, lm_e, if_pos, if_neg, up_ne, up_at, upf_same, upf_ne, reduceIte, or_true, true_or, Int.reduceToNat, Int.toNat_natCast, tn100, tn200]
      first | exact ⟨rfl, rfl⟩ | exact ⟨trivial, rfl⟩ | exact ⟨trivial, trivial⟩ | exact trivial
    · by_cases c1' : ν 317 k = 1
      · repeat (first | rw [wp_ret] | rw [wp_lm] | rw [wp_bd] | (with_reducible refine wp_t ?_ ?_; focus (first | omega | (simp (disch := omega) only [gaq, stq, up_ne, up_at, upf_same, upf_ne, tn200, tn100, Int.toNat_natCast, Int.reduceToNat]; (try omega); done))) | (with_reducible refine wp_f ?_ ?_; focus (first | omega | (simp (disch := omega) only [gaq, stq, up_ne, up_at, upf_same, upf_ne, tn200, tn100, Int.toNat_natCast, Int.reduceToNat]; (try omega); done))))
        simp (disch := omega) only [e412, e512, e612, bd_some, lm_e, if_pos, if_neg, up_ne, up_at, upf_same, upf_ne, reduceIte, or_true, true_or, Int.reduceToNat, Int.toNat_natCast, tn100, tn200]
        first | exact ⟨rfl, rfl⟩ | exact ⟨trivial, rfl⟩ | exact ⟨trivial, trivial⟩ | exact trivial
      · by_cases c2' : ν 317 k = 2
        · repeat (first | rw [wp_ret] | rw [wp_lm] | rw [wp_bd] | (with_reducible refine wp_t ?_ ?_; focus (first | omega | (simp (disch := omega) only [gaq, stq, up_ne, up_at, upf_same, upf_ne, tn200, tn100, Int.toNat_natCast, Int.reduceToNat]; (try omega); done))) | (with_reducible refine wp_f ?_ ?_; focus (first | omega | (simp (disch := omega) only [gaq, stq, up_ne, up_at, upf_same, upf_ne, tn200, tn100, Int.toNat_natCast, Int.reduceToNat]; (try omega); done))))
          simp (disch := omega) only [e412, e512, e612, bd_some, lm_e, if_pos, if_neg, up_ne, up_at, upf_same, upf_ne, reduceIte, or_true, true_or, Int.reduceToNat, Int.toNat_natCast, tn100, tn200]
          first | exact ⟨rfl, rfl⟩ | exact ⟨trivial, rfl⟩ | exact ⟨trivial, trivial⟩ | exact trivial
        · by_cases c3' : ν 317 k = 3
          · repeat (first | rw [wp_ret] | rw [wp_lm] | rw [wp_bd] | (with_reducible refine wp_t ?_ ?_; focus (first | omega | (simp (disch := omega) only [gaq, stq, up_ne, up_at, upf_same, upf_ne, tn200, tn100, Int.toNat_natCast, Int.reduceToNat]; (try omega); done))) | (with_reducible refine wp_f ?_ ?_; focus (first | omega | (simp (disch := omega) only [gaq, stq, up_ne, up_at, upf_same, upf_ne, tn200, tn100, Int.toNat_natCast, Int.reduceToNat]; (try omega); done))))
            simp (disch := omega) only [e412, e512, e612, bd_some, lm_e, if_pos, if_neg, up_ne, up_at, upf_same, upf_ne, reduceIte, or_true, true_or, Int.reduceToNat, Int.toNat_natCast, tn100, tn200]
            first | exact ⟨rfl, rfl⟩ | exact ⟨trivial, rfl⟩ | exact ⟨trivial, trivial⟩ | exact trivial
          · repeat (first | rw [wp_ret] | rw [wp_lm] | rw [wp_bd] | (with_reducible refine wp_t ?_ ?_; focus (first | omega | (simp (disch := omega) only [gaq, stq, up_ne, up_at, upf_same, upf_ne, tn200, tn100, Int.toNat_natCast, Int.reduceToNat]; (try omega); done))) | (with_reducible refine wp_f ?_ ?_; focus (first | omega | (simp (disch := omega) only [gaq, stq, up_ne, up_at, upf_same, upf_ne, tn200, tn100, Int.toNat_natCast, Int.reduceToNat]; (try omega); done))))
            simp (disch := omega) only [e412, e512, e612, bd_some, lm_e, if_pos, if_neg, up_ne, up_at, upf_same, upf_ne, reduceIte, or_true, true_or, Int.reduceToNat, Int.toNat_natCast, tn100, tn200]
            first | exact ⟨rfl, rfl⟩ | exact ⟨trivial, rfl⟩ | exact ⟨trivial, trivial⟩ | exact trivial
  have rs : f_X11_send ν (g : Int) (k : Int) = some (0, up (up ν 302 g (k : Int)) 303 g (lenNext (ν 315 k) (ν 316 k) (ν 317 k) (μ 17))) := by
    refine ex_of ?_
    unfold f_X11_send f_X11_send_139 f_X11_send_160
    simp only [Int.toNat_natCast]
    by_cases c2' : ν 317 k = 2
    · repeat (first | rw [wp_ret] | rw [wp_lm] | rw [wp_bd] | (rw [f0, wp_ret]; (try simp only [tn200, tn100, Int.toNat_natCast, Int.reduceToNat])) | (rw [f2, wp_ret]; (try simp only [tn200, tn100, Int.toNat_natCast, Int.reduceToNat])) | (rw [f1, wp_ret]; (try simp only [tn200, tn100, Int.toNat_natCast, Int.reduceToNat])) | (rw [k1, wp_ret]; (try simp only [tn200, tn100, Int.toNat_natCast, Int.reduceToNat])) | (rw [rwet, wp_ret]; (try simp only [tn200, tn100, Int.toNat_natCast, Int.reduceToNat])) | (rw [r1, wp_ret]; (try simp only [tn200, tn100, Int.toNat_natCast, Int.reduceToNat])) | (rw [rhig, wp_ret]; (try simp only [tn200, tn100, Int.toNat_natCast, Int.reduceToNat])) | (rw [r76, wp_ret]; (try simp only [tn200, tn100, Int.toNat_natCast, Int.reduceToNat])) | (with_reducible refine wp_t ?_ ?_; focus (first | omega | (simp (disch := omega) only [gaq, stq, up_ne, up_at, upf_same, upf_ne, tn200, tn100, Int.toNat_natCast, Int.reduceToNat]; (try omega); done))) | (with_reducible refine wp_f ?_ ?_; focus (first | omega | (simp (disch := omega) only [gaq, stq, up_ne, up_at, upf_same, upf_ne, tn200, tn100, Int.toNat_natCast, Int.reduceToNat]; (try omega); done))))
      first | exact ⟨rfl, rfl⟩ | exact ⟨trivial, rfl⟩ | exact ⟨trivial, trivial⟩ | exact trivial
    · by_cases c3' : ν 317 k = 3
      · repeat (first | rw [wp_ret] | rw [wp_lm] | rw [wp_bd] | (rw [f0, wp_ret]; (try simp only [tn200, tn100, Int.toNat_natCast, Int.reduceToNat])) | (rw [f2, wp_ret]; (try simp only [tn200, tn100, Int.toNat_natCast, Int.reduceToNat])) | (rw [f1, wp_ret]; (try simp only [tn200, tn100, Int.toNat_natCast, Int.reduceToNat])) | (rw [k1, wp_ret]; (try simp only [tn200, tn100, Int.toNat_natCast, Int.reduceToNat])) | (rw [rwet, wp_ret]; (try simp only [tn200, tn100, Int.toNat_natCast, Int.reduceToNat])) | (rw [r1, wp_ret]; (try simp only [tn200, tn100, Int.toNat_natCast, Int.reduceToNat])) | (rw [rhig, wp_ret]; (try simp only [tn200, tn100, Int.toNat_natCast, Int.reduceToNat])) | (rw [r76, wp_ret]; (try simp only [tn200, tn100, Int.toNat_natCast, Int.reduceToNat])) | (with_reducible refine wp_t ?_ ?_; focus (first | omega | (simp (disch := omega) only [gaq, stq, up_ne, up_at, upf_same, upf_ne, tn200, tn100, Int.toNat_natCast, Int.reduceToNat]; (try omega); done))) | (with_reducible refine wp_f ?_ ?_; focus (first | omega | (simp (disch := omega) only [gaq, stq, up_ne, up_at, upf_same, upf_ne, tn200, tn100, Int.toNat_natCast, Int.reduceToNat]; (try omega); done))))
        first | exact ⟨rfl, rfl⟩ | exact ⟨trivial, rfl⟩ | exact ⟨trivial, trivial⟩ | exact trivial
      · by_cases c4' : ν 317 k = 4
        · repeat (first | rw [wp_ret] | rw [wp_lm] | rw [wp_bd] | (rw [f0, wp_ret]; (try simp only [tn200, tn100, Int.toNat_natCast, Int.reduceToNat])) | (rw [f2, wp_ret]; (try simp only [tn200, tn100, Int.toNat_natCast, Int.reduceToNat])) | (rw [f1, wp_ret]; (try simp only [tn200, tn100, Int.toNat_natCast, Int.reduceToNat])) | (rw [k1, wp_ret]; (try simp only [tn200, tn100, Int.toNat_natCast, Int.reduceToNat])) | (rw [rwet, wp_ret]; (try simp only [tn200, tn100, Int.toNat_natCast, Int.reduceToNat])) | (rw [r1, wp_ret]; (try simp only [tn200, tn100, Int.toNat_natCast, Int.reduceToNat])) | (rw [rhig, wp_ret]; (try simp only [tn200, tn100, Int.toNat_natCast, Int.reduceToNat])) | (rw [rw_, wp_ret]; (try simp only [tn200, tn100, Int.toNat_natCast, Int.reduceToNat])) | (rw [r76, wp_ret]; (try simp only [tn200, tn100, Int.toNat_natCast, Int.reduceToNat])) | (with_reducible refine wp_t ?_ ?_; focus (first | omega | (simp (disch := omega) only [gaq, stq, up_ne, up_at, upf_same, upf_ne, tn200, tn100, Int.toNat_natCast, Int.reduceToNat]; (try omega); done))) | (with_reducible refine wp_f ?_ ?_; focus (first | omega | (simp (disch := omega) only [gaq, stq, up_ne, up_at, upf_same, upf_ne, tn200, tn100, Int.toNat_natCast, Int.reduceToNat]; (try omega); done))))
          first | exact ⟨rfl, rfl⟩ | exact ⟨trivial, rfl⟩ | exact ⟨trivial, trivial⟩ | exact trivial
        · repeat (first | rw [wp_ret] | rw [wp_lm] | rw [wp_bd] | (rw [f0, wp_ret]; (try simp only [tn200, tn100, Int.toNat_natCast, Int.reduceToNat])) | (rw [f2, wp_ret]; (try simp only [tn200, tn100, Int.toNat_natCast, Int.reduceToNat])) | (rw [f1, wp_ret]; (try simp only [tn200, tn100, Int.toNat_natCast, Int.reduceToNat])) | (rw [k1, wp_ret]; (try simp only [tn200, tn100, Int.toNat_natCast, Int.reduceToNat])) | (rw [rwet, wp_ret]; (try simp only [tn200, tn100, Int.toNat_natCast, Int.reduceToNat])) | (rw [r1, wp_ret]; (try simp only [tn200, tn100, Int.toNat_natCast, Int.reduceToNat])) | (rw [rhig, wp_ret]; (try simp only [tn200, tn100, Int.toNat_natCast, Int.reduceToNat])) | (rw [r76, wp_ret]; (try simp only [tn200, tn100, Int.toNat_natCast, Int.reduceToNat])) | (with_reducible refine wp_t ?_ ?_; focus (first | omega | (simp (disch := omega) only [gaq, stq, up_ne, up_at, upf_same, upf_ne, tn200, tn100, Int.toNat_natCast, Int.reduceToNat]; (try omega); done))) | (with_reducible refine wp_f ?_ ?_; focus (first | omega | (simp (disch := omega) only [gaq, stq, up_ne, up_at, upf_same, upf_ne, tn200, tn100, Int.toNat_natCast, Int.reduceToNat]; (try omega); done))))
          first | exact ⟨rfl, rfl⟩ | exact ⟨trivial, rfl⟩ | exact ⟨trivial, trivial⟩ | exact trivial
  generalize lenNext (ν 315 k) (ν 316 k) (ν 317 k) (μ 17) = len at hlen cl rs
  refine step2_do (μ' := up (up (up μ (200 + g) 1 (k : Int)) (200 + g) 2 len) (100 + k) 3 (g : Int)) 0 (ex_of ?_) rs (fun b hb => by simp (disch := omega) only [bd_some, lm_e, if_pos, if_neg, up_ne, up_at, upf_same, upf_ne, reduceIte, or_true, true_or, Int.reduceToNat, Int.toNat_natCast, tn100, tn200]) (by simp (disch := omega) only [bd_some, lm_e, if_pos, if_neg, up_ne, up_at, upf_same, upf_ne, reduceIte, or_true, true_or, Int.reduceToNat, Int.toNat_natCast, tn100, tn200]) (fun b hb => by simp (disch := omega) only [bd_some, lm_e, if_pos, if_neg, up_ne, up_at, upf_same, upf_ne, reduceIte, or_true, true_or, Int.reduceToNat, Int.toNat_natCast, tn100, tn200]) ?_
  · unfold f_X10_send f_X3_sendToStone f_X3_sendToStone_74 f_X0_takeWork
    repeat (first | rw [wp_ret] | rw [wp_lm] | rw [wp_bd] | (rw [e1, wp_ret]; (try simp only [tn200, tn100, Int.toNat_natCast, Int.reduceToNat])) | (rw [e2, wp_ret]; (try simp only [tn200, tn100, Int.toNat_natCast, Int.reduceToNat])) | (rw [hdn, wp_ret]; (try simp only [tn200, tn100, Int.toNat_natCast, Int.reduceToNat])) | (rw [ch, wp_ret]; (try simp only [tn200, tn100, Int.toNat_natCast, Int.reduceToNat])) | (rw [cl, wp_ret]; (try simp only [tn200, tn100, Int.toNat_natCast, Int.reduceToNat])) | (with_reducible refine wp_t ?_ ?_; focus (first | omega | (simp (disch := omega) only [gaq, stq, up_ne, up_at, upf_same, upf_ne, tn200, tn100, Int.toNat_natCast, Int.reduceToNat]; (try omega); done))) | (with_reducible refine wp_f ?_ ?_; focus (first | omega | (simp (disch := omega) only [gaq, stq, up_ne, up_at, upf_same, upf_ne, tn200, tn100, Int.toNat_natCast, Int.reduceToNat]; (try omega); done))))
    first | exact ⟨rfl, rfl⟩ | exact ⟨trivial, rfl⟩ | exact ⟨trivial, trivial⟩ | exact trivial
  · refine Inv2_site hI ?_ (fun b hb => by simp (disch := omega) only [bd_some, lm_e, if_pos, if_neg, up_ne, up_at, upf_same, upf_ne, reduceIte, or_true, true_or, Int.reduceToNat, Int.toNat_natCast, tn100, tn200]) (fun b hb hb2 => by unfold sR at hb; simp (disch := omega) only [bd_some, lm_e, if_pos, if_neg, up_ne, up_at, upf_same, upf_ne, reduceIte, or_true, true_or, Int.reduceToNat, Int.toNat_natCast, tn100, tn200]) (fun j hj => by simp (disch := omega) only [bd_some, lm_e, if_pos, if_neg, up_ne, up_at, upf_same, upf_ne, reduceIte, or_true, true_or, Int.reduceToNat, Int.toNat_natCast, tn100, tn200])
    refine Isite2_take hs g hc.2 k hb.2 hw hf (by omega) (fun b hb hb1 hb2 => by simp (disch := omega) only [bd_some, lm_e, if_pos, if_neg, up_ne, up_at, upf_same, upf_ne, reduceIte, or_true, true_or, Int.reduceToNat, Int.toNat_natCast, tn100, tn200]) (fun b hb hb1 hb2 => by simp (disch := omega) only [bd_some, lm_e, if_pos, if_neg, up_ne, up_at, upf_same, upf_ne, reduceIte, or_true, true_or, Int.reduceToNat, Int.toNat_natCast, tn100, tn200]) (fun j hj => by simp (disch := omega) only [bd_some, lm_e, if_pos, if_neg, up_ne, up_at, upf_same, upf_ne, reduceIte, or_true, true_or, Int.reduceToNat, Int.toNat_natCast, tn100, tn200]) (fun j hj => by simp (disch := omega) only [bd_some, lm_e, if_pos, if_neg, up_ne, up_at, upf_same, upf_ne, reduceIte, or_true, true_or, Int.reduceToNat, Int.toNat_natCast, tn100, tn200]) (by simp (disch := omega) only [bd_some, lm_e, if_pos, if_neg, up_ne, up_at, upf_same, upf_ne, reduceIte, or_true, true_or, Int.reduceToNat, Int.toNat_natCast, tn100, tn200]) (by simp (disch := omega) only [bd_some, lm_e, if_pos, if_neg, up_ne, up_at, upf_same, upf_ne, reduceIte, or_true, true_or, Int.reduceToNat, Int.toNat_natCast, tn100, tn200]) (by simp (disch := omega) only [bd_some, lm_e, if_pos, if_neg, up_ne, up_at, upf_same, upf_ne, reduceIte, or_true, true_or, Int.reduceToNat, Int.toNat_natCast, tn100, tn200]) (by simp (disch := omega) only [bd_some, lm_e, if_pos, if_neg, up_ne, up_at, upf_same, upf_ne, reduceIte, or_true, true_or, Int.reduceToNat, Int.toNat_natCast, tn100, tn200]) (fun j hj hj2 => by simp (disch := omega) only [bd_some, lm_e, if_pos, if_neg, up_ne, up_at, upf_same, upf_ne, reduceIte, or_true, true_or, Int.reduceToNat, Int.toNat_natCast, tn100, tn200]) (by simp (disch := omega) only [bd_some, lm_e, if_pos, if_neg, up_ne, up_at, upf_same, upf_ne, reduceIte, or_true, true_or, Int.reduceToNat, Int.toNat_natCast, tn100, tn200]; omega) (by simp (disch := omega) only [bd_some, lm_e, if_pos, if_neg, up_ne, up_at, upf_same, upf_ne, reduceIte, or_true, true_or, Int.reduceToNat, Int.toNat_natCast, tn100, tn200]; omega) (by simp (disch := omega) only [bd_some, lm_e, if_pos, if_neg, up_ne, up_at, upf_same, upf_ne, reduceIte, or_true, true_or, Int.reduceToNat, Int.toNat_natCast, tn100, tn200]) (fun j hj => by simp (disch := omega) only [bd_some, lm_e, if_pos, if_neg, up_ne, up_at, upf_same, upf_ne, reduceIte, or_true, true_or, Int.reduceToNat, Int.toNat_natCast, tn100, tn200])
