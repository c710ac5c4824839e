/-! THE CLAIM OUT OF ONE WALK OF THE LAW'S BODY. Your part is whole_start (and what it stands on); all else here is the same for every law, but numbers. -/
def R_law : String := "StoneWorksLaw"
def lw_P (b : Addr) (xs : List Int32) (args : Array Value) (s : State) : Prop := args = #[.ref b] ∧ s.IntsAt b xs ∧ xs.length ≤ 3072 ∧ (Jvm.Cond.and given_1 narrow_1).before args s = true
def lw_Q (_ : Array Value) (s : State) (o : Outcome) (t : State) : Prop := o = .returned (some (.int 1)) ∧ Framed s o t [] 600000 7302250
def lw_Z (below : List Frame) (a : Array Value) (s : State) : State → Prop := fun t => ∃ o, t.status = .running ∧ Ended t below o ∧ lw_Q a s o t
/-- the law's own end, with 1 on the stack, nothing written that was there before, its room as the claim has it -/
theorem lw_ret {p : Program} {l : Launch} {e : Env} {s : State} {m : MethodId} {below : List Frame} {meth : Method} {c : Code} {b : Nat} (hx : p.tables.exec = Jvm.exec) (hb : c.code = code) (hr : meth.sig.returnType = ret) (hlocks : meth.locks = false) {pc : Nat} {H : Heap} {ls : Array Slot} (hdg : decode code pc = .ok (.ireturn, 1)) : W p l e room_1 s m #[Value.ref b] below meth c H [] 600000 7302250 (lw_Z below #[Value.ref b] s) (F0 m pc ls [.int 1]) := by
  intro T hT X
  obtain ⟨fs, hret, hrun, hended, hW, hframe⟩ := X.leave (v := some (.int 1)) (hlocks := hlocks) (fun h => by rw [hr] at h; cases h)
  have hmeth' : T.vm.method? m = some meth := X.method'
  refine ⟨T.setFrames fs, ?_, .returned (some (.int 1)), hrun, hended, rfl, ⟨_, rfl⟩, hW, hframe⟩
  jvm_step X.here [X.here.top, hx, hb, hdg, hmeth', hr, ret, narrow_b1]
  (try refine ⟨rfl, ?_⟩); (try refine ⟨rfl, ?_⟩)
  first | (intro acts; rw [hret _ acts rfl rfl rfl]) | rw [hret _ _ rfl rfl rfl]
  exact Steps.refl _
/-- what holds at the law's entry: the machine, the code, the tables' words (any of lw_tbl by 'hts w (by decide +kernel)'), the script of L ints xs at the cell b, what the Statement gives of the start (any of its parts by flat_of_before) -/
def lw_At (p : Program) (s : State) (m : MethodId) (meth : Method) (c : Code) (b L : Nat) (xs : Nat → Int32) : Prop :=
  p.tables.exec = Jvm.exec ∧ c.code = code ∧ meth.sig.returnType = ret ∧ c.maxLocals = 4 ∧ s.vm.findClass R_law = some m.cls ∧ (∀ w ∈ lw_tbl, w.before #[Value.ref b] s = true) ∧ va_X b L xs s s.heap ∧ b < s.heap.size ∧ meth.locks = false ∧ (Jvm.Cond.and given_1 narrow_1).before #[Value.ref b] s = true
section LOOP
variable {p : Program} {l : Launch} {e : Env} {s : State} {m : MethodId} {below : List Frame} {meth : Method} {c : Code} {D : va_G} {A : Nat → Prop} {cy : Nat → ClassId} {b L : Nat} {xs : Nat → Int32}
theorem r_lawret {tys : List (ClassId × FieldType)} {ly : Lay} {ids : List Nat} {ad : Nat → Nat} {μ : Mem} {lv : LV} {cells slots : Nat} (C : Cx p s m #[Value.ref b] meth c D tys A 4 cL_law RL (some .boolean)) (hA : ∀ q, A q → s.heap.size ≤ q) (hc : cells ≤ 600000) (hs : slots ≤ 7302250) : V p l e room_1 s m #[Value.ref b] below meth c cells slots (lw_Z below #[Value.ref b] s) D A ly ids ad 4 μ 715 lv [nu 1] := by
  intro ho hg H locs hP hD hS ls hl
  refine va_forget (fun q hq => hA _ (hS.2.2 q hq)) ?_
  refine W.widen hc hs ?_
  exact lw_ret C.1 C.2.1 C.2.2.2.2.2.2.2.1 C.2.2.2.2.2.2.2.2.1 dL_law_715
set_option maxHeartbeats 4000000 in
theorem law_loop {Inv : Mem → Prop} (hO : PureOK Inv) (C : Cx p s m #[Value.ref b] meth c D (tyl cy) A 4 cL_law RL (some .boolean)) (S : Scr s A b L xs) (hA : ∀ q, A q → s.heap.size ≤ q) : ∀ (n k : Nat), 513 ≤ k + n → ∀ (i : Int) (μ : Mem) (ids : List Nat) (ad : Nat → Nat) (cells slots : Nat), i = 6 * (k : Int) → k ≤ 513 → Inv μ → idsOK ids μ → ad 1040 = b → CF ad A s → cells ≤ 200 + k → slots ≤ 20000 + 6 * k → V p l e room_1 s m #[Value.ref b] below meth c cells slots (lw_Z below #[Value.ref b] s) D A (lay cy) ids ad 4 μ 18 [some (rf 1040), some (rf 0), some (rf 300), some (nu i)] []
  | n, k, hn, i, μ, ids, ad, cells, slots, hi, hk, hI, hok, hb, hCF, hc, hs => by
    have hL := S.2.2.2
    refine r_iload_n C 3 rfl rfl dL_law_18 ?_
    refine r_aload_n C 0 rfl rfl dL_law_19 ?_
    refine r_slen C S hb dL_law_20 ?_
    refine r_bipush C dL_law_21 rfl ?_
    refine r_isub C dL_law_23 ?_
    refine r_icmp_gt C 714 ⟨by omega, by omega⟩ ⟨by omega, by omega⟩ rfl dL_law_24 (fun _ => ?_) (fun hgo => ?_)
    · refine r_iconst C dL_law_714 ?_
      exact r_lawret C hA (by omega) (by omega)
    · match n, hn with
      | 0, hn => exact absurd hn (by omega)
      | n + 1, hn =>
        refine r_aload_n C 0 rfl rfl dL_law_27 ?_
        refine r_iload_n C 3 rfl rfl dL_law_28 ?_
        refine r_sld C S hb ⟨by omega, by omega⟩ dL_law_29 ?_
        refine r_bipush C dL_law_30 rfl ?_
        refine r_iand C dL_law_32 ?_
        refine law_case hO C hCF S hb ⟨by omega, by omega⟩ (by omega) (by omega) hok hI (fun μ2 ids1 ad1 c1 s1 hI2 hok2 hb2 hCF2 hc1 hs1 => ?_)
        refine r_iinc C rfl rfl (by decide) dL_law_708 ?_
        refine r_goto C 18 rfl dL_law_711 ?_
        exact law_loop hO C S hA n (k + 1) (by omega) (i + 6) μ2 ids1 ad1 c1 s1 (by omega) (by omega) hI2 hok2 hb2 hCF2 (by omega) (by omega)
end LOOP
