/-! THE SIMULATION, last part (4): the step of the fuel -/
section S17
variable {l : Launch} {D : va_G} {cy : Nat → ClassId} {b : Nat → Nat} {base L : Nat} {xs : Nat → Int32}
theorem rcv_s {e : Int} {av : List AV} (h : shc (rcv av) = e) (he : 0 ≤ e) : ∃ c0 l, av = (2, c0) :: l ∧ shc c0 = e := by
  match av, h with
  | [], h => exact absurd h (by show ¬ (-1 : Int) = e; omega)
  | (2, c0) :: l, h => exact ⟨c0, l, rfl, h⟩
  | (0, c0) :: l, h => exact absurd h (by show ¬ (-1 : Int) = e; omega)
  | (1, c0) :: l, h => exact absurd h (by show ¬ (-1 : Int) = e; omega)
  | (k + 3, c0) :: l, h => exact absurd h (by show ¬ (-1 : Int) = e; omega)
theorem mF_facts {m : Nat} (hm : m < 373) : Cond.code (yM m) (bM m) (mxl m) (rM m) ∈ lw_g ∧ Cond.initialized (yM m).cls ∈ lw_g ∧ ((yM m).cls ≠ "java/lang/invoke/MethodHandle" ∧ (yM m).cls ≠ "java/lang/invoke/VarHandle" ∧ (parseMethodDescriptor (yM m).desc).map (fun d => d.parameters.length) = some (nP m)) ∧ mxl m ≤ 21 := by
  have hF := mfB_ok m (MA_lt hm)
  unfold mfB at hF
  simp only [Bool.and_eq_true, decide_eq_true_eq] at hF
  obtain ⟨⟨⟨h1, h2⟩, h3, h4, h5, h6⟩, h7⟩ := hF
  exact ⟨mem_g (MA1_ok m (MA_lt hm)) rfl, mem_g (MA2_ok m (MA_lt hm)) rfl, ⟨h1, h2, h3⟩, h7⟩
theorem wM_in {m : Nat} (hm : m < 373) : ∀ w ∈ wM m, w ∈ lw_g := fun w h => by
  rcases List.mem_cons.mp h with rfl | h
  · exact (mF_facts hm).1
  · exact h
theorem sM_ms {m : Nat} (hm : m < 373) (hs : sM m = true) : Cond.static (yM m) ∈ lw_g := by
  have hF := mfB_ok m (MA_lt hm)
  unfold mfB at hF
  simp only [Bool.and_eq_true, decide_eq_true_eq] at hF
  obtain ⟨⟨-, -, -, -, h⟩, -⟩ := hF
  rcases h with ⟨-, h⟩ | ⟨h, -⟩
  · exact mem_g (MS1_ok m h) rfl
  · rw [hs] at h; cases h

set_option maxRecDepth 20000 in
theorem fr_l {d d' a RF RL : Nat} (h : d = d' + 1) (hF : d + 10 ≤ RF) (hL : 40 * d + 400 ≤ RL) (ha : a ≤ 21) : d' + 10 + 1 ≤ RF ∧ 8 + (a + 11) + (40 * d' + 400) ≤ RL := by
  subst h
  rw [Nat.mul_succ] at hL
  generalize 40 * d' = t at hL ⊢
  constructor <;> omega
section
variable {p : Program} {e : Env} {R : Room} {s : State} {mid : MethodId} {args : Array Value} {below : List Frame} {meth : Method} {c : Code} {Q : State → Prop} {d m : Nat} {r : AV} {H H' H1 : Hp} {f f1 : Int → Nat} {cells slots n pc k len : Nat} {is' : List AI} {ls st ls' st' : List AV} {la : Array Slot} {sv : List Value} {Hm : Heap} {locs : List Loc} {z : Int} {tb : List (Int × Nat)} {o : JI}
/-- what stands all through a run -/
def gox (l : Launch) (D : va_G) (cy : Nat → ClassId) (b : Nat → Nat) (base L : Nat) (xs : Nat → Int32) (p : Program) (e : Env) (R : Room) (s : State) (mid : MethodId) (args : Array Value) (below : List Frame) (meth : Method) (c : Code) (Q : State → Prop) (d m : Nat) (r : AV) (H H' : Hp) (f : Int → Nat) (cells slots : Nat) : Prop := m < 374 ∧ frm p s mid args meth c D cy base b L xs m ∧ (d + 10 ≤ R.frames ∧ 40 * d + 400 ≤ R.locals) ∧ (cells + ((H' 0 0).toNat - (H 0 0).toNat) ≤ R.cells ∧ slots + (szs (H' 0 0).toNat - szs (H 0 0).toNat) ≤ R.slots) ∧
  ∀ (f' : Int → Nat) (la' : Array Slot) (sv' : List Value) (Hm' : Heap) (locs' : List Loc) (pc' : Nat), (∀ k, okr (H 0 0) k → f' k = f k) → wrl D cy base f' H' Hm' → va_S (aq base) s.heap Hm' locs' → mta L xs H' → retc m pc' r sv' → W p l e R s mid args below meth c Hm' locs' (cells + ((H' 0 0).toNat - (H 0 0).toNat)) (slots + (szs (H' 0 0).toNat - szs (H 0 0).toNat)) Q (F0 mid pc' la' sv')
theorem gox.mono (X : gox l D cy b base L xs p e R s mid args below meth c Q d m r H H' f cells slots) (n1 : H 0 0 ≤ H1 0 0) (n2 : H1 0 0 ≤ H' 0 0) (hag : ∀ k, okr (H 0 0) k → f1 k = f k) : gox l D cy b base L xs p e R s mid args below meth c Q d m r H1 H' f1 (cells + ((H1 0 0).toNat - (H 0 0).toNat)) (slots + (szs (H1 0 0).toNat - szs (H 0 0).toNat)) := by
  have z1 : szs (H 0 0).toNat ≤ szs (H1 0 0).toNat := szs_mono (by omega)
  have z2 : szs (H1 0 0).toNat ≤ szs (H' 0 0).toNat := szs_mono (by omega)
  have ec : cells + ((H1 0 0).toNat - (H 0 0).toNat) + ((H' 0 0).toNat - (H1 0 0).toNat) = cells + ((H' 0 0).toNat - (H 0 0).toNat) := by omega
  have es : slots + (szs (H1 0 0).toNat - szs (H 0 0).toNat) + (szs (H' 0 0).toNat - szs (H1 0 0).toNat) = slots + (szs (H' 0 0).toNat - szs (H 0 0).toNat) := by omega
  refine ⟨X.1, X.2.1, X.2.2.1, ⟨by rw [ec]; exact X.2.2.2.1.1, by rw [es]; exact X.2.2.2.1.2⟩, fun f'' la' sv' Hm' locs' pc'' hag' hw'' hS'' hmt'' hrc => ?_⟩
  rw [ec, es]
  exact X.2.2.2.2 f'' la' sv' Hm' locs' pc'' (fun k hk => (hag' k (hk.mono n1)).trans (hag k hk)) hw'' hS'' hmt'' hrc
theorem gox.go (X : gox l D cy b base L xs p e R s mid args below meth c Q d m r H H' f cells slots) (ih : frmAM l D cy b base L xs n) (hx : ex n d m is' ls st H = some (r, H')) (hk : chk m pc is' = true) (hh : held s D cy base b L xs m f ls st H la sv Hm locs) : W p l e R s mid args below meth c Hm locs cells slots Q (F0 mid pc la sv) :=
  ih p e R s mid args below meth c Q d m pc is' ls st H r H' hx X.1 hk X.2.1 X.2.2.1.1 X.2.2.1.2 f la sv Hm locs cells slots hh X.2.2.2.1.1 X.2.2.2.1.2 X.2.2.2.2
theorem gox.jmp (X : gox l D cy b base L xs p e R s mid args below meth c Q d m r H H' f cells slots) (ih : frmAM l D cy b base L xs n) (hx : ex n d m (blk m k) ls st H = some (r, H')) (hh : held s D cy base b L xs m f ls st H la sv Hm locs) : W p l e R s mid args below meth c Hm locs cells slots Q (F0 mid (lpc m k) la sv) :=
  X.go ih hx (chk_all X.1 k) hh
theorem held.stk {st' : List AV} {sv' : List Value} (hh : held s D cy base b L xs m f ls st H la sv Hm locs) (hs : srel f (H 0 0) st' sv') : held s D cy base b L xs m f ls st' H la sv' Hm locs := by
  obtain ⟨hl, -, hw, hS, hlen, hfk, hmt⟩ := hh
  exact ⟨hl, hs, hw, hS, hlen, hfk, hmt⟩
/-- the callee's word for it: its run's cells fit -/
theorem gox.bnd (X : gox l D cy b base L xs p e R s mid args below meth c Q d m r H H' f cells slots) (n1 : H 0 0 ≤ H1 0 0) (n2 : H1 0 0 ≤ H' 0 0) : cells + ((H1 0 0).toNat - (H 0 0).toNat) ≤ R.cells ∧ slots + (szs (H1 0 0).toNat - szs (H 0 0).toNat) ≤ R.slots := by
  have h := X.2.2.2.1
  have z1 : szs (H 0 0).toNat ≤ szs (H1 0 0).toNat := szs_mono (by omega)
  have z2 : szs (H1 0 0).toNat ≤ szs (H' 0 0).toNat := szs_mono (by omega)
  omega
theorem gox.back (X : gox l D cy b base L xs p e R s mid args below meth c Q d m r H H' f cells slots) (ih : frmAM l D cy b base L xs n) (hh : held s D cy base b L xs m f ls st H la sv Hm locs) (k' : Nat) (r1 : AV) {st2 : List AV} {rest vals : List Value} (hk' : chk m (pc + 3) is' = true) (n1 : H 0 0 ≤ H1 0 0) (n2 : H1 0 0 ≤ H' 0 0) (hn : ex n d m is' ls st2 H1 = some (r, H'))
    (hcase : (rM k' = none ∧ st2 = dpr z.toNat st) ∨ (rM k' ≠ none ∧ st2 = r1 :: dpr z.toNat st)) (hrest : srel f (H 0 0) (dpr z.toNat st) rest)
    (run : va_Run p l e R s mid args below meth c Hm locs cells slots ((H1 0 0).toNat - (H 0 0).toNat) (szs (H1 0 0).toNat - szs (H 0 0).toNat) (F0 mid pc la sv) rest (mQc D cy b base L xs f H k' r1 H1 vals.toArray) (aq base)) : W p l e R s mid args below meth c Hm locs cells slots Q (F0 mid pc la sv) := by
  obtain ⟨hl, hs, hw, hS, hlen, hfk, hmt⟩ := hh
  intro T hT X0
  obtain ⟨v, st₀, t, T', Lc, h0, X', hL, e1, e2, ⟨v2, f', hv, hag, hrr, hw', hmt', hz', hF'⟩, hgo⟩ := run T hT X0
  cases hv
  rw [h0] at hz' hF'
  have hS' : va_S (aq base) s.heap T'.heap (locs ++ Lc) := ⟨Nat.le_trans hS.1 (by rw [e1]; exact hz'), fun q g1 g2 => by rw [e1, hF' q (Nat.lt_of_lt_of_le g1 hS.1) g2]; exact hS.2.1 q g1 g2, fun q hq => by
    rcases List.mem_append.mp hq with h | h
    · exact hS.2.2 q h
    · exact hL q h⟩
  have hrest' := hrest.mono n1 hag
  have hst2 : srel f' (H1 0 0) st2 (v.toList ++ rest) := by
    rcases hrr with ⟨q1, rfl⟩ | ⟨q1, v', rfl, q2⟩
    · rcases hcase with ⟨-, rfl⟩ | ⟨w, -⟩
      · exact hrest'
      · exact absurd q1 w
    · rcases hcase with ⟨w, -⟩ | ⟨-, rfl⟩
      · exact absurd w q1
      · exact ⟨q2, hrest'⟩
  have hfk' : fok b f' := ⟨by rw [hag _ (by unfold okr; omega)]; exact hfk.1, by rw [hag _ (by unfold okr; omega)]; exact hfk.2.1, by rw [hag _ (by unfold okr; omega)]; exact hfk.2.2⟩
  have := (X.mono n1 n2 hag).go (la := la) (sv := v.toList ++ rest) (Hm := T'.heap) (locs := locs ++ Lc) ih hn hk' ⟨hl.mono n1 hag, hst2, by rw [e1]; exact hw', hS', hlen, hfk', hmt'⟩
  obtain ⟨t2, a1, b1⟩ := this T' rfl X'
  exact ⟨t2, hgo t2 a1, b1⟩
theorem gox.stat (X : gox l D cy b base L xs p e R s mid args below meth c Q d m r H H' f cells slots) (ihM : metAM l D cy b base L xs n) (ih : frmAM l D cy b base L xs n) (hh : held s D cy base b L xs m f ls st H la sv Hm locs) (d' k' x : Nat) (r1 : AV) {st2 : List AV} (hdd : d = d' + 1) (hk3 : k' < 373) (hk' : chk m (pc + 3) is' = true) (hdx : decode (bM m) pc = .ok (.invokestatic x, 3)) (hML : (on m, x, k', 0) ∈ ML) (hsM : sM k' = true) (hz : z = (nP k' : Nat)) (hzl : z.toNat ≤ st.length) (hwd : wds (dpr z.toNat st) ≤ 8) (hwa : wds (tkr z.toNat st []) ≤ mxl k') (hx : ex n d' k' (blk k' 0) (lcs (mxl k') (tkr z.toNat st [])) [] H = some (r1, H1)) (hn : ex n d m is' ls st2 H1 = some (r, H')) (hcase : (rM k' = none ∧ st2 = dpr z.toNat st) ∨ (rM k' ≠ none ∧ st2 = r1 :: dpr z.toNat st)) : W p l e R s mid args below meth c Hm locs cells slots Q (F0 mid pc la sv) := by
  obtain ⟨hl, hs, hw, hS, hlen, hfk, hmt⟩ := id hh
  have F := X.2.1
  obtain ⟨hxx, hb, hml, hown, hini, hts, hK, hX, hbb, hbs, hst⟩ := id F
  have hla : la.size = mxl m := by rw [hl.size, hlen]
  have n1 : H 0 0 ≤ H1 0 0 := ex_n n (by omega) (chk_all (by omega) 0) hx
  have n2 : H1 0 0 ≤ H' 0 0 := ex_n n X.1 hk' hn
  obtain ⟨top, rest, rfl, t2, t3, t4⟩ := tkr_rel z.toNat st sv [] [] hs hzl trivial
  rw [List.append_nil] at t3
  obtain ⟨q1, q2, q3, q4⟩ := mF_facts hk3
  have hM := ihM d' k' _ H r1 H1 f _ hx hk3 hwa t3 hmt hfk
  obtain ⟨hfr, hfl⟩ := fr_l hdd X.2.2.1.1 X.2.2.1.2 q4
  refine X.back ih hh k' r1 (vals := top.reverse) hk' n1 n2 hn hcase t4 (va_runS (As := top.reverse) (rest := rest) ⟨hxx, hb, hml, hown, hts⟩ hM (va_cwS (nP k') hts (goodIn_l (fun w hw => ?_)) rfl rfl rfl q3 ⟨hfr, hfl⟩) ⟨mPc_blind, fun U hU hW => mPc_at F hw hS hU hW⟩ rfl ?_ hla ?_ ?_ hdx (X.bnd n1 n2))
  · unfold va_wsS at hw
    rcases List.mem_append.mp hw with h | h
    · simp only [List.mem_cons, List.not_mem_nil, or_false] at h
      rcases h with rfl | rfl | rfl
      · exact mem_g (ML_ok _ hML) rfl
      · exact sM_ms hk3 hsM
      · exact q2
    · exact wM_in hk3 w h
  · rw [List.length_reverse, t2]; omega
  · show top ++ rest = _; rw [List.reverse_reverse]
  · show 2 * 0 + _ ≤ 8
    have := srel_wds t4
    omega
theorem gox.virt (X : gox l D cy b base L xs p e R s mid args below meth c Q d m r H H' f cells slots) (ihM : metAM l D cy b base L xs n) (ih : frmAM l D cy b base L xs n) (hh : held s D cy base b L xs m f ls st H la sv Hm locs) (d' k' x : Nat) (ee : Int) (r1 : AV) {st2 : List AV} (hdd : d = d' + 1) (hk3 : k' < 373) (hk' : chk m (pc + 3) is' = true) (hdx : decode (bM m) pc = .ok (.invokevirtual x, 3)) (hML : (on m, x, k', 1) ∈ ML) (hMV : k' ∈ MV) (hz : z = (nP k' + 1 : Nat)) (hee : 0 ≤ ee ∧ ee < 12 ∧ (clD ee.toNat).1 = (yM k').cls) (hsh : shc (rcv (tkr z.toNat st [])) = ee) (hzl : z.toNat ≤ st.length) (hwd : wds (dpr z.toNat st) ≤ 8) (hwa : wds (tkr z.toNat st []) ≤ mxl k') (hx : ex n d' k' (blk k' 0) (lcs (mxl k') (tkr z.toNat st [])) [] H = some (r1, H1)) (hn : ex n d m is' ls st2 H1 = some (r, H')) (hcase : (rM k' = none ∧ st2 = dpr z.toNat st) ∨ (rM k' ≠ none ∧ st2 = r1 :: dpr z.toNat st)) : W p l e R s mid args below meth c Hm locs cells slots Q (F0 mid pc la sv) := by
  obtain ⟨hl, hs, hw, hS, hlen, hfk, hmt⟩ := id hh
  have F := X.2.1
  obtain ⟨hxx, hb, hml, hown, hini, hts, hK, hX, hbb, hbs, hst⟩ := id F
  have hla : la.size = mxl m := by rw [hl.size, hlen]
  have n1 : H 0 0 ≤ H1 0 0 := ex_n n (by omega) (chk_all (by omega) 0) hx
  have n2 : H1 0 0 ≤ H' 0 0 := ex_n n X.1 hk' hn
  obtain ⟨top, rest, rfl, t2, t3, t4⟩ := tkr_rel z.toNat st sv [] [] hs hzl trivial
  rw [List.append_nil] at t3
  obtain ⟨q1, q2, q3, q4⟩ := mF_facts hk3
  have hM := ihM d' k' _ H r1 H1 f _ hx hk3 hwa t3 hmt hfk
  obtain ⟨hfr, hfl⟩ := fr_l hdd X.2.2.1.1 X.2.2.1.2 q4
  obtain ⟨c0, av', hav, hc0⟩ := rcv_s hsh hee.1
  rw [hav] at t3
  obtain ⟨As, hAs, ho, t5⟩ := srel_a t3 (sh_ne (Or.inl (by omega))).1
  have hlen2 : As.length = nP k' := by
    have := congrArg List.length hAs
    simp at this
    omega
  obtain ⟨ws, fs, w1, w2, w3, w4, w5, -⟩ := hw.obj ho (ci := ee.toNat) (by omega)
  obtain ⟨hc1, -⟩ := cls_at (ci := ee.toNat) (by omega)
  have hrecv := va_recv hK w4 hc1 w1
  rw [hee.2.2] at hrecv
  rw [hAs] at hM
  refine X.back ih hh k' r1 (vals := Value.ref (f c0) :: As) hk' n1 n2 hn hcase t4 (va_runV (C := (yM k').cls) (As := As) (rest := rest) ⟨hxx, hb, hml, hown, hts⟩ hM (cwV (nP k') hts (goodIn_l (wsV_g (mem_g (ML_ok _ hML) rfl) ?_ (mem_g (MV1_ok _ hMV) rfl) q2 q1)) rfl rfl rfl ⟨rfl, q3⟩ ⟨hfr, hfl⟩) ⟨mPc_blind, hrecv, fun U hU hW => mPc_at F hw hS hU hW⟩ rfl hlen2 hla ?_ ?_ hdx (X.bnd n1 n2))
  · have hF := mfB_ok k' (MA_lt hk3)
    unfold mfB at hF
    simp only [Bool.and_eq_true, decide_eq_true_eq] at hF
    obtain ⟨⟨-, -, -, -, h⟩, -⟩ := hF
    rcases h with ⟨-, h⟩ | ⟨-, h⟩
    · have hdis : ∀ a ∈ MV, a ∉ MS := by decide +kernel
      exact absurd h (hdis _ hMV)
    · exact mem_g (MI1_ok _ h) rfl
  · show top ++ rest = _
    have : top = (Value.ref (f c0) :: As).reverse := by rw [← hAs, List.reverse_reverse]
    rw [this]; simp
  · show 2 * 0 + _ ≤ 8
    have := srel_wds t4
    omega
theorem gox.spec (X : gox l D cy b base L xs p e R s mid args below meth c Q d m r H H' f cells slots) (ihM : metAM l D cy b base L xs n) (ih : frmAM l D cy b base L xs n) (hh : held s D cy base b L xs m f ls st H la sv Hm locs) (d' k' x kd : Nat) (ee : Int) (r1 : AV) {st2 : List AV} (hdd : d = d' + 1) (hk3 : k' < 373) (hk' : chk m (pc + 3) is' = true) (hdx : decode (bM m) pc = .ok (.invokespecial x, 3)) (hML : (on m, x, k', kd) ∈ ML) (hkd : kd = 2 ∨ kd = 3) (hMI : k' ∈ MI) (hnm : (yM k').name = "<init>") (hrM : rM k' = none) (hz : z = (nP k' + 1 : Nat)) (hsh : shc (rcv (tkr z.toNat st [])) = ee) (hzl : z.toNat ≤ st.length) (hwd : wds (dpr z.toNat st) ≤ 8) (hwa : wds (tkr z.toNat st []) ≤ mxl k') (hx : ex n d' k' (blk k' 0) (lcs (mxl k') (tkr z.toNat st [])) [] H = some (r1, H1)) (hn : ex n d m is' ls st2 H1 = some (r, H')) (hcase : (rM k' = none ∧ st2 = dpr z.toNat st) ∨ (rM k' ≠ none ∧ st2 = r1 :: dpr z.toNat st)) (hee : 0 ≤ ee) : W p l e R s mid args below meth c Hm locs cells slots Q (F0 mid pc la sv) := by
  obtain ⟨hl, hs, hw, hS, hlen, hfk, hmt⟩ := id hh
  have F := X.2.1
  obtain ⟨hxx, hb, hml, hown, hini, hts, hK, hX, hbb, hbs, hst⟩ := id F
  have hla : la.size = mxl m := by rw [hl.size, hlen]
  have n1 : H 0 0 ≤ H1 0 0 := ex_n n (by omega) (chk_all (by omega) 0) hx
  have n2 : H1 0 0 ≤ H' 0 0 := ex_n n X.1 hk' hn
  obtain ⟨top, rest, rfl, t2, t3, t4⟩ := tkr_rel z.toNat st sv [] [] hs hzl trivial
  rw [List.append_nil] at t3
  obtain ⟨q1, q2, q3, q4⟩ := mF_facts hk3
  have hM := ihM d' k' _ H r1 H1 f _ hx hk3 hwa t3 hmt hfk
  obtain ⟨hfr, hfl⟩ := fr_l hdd X.2.2.1.1 X.2.2.1.2 q4
  obtain ⟨c0, av', hav, hc0⟩ := rcv_s hsh hee
  rw [hav] at t3
  obtain ⟨As, hAs, ho, t5⟩ := srel_a t3 (sh_ne (Or.inl (by omega))).1
  have hlen2 : As.length = nP k' := by
    have := congrArg List.length hAs
    simp at this
    omega
  rw [hAs] at hM
  have htop : (F0 mid pc la (top ++ rest)).stack = As.reverse ++ .ref (f c0) :: rest := by
    show top ++ rest = _
    have : top = (Value.ref (f c0) :: As).reverse := by rw [← hAs, List.reverse_reverse]
    rw [this]; simp
  have hroom : 2 * (F0 mid pc la (top ++ rest)).monitorRoom + (rest.map fun v => v.category).sum ≤ 8 := by
    show 2 * 0 + _ ≤ 8
    have := srel_wds t4
    omega
  have hwM : wM k' = Cond.code (yM k') (bM k') (mxl k') none :: lw_g := by unfold wM; rw [hrM]
  have hml' := ML_ok _ hML
  rcases hkd with rfl | rfl
  · exact X.back ih hh k' r1 (vals := Value.ref (f c0) :: As) hk' n1 n2 hn hcase t4 (va_runI (As := As) (rest := rest) ⟨hxx, hb, hml, hown, hts⟩ hM (cwI (nP k') hts (goodIn_l (wM_in hk3)) hwM rfl rfl (hts _ q2) (hts _ (mem_g hml' rfl)) (hts _ (mem_g (MI1_ok _ hMI) rfl)) hnm q3 ⟨hfr, hfl⟩) ⟨mPc_blind, fun U hU hW => mPc_at F hw hS hU hW⟩ rfl hlen2 hla htop hroom hdx (X.bnd n1 n2))
  · have hne : va_Nw (Cond.methodLinkNest (cn (on m)) x (yM k') "EvenOars") s := hst.2.2.1 _ hML rfl
    exact X.back ih hh k' r1 (vals := Value.ref (f c0) :: As) hk' n1 n2 hn hcase t4 (va_runIN (As := As) (rest := rest) ⟨hxx, hb, hml, hown, hts⟩ hM ⟨va_cnB (nP k') hts (goodIn_l (wM_in hk3)) hwM rfl rfl hne (hts _ q2) q3 ⟨hfr, hfl⟩, hnm, hts _ (mem_g (MI1_ok _ hMI) rfl)⟩ ⟨mPc_blind, fun U hU hW => mPc_at F hw hS hU hW⟩ rfl hlen2 hla htop hroom hdx (X.bnd n1 n2))
/-- the orders, one by one -/
theorem o_14 {x : Int} {pc' : Nat} (X : gox l D cy b base L xs p e R s mid args below meth c Q d m r H H' f cells slots) (ih : frmAM l D cy b base L xs n) (hd : decode (bM m) pc = .ok (o, len)) (hk' : chk m pc' is' = true) (hc : ck1 m pc (14, k, z, tb) o len = some pc') (hh : held s D cy base b L xs m f ls ((0, x) :: st') H la sv Hm locs) (hex : (if am_cn z x 0 = true then ex n d m (blk m k) ls st' H else ex n d m is' ls st' H) = some (r, H')) : W p l e R s mid args below meth c Hm locs cells slots Q (F0 mid pc la sv) := by
  have hs := hh.2.1
  replace hc : ck_14 m pc (14, k, z, tb) o len = some pc' := hc
  unfold ck_14 at hc
  split at hc
  · obtain ⟨h, rfl⟩ := opg_s hc
    simp only [Bool.and_eq_true, decide_eq_true_eq] at h
    obtain ⟨rfl, rfl, hz, ht⟩ := h
    replace hs := srel_i hs
    obtain ⟨x', sv', rfl, hx', hs⟩ := hs
    exact b_if X.2.1.1 X.2.1.2.1 hz hx' hd ht (fun q => X.jmp ih (by rw [if_pos q] at hex; exact hex) (hh.stk hs)) (fun q => X.go ih (by rw [if_neg q] at hex; exact hex) hk' (hh.stk hs))
  · cases hc
theorem o_15 {x y : Int} {pc' : Nat} (X : gox l D cy b base L xs p e R s mid args below meth c Q d m r H H' f cells slots) (ih : frmAM l D cy b base L xs n) (hd : decode (bM m) pc = .ok (o, len)) (hk' : chk m pc' is' = true) (hc : ck1 m pc (15, k, z, tb) o len = some pc') (hh : held s D cy base b L xs m f ls ((0, y) :: (0, x) :: st') H la sv Hm locs) (hex : (if am_cn z x y = true then ex n d m (blk m k) ls st' H else ex n d m is' ls st' H) = some (r, H')) : W p l e R s mid args below meth c Hm locs cells slots Q (F0 mid pc la sv) := by
  have hs := hh.2.1
  replace hc : ck_15 m pc (15, k, z, tb) o len = some pc' := hc
  unfold ck_15 at hc
  split at hc
  · obtain ⟨h, rfl⟩ := opg_s hc
    simp only [Bool.and_eq_true, decide_eq_true_eq] at h
    obtain ⟨rfl, rfl, hz, ht⟩ := h
    replace hs := srel_i hs
    obtain ⟨y', sv', rfl, hy', hs⟩ := hs
    replace hs := srel_i hs
    obtain ⟨x', sv', rfl, hx', hs⟩ := hs
    exact b_ic X.2.1.1 X.2.1.2.1 hz hx' hy' hd ht (fun q => X.jmp ih (by rw [if_pos q] at hex; exact hex) (hh.stk hs)) (fun q => X.go ih (by rw [if_neg q] at hex; exact hex) hk' (hh.stk hs))
  · cases hc
theorem o_16 {pc' : Nat} (X : gox l D cy b base L xs p e R s mid args below meth c Q d m r H H' f cells slots) (ih : frmAM l D cy b base L xs n) (hd : decode (bM m) pc = .ok (o, len)) (hc : ck1 m pc (16, k, z, tb) o len = some pc') (hh : held s D cy base b L xs m f ls st H la sv Hm locs) (hex : ex n d m (blk m k) ls st H = some (r, H')) : W p l e R s mid args below meth c Hm locs cells slots Q (F0 mid pc la sv) := by
  replace hc : ck_16 m pc (16, k, z, tb) o len = some pc' := hc
  unfold ck_16 at hc
  split at hc
  · obtain ⟨h, rfl⟩ := opg_s hc
    simp only [Bool.and_eq_true, decide_eq_true_eq] at h
    obtain ⟨rfl, ht⟩ := h
    exact lv_goto X.2.1.1 X.2.1.2.1 hd ht (X.jmp ih hex hh)
  · cases hc
theorem o_35 {pc' d' : Nat} {r1 : AV} (X : gox l D cy b base L xs p e R s mid args below meth c Q d m r H H' f cells slots) (ihM : metAM l D cy b base L xs n) (ih : frmAM l D cy b base L xs n) (hd : decode (bM m) pc = .ok (o, len)) (hk' : chk m pc' is' = true) (hc : ck1 m pc (35, k, z, tb) o len = some pc') (hh : held s D cy base b L xs m f ls st H la sv Hm locs) (hdd : d = d' + 1) (hg : (z.toNat ≤ st.length ∧ wds (dpr z.toNat st) ≤ 8) ∧ wds (tkr z.toNat st []) ≤ mxl k) (hx : ex n d' k (blk k 0) (lcs (mxl k) (tkr z.toNat st [])) [] H = some (r1, H1)) (hn : ex n d m is' ls (r1 :: dpr z.toNat st) H1 = some (r, H')) : W p l e R s mid args below meth c Hm locs cells slots Q (F0 mid pc la sv) := by
  replace hc : ck_35 m pc (35, k, z, tb) o len = some pc' := hc
  unfold ck_35 at hc
  split at hc
  · obtain ⟨h, rfl⟩ := opg_s hc
    simp only [Bool.and_eq_true, decide_eq_true_eq] at h
    obtain ⟨rfl, h2, h3, h4, h5, h6⟩ := h
    exact X.stat ihM ih hh d' k _ r1 hdd h6 hk' hd (List.contains_iff_mem.mp h2) h3 h4 hg.1.1 hg.1.2 hg.2 hx hn (Or.inr ⟨h5, rfl⟩)
  · cases hc
theorem o_37 {pc' d' : Nat} {r1 : AV} (X : gox l D cy b base L xs p e R s mid args below meth c Q d m r H H' f cells slots) (ihM : metAM l D cy b base L xs n) (ih : frmAM l D cy b base L xs n) (hd : decode (bM m) pc = .ok (o, len)) (hk' : chk m pc' is' = true) (hc : ck1 m pc (37, k, z, tb) o len = some pc') (hh : held s D cy base b L xs m f ls st H la sv Hm locs) (hdd : d = d' + 1) (hg : (z.toNat ≤ st.length ∧ wds (dpr z.toNat st) ≤ 8) ∧ wds (tkr z.toNat st []) ≤ mxl k) (hx : ex n d' k (blk k 0) (lcs (mxl k) (tkr z.toNat st [])) [] H = some (r1, H1)) (hn : ex n d m is' ls (dpr z.toNat st) H1 = some (r, H')) : W p l e R s mid args below meth c Hm locs cells slots Q (F0 mid pc la sv) := by
  replace hc : ck_37 m pc (37, k, z, tb) o len = some pc' := hc
  unfold ck_37 at hc
  split at hc
  · obtain ⟨h, rfl⟩ := opg_s hc
    simp only [Bool.and_eq_true, decide_eq_true_eq] at h
    obtain ⟨rfl, h2, h3, h4, h5, h6⟩ := h
    exact X.stat ihM ih hh d' k _ r1 hdd h6 hk' hd (List.contains_iff_mem.mp h2) h3 h4 hg.1.1 hg.1.2 hg.2 hx hn (Or.inl ⟨h5, rfl⟩)
  · cases hc
theorem o_36 {pc' d' : Nat} {r1 : AV} (X : gox l D cy b base L xs p e R s mid args below meth c Q d m r H H' f cells slots) (ihM : metAM l D cy b base L xs n) (ih : frmAM l D cy b base L xs n) (hd : decode (bM m) pc = .ok (o, len)) (hk' : chk m pc' is' = true) (hc : ck1 m pc (36, k, z, tb) o len = some pc') (hh : held s D cy base b L xs m f ls st H la sv Hm locs) (hdd : d = d' + 1) (hg : ([shc (rcv (tkr z.toNat st []))] = tb.map Prod.fst ∧ z.toNat ≤ st.length ∧ wds (dpr z.toNat st) ≤ 8) ∧ wds (tkr z.toNat st []) ≤ mxl k) (hx : ex n d' k (blk k 0) (lcs (mxl k) (tkr z.toNat st [])) [] H = some (r1, H1)) (hn : ex n d m is' ls (r1 :: dpr z.toNat st) H1 = some (r, H')) : W p l e R s mid args below meth c Hm locs cells slots Q (F0 mid pc la sv) := by
  replace hc : ck_36 m pc (36, k, z, tb) o len = some pc' := hc
  unfold ck_36 at hc
  split at hc
  · rename_i x ee htb
    obtain ⟨h, rfl⟩ := opg_s hc
    simp only [Bool.and_eq_true, decide_eq_true_eq] at h
    obtain ⟨rfl, h2, h3, h4, h5, h6, h7⟩ := h
    replace htb : tb = [(ee, 0)] := htb
    subst htb
    exact X.virt ihM ih hh d' k _ ee r1 hdd h7 hk' hd (List.contains_iff_mem.mp h2) (List.contains_iff_mem.mp h3) h4 h5 (List.cons.inj hg.1.1).1 hg.1.2.1 hg.1.2.2 hg.2 hx hn (Or.inr ⟨h6, rfl⟩)
  · cases hc
theorem o_38 {pc' d' : Nat} {r1 : AV} (X : gox l D cy b base L xs p e R s mid args below meth c Q d m r H H' f cells slots) (ihM : metAM l D cy b base L xs n) (ih : frmAM l D cy b base L xs n) (hd : decode (bM m) pc = .ok (o, len)) (hk' : chk m pc' is' = true) (hc : ck1 m pc (38, k, z, tb) o len = some pc') (hh : held s D cy base b L xs m f ls st H la sv Hm locs) (hdd : d = d' + 1) (hg : ([shc (rcv (tkr z.toNat st []))] = tb.map Prod.fst ∧ z.toNat ≤ st.length ∧ wds (dpr z.toNat st) ≤ 8) ∧ wds (tkr z.toNat st []) ≤ mxl k) (hx : ex n d' k (blk k 0) (lcs (mxl k) (tkr z.toNat st [])) [] H = some (r1, H1)) (hn : ex n d m is' ls (dpr z.toNat st) H1 = some (r, H')) : W p l e R s mid args below meth c Hm locs cells slots Q (F0 mid pc la sv) := by
  replace hc : ck_38 m pc (38, k, z, tb) o len = some pc' := hc
  unfold ck_38 at hc
  split at hc
  · rename_i x ee htb
    obtain ⟨h, rfl⟩ := opg_s hc
    simp only [Bool.and_eq_true, decide_eq_true_eq] at h
    obtain ⟨rfl, h2, h3, h4, h5, h6, h7⟩ := h
    replace htb : tb = [(ee, 0)] := htb
    subst htb
    exact X.virt ihM ih hh d' k _ ee r1 hdd h7 hk' hd (List.contains_iff_mem.mp h2) (List.contains_iff_mem.mp h3) h4 h5 (List.cons.inj hg.1.1).1 hg.1.2.1 hg.1.2.2 hg.2 hx hn (Or.inl ⟨h6, rfl⟩)
  · rename_i x ee htb
    obtain ⟨h, rfl⟩ := opg_s hc
    simp only [Bool.and_eq_true, Bool.or_eq_true, decide_eq_true_eq] at h
    obtain ⟨rfl, h2, h3, h4, h5, h6, h7, h8⟩ := h
    replace htb : tb = [(ee, 1)] := htb
    subst htb
    rcases h2 with h2 | h2
    · exact X.spec ihM ih hh d' k _ 2 ee r1 hdd h7 hk' hd (List.contains_iff_mem.mp h2) (Or.inl rfl) (List.contains_iff_mem.mp h3) h4 h6 h5 (List.cons.inj hg.1.1).1 hg.1.2.1 hg.1.2.2 hg.2 hx hn (Or.inl ⟨h6, rfl⟩) h8
    · exact X.spec ihM ih hh d' k _ 3 ee r1 hdd h7 hk' hd (List.contains_iff_mem.mp h2) (Or.inr rfl) (List.contains_iff_mem.mp h3) h4 h6 h5 (List.cons.inj hg.1.1).1 hg.1.2.1 hg.1.2.2 hg.2 hx hn (Or.inl ⟨h6, rfl⟩) h8
  · cases hc
/-- the end of a run -/
theorem gox.fin (X : gox l D cy b base L xs p e R s mid args below meth c Q d m r H H f cells slots) (hh : held s D cy base b L xs m f ls st H la sv Hm locs) (hr : retc m pc r sv) : W p l e R s mid args below meth c Hm locs cells slots Q (F0 mid pc la sv) := by
  have := X.2.2.2.2 f la sv Hm locs pc (fun _ _ => rfl) hh.2.2.1 hh.2.2.2.1 hh.2.2.2.2.2.2 hr
  rw [Nat.sub_self, Nat.sub_self, Nat.add_zero, Nat.add_zero] at this
  exact this
theorem o_39 {pc' : Nat} (X : gox l D cy b base L xs p e R s mid args below meth c Q d m r H H f cells slots) (hd : decode (bM m) pc = .ok (o, len)) (hc : ck1 m pc (39, k, z, tb) o len = some pc') (hh : held s D cy base b L xs m f ls [] H la sv Hm locs) : W p l e R s mid args below meth c Hm locs cells slots Q (F0 mid pc la sv) := by
  replace hc : ck_39 m pc (39, k, z, tb) o len = some pc' := hc
  unfold ck_39 at hc
  obtain ⟨h, -⟩ := opg_s hc
  simp only [Bool.and_eq_true, decide_eq_true_eq] at h
  obtain ⟨rfl, rfl, h2⟩ := h
  exact X.fin hh (Or.inl ⟨hd, h2, srel_nil hh.2.1⟩)
theorem o_40 {pc' : Nat} {x : Int} (X : gox l D cy b base L xs p e R s mid args below meth c Q d m (vi x) H H f cells slots) (hd : decode (bM m) pc = .ok (o, len)) (hc : ck1 m pc (40, k, z, tb) o len = some pc') (hh : held s D cy base b L xs m f ls [(0, x)] H la sv Hm locs) : W p l e R s mid args below meth c Hm locs cells slots Q (F0 mid pc la sv) := by
  replace hc : ck_40 m pc (40, k, z, tb) o len = some pc' := hc
  unfold ck_40 at hc
  obtain ⟨h, -⟩ := opg_s hc
  simp only [Bool.and_eq_true, decide_eq_true_eq] at h
  obtain ⟨rfl, rfl, h2⟩ := h
  obtain ⟨x', sv', rfl, rfl, hs⟩ := srel_i hh.2.1
  obtain rfl := srel_nil hs
  exact X.fin hh (Or.inr (Or.inl ⟨hd, x', rfl, rfl, Or.inl h2⟩))
theorem o_41 {pc' : Nat} {x : Int} (X : gox l D cy b base L xs p e R s mid args below meth c Q d m (vl x) H H f cells slots) (hd : decode (bM m) pc = .ok (o, len)) (hc : ck1 m pc (41, k, z, tb) o len = some pc') (hh : held s D cy base b L xs m f ls [(1, x)] H la sv Hm locs) : W p l e R s mid args below meth c Hm locs cells slots Q (F0 mid pc la sv) := by
  replace hc : ck_41 m pc (41, k, z, tb) o len = some pc' := hc
  unfold ck_41 at hc
  obtain ⟨h, -⟩ := opg_s hc
  simp only [Bool.and_eq_true, decide_eq_true_eq] at h
  obtain ⟨rfl, rfl, h2⟩ := h
  obtain ⟨x', sv', rfl, rfl, hs⟩ := srel_l hh.2.1
  obtain rfl := srel_nil hs
  exact X.fin hh (Or.inr (Or.inr ⟨hd, h2, x', rfl, rfl⟩))
theorem o_42 {pc' : Nat} {x : Int} (X : gox l D cy b base L xs p e R s mid args below meth c Q d m (vi x) H H f cells slots) (hd : decode (bM m) pc = .ok (o, len)) (hc : ck1 m pc (42, k, z, tb) o len = some pc') (hbv : x = 0 ∨ x = 1) (hh : held s D cy base b L xs m f ls [(0, x)] H la sv Hm locs) : W p l e R s mid args below meth c Hm locs cells slots Q (F0 mid pc la sv) := by
  replace hc : ck_42 m pc (42, k, z, tb) o len = some pc' := hc
  unfold ck_42 at hc
  obtain ⟨h, -⟩ := opg_s hc
  simp only [Bool.and_eq_true, decide_eq_true_eq] at h
  obtain ⟨rfl, rfl, h2⟩ := h
  obtain ⟨x', sv', rfl, rfl, hs⟩ := srel_i hh.2.1
  obtain rfl := srel_nil hs
  have hb2 : x' = 0 ∨ x' = 1 := by
    rcases hbv with q | q
    · exact Or.inl (Int32.toInt_inj.mp q)
    · exact Or.inr (Int32.toInt_inj.mp q)
  exact X.fin hh (Or.inr (Or.inl ⟨hd, x', rfl, rfl, Or.inr ⟨h2, hb2⟩⟩))
theorem o_45 {pc' : Nat} {x : Int} (X : gox l D cy b base L xs p e R s mid args below meth c Q d m r H H' f cells slots) (ih : frmAM l D cy b base L xs n) (hd : decode (bM m) pc = .ok (o, len)) (hc : ck1 m pc (45, k, z, tb) o len = some pc') (hh : held s D cy base b L xs m f ls ((0, x) :: st') H la sv Hm locs) (hex : ex n d m (blk m (swl x k tb)) ls st' H = some (r, H')) : W p l e R s mid args below meth c Hm locs cells slots Q (F0 mid pc la sv) := by
  obtain ⟨x', sv', rfl, hx', hs⟩ := srel_i hh.2.1
  replace hc : ck_45 m pc (45, k, z, tb) o len = some pc' := hc
  unfold ck_45 at hc
  split at hc
  · rename_i dflt lo hi offs
    obtain ⟨h, -⟩ := opg_s hc
    simp only [Bool.and_eq_true, decide_eq_true_eq] at h
    obtain ⟨-, h2, h3, h4, h5⟩ := h
    have key := sw_tab (m := m) (pc := pc) (x := x) (lo := lo) (d := k) (offs := offs) offs.size tb 0 h3 (by omega) (fun j hj => by
      have h6 := List.all_eq_true.mp h5 j (List.mem_range.mpr hj)
      split at h6
      · rename_i q f0 g1 g2
        simp only [Bool.and_eq_true, decide_eq_true_eq] at h6
        rw [Nat.zero_add]
        exact ⟨f0, g2, by rw [show tb[j]? = some q from g1]; simp [h6.1], q, g1, h6.2⟩
      · cases h6)
    by_cases hin : lo ≤ x ∧ x < lo + (offs.size : Nat)
    · obtain ⟨f0, g1, g2⟩ := key.1 (by simpa using hin)
      refine lv_tableIn X.2.1.1 X.2.1.2.1 hd (by rw [hx']; omega) (by rw [hx']; omega) (by rw [hx']; exact g1) g2 (X.jmp ih hex (hh.stk hs))
    · have g2 := key.2 (by simp; omega)
      rw [g2] at hex
      exact lv_tableOut X.2.1.1 X.2.1.2.1 hd (by rw [hx']; omega) h2 (X.jmp ih hex (hh.stk hs))
  · rename_i dflt ps
    obtain ⟨h, -⟩ := opg_s hc
    simp only [Bool.and_eq_true, decide_eq_true_eq] at h
    obtain ⟨-, h2, h3, h4, h5⟩ := h
    have key := sw_look (x := x) h2 tb ps.toList h3 h5
    exact lv_lookup X.2.1.1 X.2.1.2.1 hd h4 rfl (by rw [hx']; exact key) (X.jmp ih hex (hh.stk hs))
  · cases hc
theorem o_am {pc' : Nat} {i : AI} (X : gox l D cy b base L xs p e R s mid args below meth c Q d m r H H' f cells slots) (ih : frmAM l D cy b base L xs n) (hd : decode (bM m) pc = .ok (o, len)) (hk' : chk m pc' is' = true) (hc : ck1 m pc i o len = some pc') (hh : held s D cy base b L xs m f ls st H la sv Hm locs) (ha : am1 i ls st H = some (ls', st', H1)) (hex : ex n d m is' ls' st' H1 = some (r, H')) : W p l e R s mid args below meth c Hm locs cells slots Q (F0 mid pc la sv) := by
  have n1 : H 0 0 ≤ H1 0 0 := am1_n ha hc
  have n2 : H1 0 0 ≤ H' 0 0 := ex_n n X.1 hk' hex
  have hb := X.bnd n1 n2
  have hR := X.2.2.1
  refine sim1 X.2.1 ⟨by omega, by omega⟩ hd hc ha f la sv Hm locs cells slots hh (by omega) (by omega) fun f' la' sv' Hm' locs' hag hh' => ?_
  exact (X.mono n1 n2 hag).go ih hex hk' hh'
end
theorem frm_succ {n : Nat} (ihM : metAM l D cy b base L xs n) (ih : frmAM l D cy b base L xs n) : frmAM l D cy b base L xs (n + 1) := by
  intro p e R s mid args below meth c Q d m pc is ls st H r H' hex hm hk F hRf hRl f la sv Hm locs cells slots hh hRc hRs hret
  have X : gox l D cy b base L xs p e R s mid args below meth c Q d m r H H' f cells slots := ⟨hm, F, ⟨hRf, hRl⟩, ⟨hRc, hRs⟩, hret⟩
  clear hret hRc hRs F hRf hRl
  cases is with
  | nil => cases hex
  | cons i is' =>
    obtain ⟨op, k, z, tb⟩ := i
    by_cases h17 : op = 17
    · subst h17
      have e1 : pc = lpc m k := by
        unfold chk at hk
        rw [if_pos rfl] at hk
        exact of_decide_eq_true hk
      rw [e1]
      exact X.jmp ih hex hh
    · obtain ⟨o, len, pc', hd, hc, hk'⟩ := opc_s hk h17
      replace hex : stp (ex n) d m ((op, k, z, tb) :: is') ls st H = some (r, H') := hex
      unfold stp at hex
      dsimp only at hex
      split at hex
      · split at hex
        · exact o_14 X ih hd hk' hc hh hex
        · cases hex
      · split at hex
        · exact o_15 X ih hd hk' hc hh hex
        · cases hex
      · exact o_16 X ih hd hc hh hex
      · exact absurd rfl h17
      · split at hex
        · cases hex
        · split at hex
          · rename_i hg
            split at hex
            · rename_i hx
              exact o_35 X ihM ih hd hk' hc hh rfl hg hx hex
            · cases hex
          · cases hex
      · split at hex
        · cases hex
        · split at hex
          · rename_i hg
            split at hex
            · rename_i hx
              exact o_36 X ihM ih hd hk' hc hh rfl hg hx hex
            · cases hex
          · cases hex
      · split at hex
        · cases hex
        · split at hex
          · rename_i hg
            split at hex
            · rename_i hx
              exact o_37 X ihM ih hd hk' hc hh rfl hg hx hex
            · cases hex
          · cases hex
      · split at hex
        · cases hex
        · split at hex
          · rename_i hg
            split at hex
            · rename_i hx
              exact o_38 X ihM ih hd hk' hc hh rfl hg hx hex
            · cases hex
          · cases hex
      · split at hex
        · cases hex
          exact o_39 X hd hc hh
        · cases hex
      · split at hex
        · cases hex
          exact o_40 X hd hc hh
        · cases hex
      · split at hex
        · cases hex
          exact o_41 X hd hc hh
        · cases hex
      · split at hex
        · split at hex
          · rename_i hbv
            cases hex
            exact o_42 X hd hc hbv hh
          · cases hex
        · cases hex
      · split at hex
        · exact o_45 X ih hd hc hh hex
        · cases hex
      · split at hex
        · rename_i ha
          exact o_am X ih hd hk' hc hh ha hex
        · cases hex
theorem frm_all : ∀ n, frmAM l D cy b base L xs n
  | 0 => fun _ _ _ _ _ _ _ _ _ _ _ _ _ _ _ _ _ _ _ hex => by cases hex
  | n + 1 => frm_succ (met_of (frm_all n)) (frm_all n)
end S17
