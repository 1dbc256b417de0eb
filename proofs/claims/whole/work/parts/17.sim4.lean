/-! THE SIMULATION, last part (4): the step of the fuel -/
section S17
variable {l : Launch} {D : va_G} {cy : Nat → ClassId} {b : Nat → Nat} {base L : Nat} {xs : Nat → Int32}
theorem rcv_s {e : Int} {av : List AV} (h : shc (rcv av) = e) (he : 0 ≤ e) : ∃ c0 l, av = (2, c0) :: l ∧ shc c0 = e := by
  match av, h with
  | [], h => exact absurd h (by show ¬ (-1 : Int) = e; omega)
  | (2, c0) :: l, h => exact ⟨c0, l, rfl, h⟩
  | (0, c0) :: l, h => exact absurd h (by show ¬ (-1 : Int) = e; omega)
  | (1, c0) :: l, h => exact absurd h (by show ¬ (-1 : Int) = e; omega)
  | (k + 3, c0) :: l, h => exact absurd h (by show ¬ (-1 : Int) = e; omega)
theorem mF_facts {m : Nat} (hm : m < 373) : Cond.code (yM m) (bM m) (mxl m) (rM m) ∈ lw_g ∧ Cond.initialized (yM m).cls ∈ lw_g ∧ ((yM m).cls ≠ "java/lang/invoke/MethodHandle" ∧ (yM m).cls ≠ "java/lang/invoke/VarHandle" ∧ (parseMethodDescriptor (yM m).desc).map (fun d => d.parameters.length) = some (nP m)) ∧ mxl m ≤ 21 := by
  have hF := mfB_ok m (MA_lt hm)
  unfold mfB at hF
  simp only [Bool.and_eq_true, decide_eq_true_eq] at hF
  obtain ⟨⟨⟨h1, h2⟩, h3, h4, h5, h6⟩, h7⟩ := hF
  exact ⟨mem_g (MA1_ok m (MA_lt hm)) rfl, mem_g (MA2_ok m (MA_lt hm)) rfl, ⟨h1, h2, h3⟩, h7⟩
theorem wM_in {m : Nat} (hm : m < 373) : ∀ w ∈ wM m, w ∈ lw_g := fun w h => by
  rcases List.mem_cons.mp h with rfl | h
  · exact (mF_facts hm).1
  · exact h
theorem sM_ms {m : Nat} (hm : m < 373) (hs : sM m = true) : Cond.static (yM m) ∈ lw_g := by
  have hF := mfB_ok m (MA_lt hm)
  unfold mfB at hF
  simp only [Bool.and_eq_true, decide_eq_true_eq] at hF
  obtain ⟨⟨-, -, -, -, h⟩, -⟩ := hF
  rcases h with ⟨-, h⟩ | ⟨h, -⟩
  · exact mem_g (MS1_ok m h) rfl
  · rw [hs] at h; cases h
set_option maxHeartbeats 4000000 in
theorem frm_succ {n : Nat} (ihM : metAM l D cy b base L xs n) (ih : frmAM l D cy b base L xs n) : frmAM l D cy b base L xs (n + 1) := by
  intro p e R s mid args below meth c Q d m pc is ls st H r H' hex hm hk F hRf hRl f la sv Hm locs cells slots hh hRc hRs hret
  have hex : stp (ex n) d m is ls st H = some (r, H') := hex
  obtain ⟨hl, hs, hw, hS, hlen, hfk, hmt⟩ := id hh
  obtain ⟨hxx, hb, hml, hown, hini, hts, hK, hX, hbb, hbs, hst⟩ := id F
  have hla : la.size = mxl m := by rw [hl.size, hlen]
  cases is with
  | nil => cases hex
  | cons i is' =>
    obtain ⟨op, k, z, tb⟩ := i
    have jmp : ∀ (k' : Nat) (st' : List AV) (sv' : List Value), ex n d m (blk m k') ls st' H = some (r, H') → srel f (H 0 0) st' sv' → W p l e R s mid args below meth c Hm locs cells slots Q (F0 mid (lpc m k') la sv') := fun k' st' sv' h hs' =>
      ih p e R s mid args below meth c Q d m (lpc m k') (blk m k') ls st' H r H' h hm (chk_all hm k') F hRf hRl f la sv' Hm locs cells slots ⟨hl, hs', hw, hS, hlen, hfk, hmt⟩ hRc hRs hret
    by_cases h17 : op = 17
    · subst h17
      have e1 : pc = lpc m k := by
        unfold chk at hk
        rw [if_pos rfl] at hk
        exact of_decide_eq_true hk
      rw [e1]
      exact jmp k st sv hex hs
    · obtain ⟨o, len, pc', hd, hc, hk'⟩ := opc_s hk h17
      have nxt : ∀ (st' : List AV) (sv' : List Value), ex n d m is' ls st' H = some (r, H') → srel f (H 0 0) st' sv' → W p l e R s mid args below meth c Hm locs cells slots Q (F0 mid pc' la sv') := fun st' sv' h hs' =>
        ih p e R s mid args below meth c Q d m pc' is' ls st' H r H' h hm hk' F hRf hRl f la sv' Hm locs cells slots ⟨hl, hs', hw, hS, hlen, hfk, hmt⟩ hRc hRs hret
      -- a call
      have back : ∀ (d' k' : Nat) (av : List AV) (r1 : AV) (H1 : Hp) (st2 : List AV) (rest vals : List Value), d = d' + 1 → k' < 373 → pc' = pc + 3 → ex n d' k' (blk k' 0) (lcs (mxl k') av) [] H = some (r1, H1) → ex n d m is' ls st2 H1 = some (r, H') →
          ((rM k' = none ∧ st2 = dpr z.toNat st) ∨ (rM k' ≠ none ∧ st2 = r1 :: dpr z.toNat st)) → srel f (H 0 0) (dpr z.toNat st) rest →
          va_Run p l e R s mid args below meth c Hm locs cells slots ((H1 0 0).toNat - (H 0 0).toNat) (szs (H1 0 0).toNat - szs (H 0 0).toNat) (F0 mid pc la sv) rest (mQc D cy b base L xs f H k' r1 H1 vals.toArray) (aq base) → W p l e R s mid args below meth c Hm locs cells slots Q (F0 mid pc la sv) := by
        intro d' k' av r1 H1 st2 rest vals hdd hk3 hpc hx hn hcase hrest run
        have n1 : H 0 0 ≤ H1 0 0 := ex_n n (by omega) (chk_all (by omega) 0) hx
        have n2 : H1 0 0 ≤ H' 0 0 := ex_n n hm hk' hn
        have z1 : szs (H 0 0).toNat ≤ szs (H1 0 0).toNat := szs_mono (by omega)
        have z2 : szs (H1 0 0).toNat ≤ szs (H' 0 0).toNat := szs_mono (by omega)
        intro T hT X
        obtain ⟨v, st₀, t, T', Lc, h0, X', hL, e1, e2, ⟨v2, f', hv, hag, hrr, hw', hmt', hz', hF'⟩, hgo⟩ := run T hT X
        cases hv
        rw [h0] at hz' hF'
        have hS' : va_S (aq base) s.heap T'.heap (locs ++ Lc) := ⟨Nat.le_trans hS.1 (by rw [e1]; exact hz'), fun q g1 g2 => by rw [e1, hF' q (Nat.lt_of_lt_of_le g1 hS.1) g2]; exact hS.2.1 q g1 g2, fun q hq => by
          rcases List.mem_append.mp hq with h | h
          · exact hS.2.2 q h
          · exact hL q h⟩
        have hrest' := hrest.mono n1 hag
        have hst2 : srel f' (H1 0 0) st2 (v.toList ++ rest) := by
          rcases hrr with ⟨q1, rfl⟩ | ⟨q1, v', rfl, q2⟩
          · rcases hcase with ⟨-, rfl⟩ | ⟨w, -⟩
            · exact hrest'
            · exact absurd q1 w
          · rcases hcase with ⟨w, -⟩ | ⟨-, rfl⟩
            · exact absurd w q1
            · exact ⟨q2, hrest'⟩
        have hfk' : fok b f' := ⟨by rw [hag _ (by unfold okr; omega)]; exact hfk.1, by rw [hag _ (by unfold okr; omega)]; exact hfk.2.1, by rw [hag _ (by unfold okr; omega)]; exact hfk.2.2⟩
        have := ih p e R s mid args below meth c Q d m pc' is' ls st2 H1 r H' hn hm hk' F hRf hRl f' la (v.toList ++ rest) T'.heap (locs ++ Lc) (cells + ((H1 0 0).toNat - (H 0 0).toNat)) (slots + (szs (H1 0 0).toNat - szs (H 0 0).toNat)) ⟨hl.mono n1 hag, hst2, by rw [e1]; exact hw', hS', hlen, hfk', hmt'⟩ (by omega) (by omega) (fun f'' la' sv' Hm' locs' pc'' hag' hw'' hS'' hmt'' hrc => by
            have := hret f'' la' sv' Hm' locs' pc'' (fun k hk => (hag' k (hk.mono n1)).trans (hag k hk)) hw'' hS'' hmt'' hrc
            rw [show cells + ((H1 0 0).toNat - (H 0 0).toNat) + ((H' 0 0).toNat - (H1 0 0).toNat) = cells + ((H' 0 0).toNat - (H 0 0).toNat) by omega, show slots + (szs (H1 0 0).toNat - szs (H 0 0).toNat) + (szs (H' 0 0).toNat - szs (H1 0 0).toNat) = slots + (szs (H' 0 0).toNat - szs (H 0 0).toNat) by omega]
            exact this)
        rw [hpc] at this
        obtain ⟨t2, a1, b1⟩ := this T' rfl X'
        exact ⟨t2, hgo t2 a1, b1⟩
      -- the bounds of a callee
      have bnd : ∀ (d' k' : Nat) (r1 : AV) (H1 : Hp) (av : List AV) (st2 : List AV), k' < 373 → ex n d' k' (blk k' 0) (lcs (mxl k') av) [] H = some (r1, H1) → ex n d m is' ls st2 H1 = some (r, H') → cells + ((H1 0 0).toNat - (H 0 0).toNat) ≤ R.cells ∧ slots + (szs (H1 0 0).toNat - szs (H 0 0).toNat) ≤ R.slots := by
        intro d' k' r1 H1 av st2 hk3 hx hn
        have n1 : H 0 0 ≤ H1 0 0 := ex_n n (by omega) (chk_all (by omega) 0) hx
        have n2 : H1 0 0 ≤ H' 0 0 := ex_n n hm hk' hn
        have z1 : szs (H 0 0).toNat ≤ szs (H1 0 0).toNat := szs_mono (by omega)
        have z2 : szs (H1 0 0).toNat ≤ szs (H' 0 0).toNat := szs_mono (by omega)
        omega
      have stat : ∀ (d' k' x : Nat) (r1 : AV) (H1 : Hp) (st2 : List AV), d = d' + 1 → k' < 373 → pc' = pc + 3 → decode (bM m) pc = .ok (.invokestatic x, 3) → (on m, x, k', 0) ∈ ML → sM k' = true → z = (nP k' : Nat) → z.toNat ≤ st.length → wds (dpr z.toNat st) ≤ 8 → wds (tkr z.toNat st []) ≤ mxl k' → ex n d' k' (blk k' 0) (lcs (mxl k') (tkr z.toNat st [])) [] H = some (r1, H1) → ex n d m is' ls st2 H1 = some (r, H') → ((rM k' = none ∧ st2 = dpr z.toNat st) ∨ (rM k' ≠ none ∧ st2 = r1 :: dpr z.toNat st)) → W p l e R s mid args below meth c Hm locs cells slots Q (F0 mid pc la sv) := by
        intro d' k' x r1 H1 st2 hdd hk3 hpc hdx hML hsM hz hzl hwd hwa hx hn hcase
        obtain ⟨top, rest, rfl, t2, t3, t4⟩ := tkr_rel z.toNat st sv [] [] hs hzl trivial
        rw [List.append_nil] at t3
        obtain ⟨q1, q2, q3, q4⟩ := mF_facts hk3
        have hM := ihM d' k' _ H r1 H1 f _ hx hk3 hwa t3 hmt hfk
        refine back d' k' _ r1 H1 st2 rest top.reverse hdd hk3 hpc hx hn hcase t4 (va_runS (As := top.reverse) (rest := rest) ⟨hxx, hb, hml, hown, hts⟩ hM (va_cwS (nP k') hts (goodIn_l (fun w hw => ?_)) rfl rfl rfl q3 ⟨?_, ?_⟩) ⟨mPc_blind, fun U hU hW => mPc_at F hw hS hU hW⟩ rfl ?_ hla ?_ ?_ hdx (bnd d' k' r1 H1 _ st2 hk3 hx hn))
        · unfold va_wsS at hw
          rcases List.mem_append.mp hw with h | h
          · simp only [List.mem_cons, List.not_mem_nil, or_false] at h
            rcases h with rfl | rfl | rfl
            · exact mem_g (ML_ok _ hML) rfl
            · exact sM_ms hk3 hsM
            · exact q2
          · exact wM_in hk3 w h
        · show d' + 10 + 1 ≤ _; omega
        · show 8 + (mxl k' + 11) + (40 * d' + 400) ≤ _; omega
        · rw [List.length_reverse, t2]; omega
        · show top ++ rest = _; rw [List.reverse_reverse]
        · show 2 * 0 + _ ≤ 8
          have := srel_wds t4
          omega
      have virt : ∀ (d' k' x : Nat) (ee : Int) (r1 : AV) (H1 : Hp) (st2 : List AV), d = d' + 1 → k' < 373 → pc' = pc + 3 → decode (bM m) pc = .ok (.invokevirtual x, 3) → (on m, x, k', 1) ∈ ML → k' ∈ MV → z = (nP k' + 1 : Nat) → 0 ≤ ee ∧ ee < 12 ∧ (clD ee.toNat).1 = (yM k').cls → shc (rcv (tkr z.toNat st [])) = ee → z.toNat ≤ st.length → wds (dpr z.toNat st) ≤ 8 → wds (tkr z.toNat st []) ≤ mxl k' → ex n d' k' (blk k' 0) (lcs (mxl k') (tkr z.toNat st [])) [] H = some (r1, H1) → ex n d m is' ls st2 H1 = some (r, H') → ((rM k' = none ∧ st2 = dpr z.toNat st) ∨ (rM k' ≠ none ∧ st2 = r1 :: dpr z.toNat st)) → W p l e R s mid args below meth c Hm locs cells slots Q (F0 mid pc la sv) := by
        intro d' k' x ee r1 H1 st2 hdd hk3 hpc hdx hML hMV hz hee hsh hzl hwd hwa hx hn hcase
        obtain ⟨top, rest, rfl, t2, t3, t4⟩ := tkr_rel z.toNat st sv [] [] hs hzl trivial
        rw [List.append_nil] at t3
        obtain ⟨q1, q2, q3, q4⟩ := mF_facts hk3
        have hM := ihM d' k' _ H r1 H1 f _ hx hk3 hwa t3 hmt hfk
        obtain ⟨c0, av', hav, hc0⟩ := rcv_s hsh hee.1
        rw [hav] at t3
        obtain ⟨As, hAs, ho, t5⟩ := srel_a t3 (sh_ne (Or.inl (by omega))).1
        have hlen2 : As.length = nP k' := by
          have := congrArg List.length hAs
          simp at this
          omega
        obtain ⟨ws, fs, w1, w2, w3, w4, w5, -⟩ := hw.obj ho (ci := ee.toNat) (by omega)
        obtain ⟨hc1, -⟩ := cls_at (ci := ee.toNat) (by omega)
        have hrecv := va_recv hK w4 hc1 w1
        rw [hee.2.2] at hrecv
        rw [hAs] at hM
        refine back d' k' _ r1 H1 st2 rest (Value.ref (f c0) :: As) hdd hk3 hpc hx hn hcase t4 (va_runV (C := (yM k').cls) (As := As) (rest := rest) ⟨hxx, hb, hml, hown, hts⟩ hM (cwV (nP k') hts (goodIn_l (wsV_g (mem_g (ML_ok _ hML) rfl) ?_ (mem_g (MV1_ok _ hMV) rfl) q2 q1)) rfl rfl rfl ⟨rfl, q3⟩ ⟨?_, ?_⟩) ⟨mPc_blind, hrecv, fun U hU hW => mPc_at F hw hS hU hW⟩ rfl hlen2 hla ?_ ?_ hdx (bnd d' k' r1 H1 _ st2 hk3 hx hn))
        · have hF := mfB_ok k' (MA_lt hk3)
          unfold mfB at hF
          simp only [Bool.and_eq_true, decide_eq_true_eq] at hF
          obtain ⟨⟨-, -, -, -, h⟩, -⟩ := hF
          rcases h with ⟨-, h⟩ | ⟨-, h⟩
          · have hdis : ∀ a ∈ MV, a ∉ MS := by decide +kernel
            exact absurd h (hdis _ hMV)
          · exact mem_g (MI1_ok _ h) rfl
        · show d' + 10 + 1 ≤ _; omega
        · show 8 + (mxl k' + 11) + (40 * d' + 400) ≤ _; omega
        · show top ++ rest = _
          have : top = (Value.ref (f c0) :: As).reverse := by rw [← hAs, List.reverse_reverse]
          rw [this]; simp
        · show 2 * 0 + _ ≤ 8
          have := srel_wds t4
          omega
      have spec : ∀ (d' k' x kd : Nat) (ee : Int) (r1 : AV) (H1 : Hp) (st2 : List AV), d = d' + 1 → k' < 373 → pc' = pc + 3 → decode (bM m) pc = .ok (.invokespecial x, 3) → (on m, x, k', kd) ∈ ML → kd = 2 ∨ kd = 3 → k' ∈ MI → (yM k').name = "<init>" → rM k' = none → z = (nP k' + 1 : Nat) → shc (rcv (tkr z.toNat st [])) = ee → z.toNat ≤ st.length → wds (dpr z.toNat st) ≤ 8 → wds (tkr z.toNat st []) ≤ mxl k' → ex n d' k' (blk k' 0) (lcs (mxl k') (tkr z.toNat st [])) [] H = some (r1, H1) → ex n d m is' ls st2 H1 = some (r, H') → ((rM k' = none ∧ st2 = dpr z.toNat st) ∨ (rM k' ≠ none ∧ st2 = r1 :: dpr z.toNat st)) → 0 ≤ ee → W p l e R s mid args below meth c Hm locs cells slots Q (F0 mid pc la sv) := by
        intro d' k' x kd ee r1 H1 st2 hdd hk3 hpc hdx hML hkd hMI hnm hrM hz hsh hzl hwd hwa hx hn hcase hee
        obtain ⟨top, rest, rfl, t2, t3, t4⟩ := tkr_rel z.toNat st sv [] [] hs hzl trivial
        rw [List.append_nil] at t3
        obtain ⟨q1, q2, q3, q4⟩ := mF_facts hk3
        have hM := ihM d' k' _ H r1 H1 f _ hx hk3 hwa t3 hmt hfk
        obtain ⟨c0, av', hav, hc0⟩ := rcv_s hsh hee
        rw [hav] at t3
        obtain ⟨As, hAs, ho, t5⟩ := srel_a t3 (sh_ne (Or.inl (by omega))).1
        have hlen2 : As.length = nP k' := by
          have := congrArg List.length hAs
          simp at this
          omega
        rw [hAs] at hM
        have htop : (F0 mid pc la (top ++ rest)).stack = As.reverse ++ .ref (f c0) :: rest := by
          show top ++ rest = _
          have : top = (Value.ref (f c0) :: As).reverse := by rw [← hAs, List.reverse_reverse]
          rw [this]; simp
        have hroom : 2 * (F0 mid pc la (top ++ rest)).monitorRoom + (rest.map fun v => v.category).sum ≤ 8 := by
          show 2 * 0 + _ ≤ 8
          have := srel_wds t4
          omega
        have hf : d' + 10 + 1 ≤ R.frames ∧ 8 + (mxl k' + 11) + (40 * d' + 400) ≤ R.locals := by omega
        have hwM : wM k' = Cond.code (yM k') (bM k') (mxl k') none :: lw_g := by unfold wM; rw [hrM]
        have hml' := ML_ok _ hML
        rcases hkd with rfl | rfl
        · exact back d' k' _ r1 H1 st2 rest (Value.ref (f c0) :: As) hdd hk3 hpc hx hn hcase t4 (va_runI (As := As) (rest := rest) ⟨hxx, hb, hml, hown, hts⟩ hM (cwI (nP k') hts (goodIn_l (wM_in hk3)) hwM rfl rfl (hts _ q2) (hts _ (mem_g hml' rfl)) (hts _ (mem_g (MI1_ok _ hMI) rfl)) hnm q3 hf) ⟨mPc_blind, fun U hU hW => mPc_at F hw hS hU hW⟩ rfl hlen2 hla htop hroom hdx (bnd d' k' r1 H1 _ st2 hk3 hx hn))
        · have hne : va_Nw (Cond.methodLinkNest (cn (on m)) x (yM k') "EvenOars") s := hst.2.2.1 _ hML rfl
          exact back d' k' _ r1 H1 st2 rest (Value.ref (f c0) :: As) hdd hk3 hpc hx hn hcase t4 (va_runIN (As := As) (rest := rest) ⟨hxx, hb, hml, hown, hts⟩ hM ⟨va_cnB (nP k') hts (goodIn_l (wM_in hk3)) hwM rfl rfl hne (hts _ q2) q3 hf, hnm, hts _ (mem_g (MI1_ok _ hMI) rfl)⟩ ⟨mPc_blind, fun U hU hW => mPc_at F hw hS hU hW⟩ rfl hlen2 hla htop hroom hdx (bnd d' k' r1 H1 _ st2 hk3 hx hn))
      unfold stp at hex
      dsimp only at hex
      split at hex
      · -- 14
        split at hex
        · replace hc : ck_14 m pc (14, k, z, tb) o len = some pc' := hc
          unfold ck_14 at hc
          split at hc
          · obtain ⟨h, rfl⟩ := opg_s hc
            simp only [Bool.and_eq_true, decide_eq_true_eq] at h
            obtain ⟨rfl, rfl, hz, ht⟩ := h
            replace hs := srel_i hs
            obtain ⟨x', sv', rfl, hx', hs⟩ := hs
            exact b_if hxx hb hz hx' hd ht (fun q => jmp _ _ _ (by rw [if_pos q] at hex; exact hex) hs) (fun q => nxt _ _ (by rw [if_neg q] at hex; exact hex) hs)
          · cases hc
        · cases hex
      · -- 15
        split at hex
        · replace hc : ck_15 m pc (15, k, z, tb) o len = some pc' := hc
          unfold ck_15 at hc
          split at hc
          · obtain ⟨h, rfl⟩ := opg_s hc
            simp only [Bool.and_eq_true, decide_eq_true_eq] at h
            obtain ⟨rfl, rfl, hz, ht⟩ := h
            replace hs := srel_i hs
            obtain ⟨y', sv', rfl, hy', hs⟩ := hs
            replace hs := srel_i hs
            obtain ⟨x', sv', rfl, hx', hs⟩ := hs
            exact b_ic hxx hb hz hx' hy' hd ht (fun q => jmp _ _ _ (by rw [if_pos q] at hex; exact hex) hs) (fun q => nxt _ _ (by rw [if_neg q] at hex; exact hex) hs)
          · cases hc
        · cases hex
      · -- 16
        replace hc : ck_16 m pc (16, k, z, tb) o len = some pc' := hc
        unfold ck_16 at hc
        split at hc
        · obtain ⟨h, rfl⟩ := opg_s hc
          simp only [Bool.and_eq_true, decide_eq_true_eq] at h
          obtain ⟨rfl, ht⟩ := h
          exact lv_goto hxx hb hd ht (jmp _ _ _ hex hs)
        · cases hc
      · exact absurd rfl h17
      · -- 35
        replace hc : ck_35 m pc (35, k, z, tb) o len = some pc' := hc
        unfold ck_35 at hc
        split at hc
        · obtain ⟨h, hpc⟩ := opg_s hc
          simp only [Bool.and_eq_true, decide_eq_true_eq] at h
          obtain ⟨rfl, h2, h3, h4, h5, h6⟩ := h
          split at hex
          · cases hex
          · rename_i d'
            split at hex
            · rename_i hg
              split at hex
              · rename_i r1 H1 hx
                exact stat d' k _ r1 H1 _ rfl h6 hpc hd (List.contains_iff_mem.mp h2) h3 h4 hg.1.1 hg.1.2 hg.2 hx hex (Or.inr ⟨h5, rfl⟩)
              · cases hex
            · cases hex
        · cases hc
      · -- 36
        replace hc : ck_36 m pc (36, k, z, tb) o len = some pc' := hc
        unfold ck_36 at hc
        split at hc
        · rename_i x ee htb
          obtain ⟨h, hpc⟩ := opg_s hc
          simp only [Bool.and_eq_true, decide_eq_true_eq] at h
          obtain ⟨rfl, h2, h3, h4, h5, h6, h7⟩ := h
          replace htb : tb = [(ee, 0)] := htb
          subst htb
          split at hex
          · cases hex
          · rename_i d'
            split at hex
            · rename_i hg
              split at hex
              · rename_i r1 H1 hx
                exact virt d' k _ ee r1 H1 _ rfl h7 hpc hd (List.contains_iff_mem.mp h2) (List.contains_iff_mem.mp h3) h4 h5 (List.cons.inj hg.1.1).1 hg.1.2.1 hg.1.2.2 hg.2 hx hex (Or.inr ⟨h6, rfl⟩)
              · cases hex
            · cases hex
        · cases hc
      · -- 37
        replace hc : ck_37 m pc (37, k, z, tb) o len = some pc' := hc
        unfold ck_37 at hc
        split at hc
        · obtain ⟨h, hpc⟩ := opg_s hc
          simp only [Bool.and_eq_true, decide_eq_true_eq] at h
          obtain ⟨rfl, h2, h3, h4, h5, h6⟩ := h
          split at hex
          · cases hex
          · rename_i d'
            split at hex
            · rename_i hg
              split at hex
              · rename_i r1 H1 hx
                exact stat d' k _ r1 H1 _ rfl h6 hpc hd (List.contains_iff_mem.mp h2) h3 h4 hg.1.1 hg.1.2 hg.2 hx hex (Or.inl ⟨h5, rfl⟩)
              · cases hex
            · cases hex
        · cases hc
      · -- 38
        replace hc : ck_38 m pc (38, k, z, tb) o len = some pc' := hc
        unfold ck_38 at hc
        split at hc
        · rename_i x ee htb
          obtain ⟨h, hpc⟩ := opg_s hc
          simp only [Bool.and_eq_true, decide_eq_true_eq] at h
          obtain ⟨rfl, h2, h3, h4, h5, h6, h7⟩ := h
          replace htb : tb = [(ee, 0)] := htb
          subst htb
          split at hex
          · cases hex
          · rename_i d'
            split at hex
            · rename_i hg
              split at hex
              · rename_i r1 H1 hx
                exact virt d' k _ ee r1 H1 _ rfl h7 hpc hd (List.contains_iff_mem.mp h2) (List.contains_iff_mem.mp h3) h4 h5 (List.cons.inj hg.1.1).1 hg.1.2.1 hg.1.2.2 hg.2 hx hex (Or.inl ⟨h6, rfl⟩)
              · cases hex
            · cases hex
        · rename_i x ee htb
          obtain ⟨h, hpc⟩ := opg_s hc
          simp only [Bool.and_eq_true, Bool.or_eq_true, decide_eq_true_eq] at h
          obtain ⟨rfl, h2, h3, h4, h5, h6, h7, h8⟩ := h
          replace htb : tb = [(ee, 1)] := htb
          subst htb
          split at hex
          · cases hex
          · rename_i d'
            split at hex
            · rename_i hg
              split at hex
              · rename_i r1 H1 hx
                rcases h2 with h2 | h2
                · exact spec d' k _ 2 ee r1 H1 _ rfl h7 hpc hd (List.contains_iff_mem.mp h2) (Or.inl rfl) (List.contains_iff_mem.mp h3) h4 h6 h5 (List.cons.inj hg.1.1).1 hg.1.2.1 hg.1.2.2 hg.2 hx hex (Or.inl ⟨h6, rfl⟩) h8
                · exact spec d' k _ 3 ee r1 H1 _ rfl h7 hpc hd (List.contains_iff_mem.mp h2) (Or.inr rfl) (List.contains_iff_mem.mp h3) h4 h6 h5 (List.cons.inj hg.1.1).1 hg.1.2.1 hg.1.2.2 hg.2 hx hex (Or.inl ⟨h6, rfl⟩) h8
              · cases hex
            · cases hex
        · cases hc
      · -- 39
        replace hc : ck_39 m pc (39, k, z, tb) o len = some pc' := hc
        unfold ck_39 at hc
        obtain ⟨h, -⟩ := opg_s hc
        simp only [Bool.and_eq_true, decide_eq_true_eq] at h
        obtain ⟨rfl, rfl, h2⟩ := h
        split at hex
        · cases hex
          have := hret f la sv Hm locs pc (fun _ _ => rfl) hw hS hmt (Or.inl ⟨hd, h2, srel_nil hs⟩)
          simpa using this
        · cases hex
      · -- 40
        replace hc : ck_40 m pc (40, k, z, tb) o len = some pc' := hc
        unfold ck_40 at hc
        obtain ⟨h, -⟩ := opg_s hc
        simp only [Bool.and_eq_true, decide_eq_true_eq] at h
        obtain ⟨rfl, rfl, h2⟩ := h
        split at hex
        · cases hex
          replace hs := srel_i hs
          obtain ⟨x', sv', rfl, rfl, hs⟩ := hs
          obtain rfl := srel_nil hs
          have := hret f la _ Hm locs pc (fun _ _ => rfl) hw hS hmt (Or.inr (Or.inl ⟨hd, x', rfl, rfl, Or.inl h2⟩))
          simpa using this
        · cases hex
      · -- 41
        replace hc : ck_41 m pc (41, k, z, tb) o len = some pc' := hc
        unfold ck_41 at hc
        obtain ⟨h, -⟩ := opg_s hc
        simp only [Bool.and_eq_true, decide_eq_true_eq] at h
        obtain ⟨rfl, rfl, h2⟩ := h
        split at hex
        · cases hex
          replace hs := srel_l hs
          obtain ⟨x', sv', rfl, rfl, hs⟩ := hs
          obtain rfl := srel_nil hs
          have := hret f la _ Hm locs pc (fun _ _ => rfl) hw hS hmt (Or.inr (Or.inr ⟨hd, h2, x', rfl, rfl⟩))
          simpa using this
        · cases hex
      · -- 42
        replace hc : ck_42 m pc (42, k, z, tb) o len = some pc' := hc
        unfold ck_42 at hc
        obtain ⟨h, -⟩ := opg_s hc
        simp only [Bool.and_eq_true, decide_eq_true_eq] at h
        obtain ⟨rfl, rfl, h2⟩ := h
        split at hex
        · split at hex
          · rename_i hbv
            cases hex
            replace hs := srel_i hs
            obtain ⟨x', sv', rfl, rfl, hs⟩ := hs
            obtain rfl := srel_nil hs
            have hb2 : x' = 0 ∨ x' = 1 := by
              rcases hbv with q | q
              · exact Or.inl (Int32.toInt_inj.mp q)
              · exact Or.inr (Int32.toInt_inj.mp q)
            have := hret f la _ Hm locs pc (fun _ _ => rfl) hw hS hmt (Or.inr (Or.inl ⟨hd, x', rfl, rfl, Or.inr ⟨h2, hb2⟩⟩))
            simpa using this
          · cases hex
        · cases hex
      · -- 45
        split at hex
        · rename_i x st'
          replace hs := srel_i hs
          obtain ⟨x', sv', rfl, hx', hs⟩ := hs
          replace hc : ck_45 m pc (45, k, z, tb) o len = some pc' := hc
          unfold ck_45 at hc
          split at hc
          · rename_i dflt lo hi offs
            obtain ⟨h, -⟩ := opg_s hc
            simp only [Bool.and_eq_true, decide_eq_true_eq] at h
            obtain ⟨-, h2, h3, h4, h5⟩ := h
            have key := sw_tab (m := m) (pc := pc) (x := x) (lo := lo) (d := k) (offs := offs) offs.size tb 0 h3 (by omega) (fun j hj => by
              have h6 := List.all_eq_true.mp h5 j (List.mem_range.mpr hj)
              split at h6
              · rename_i q f0 g1 g2
                simp only [Bool.and_eq_true, decide_eq_true_eq] at h6
                rw [Nat.zero_add]
                exact ⟨f0, g2, by rw [show tb[j]? = some q from g1]; simp [h6.1], q, g1, h6.2⟩
              · cases h6)
            by_cases hin : lo ≤ x ∧ x < lo + (offs.size : Nat)
            · obtain ⟨f0, g1, g2⟩ := key.1 (by simpa using hin)
              refine lv_tableIn hxx hb hd (by rw [hx']; omega) (by rw [hx']; omega) (by rw [hx']; exact g1) g2 (jmp _ _ _ hex hs)
            · have g2 := key.2 (by simp; omega)
              rw [g2] at hex
              exact lv_tableOut hxx hb hd (by rw [hx']; omega) h2 (jmp _ _ _ hex hs)
          · rename_i dflt ps
            obtain ⟨h, -⟩ := opg_s hc
            simp only [Bool.and_eq_true, decide_eq_true_eq] at h
            obtain ⟨-, h2, h3, h4, h5⟩ := h
            have key := sw_look (x := x) h2 tb ps.toList h3 h5
            exact lv_lookup hxx hb hd h4 rfl (by rw [hx']; exact key) (jmp _ _ _ hex hs)
          · cases hc
        · cases hex
      · -- the others
        split at hex
        · rename_i ls' st' H1 ha
          have n1 : H 0 0 ≤ H1 0 0 := am1_n ha hc
          have n2 : H1 0 0 ≤ H' 0 0 := ex_n n hm hk' hex
          have z1 : szs (H 0 0).toNat ≤ szs (H1 0 0).toNat := szs_mono (by omega)
          have z2 : szs (H1 0 0).toNat ≤ szs (H' 0 0).toNat := szs_mono (by omega)
          refine sim1 F ⟨by omega, by omega⟩ hd hc ha f la sv Hm locs cells slots hh (by omega) (by omega) fun f' la' sv' Hm' locs' hag hh' => ?_
          exact ih p e R s mid args below meth c Q d m pc' is' ls' st' H1 r H' hex hm hk' F hRf hRl f' la' sv' Hm' locs' _ _ hh' (by omega) (by omega) (fun f'' la'' sv'' Hm'' locs'' pc'' hag' hw'' hS'' hmt'' hrc => by
            have := hret f'' la'' sv'' Hm'' locs'' pc'' (fun k hk => (hag' k (hk.mono n1)).trans (hag k hk)) hw'' hS'' hmt'' hrc
            rw [show cells + ((H1 0 0).toNat - (H 0 0).toNat) + ((H' 0 0).toNat - (H1 0 0).toNat) = cells + ((H' 0 0).toNat - (H 0 0).toNat) by omega, show slots + (szs (H1 0 0).toNat - szs (H 0 0).toNat) + (szs (H' 0 0).toNat - szs (H1 0 0).toNat) = slots + (szs (H' 0 0).toNat - szs (H 0 0).toNat) by omega]
            exact this)
        · cases hex
theorem frm_all : ∀ n, frmAM l D cy b base L xs n
  | 0 => fun _ _ _ _ _ _ _ _ _ _ _ _ _ _ _ _ _ _ _ hex => by cases hex
  | n + 1 => frm_succ (met_of (frm_all n)) (frm_all n)
end S17
