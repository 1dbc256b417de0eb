/-! THE SIMULATION, last part (2): texts, branches, calls, and the whole run -/
section S15
variable {p : Program} {l : Launch} {e : Env} {R : Room} {s : State} {mid : MethodId} {args : Array Value} {below : List Frame} {meth : Method} {c : Code} {Q : State → Prop}
variable {D : va_G} {cy : Nat → ClassId} {b : Nat → Nat} {base L : Nat} {xs : Nat → Int32} {m : Nat}
variable {pc pc' len k : Nat} {z : Int} {tb : List (Int × Nat)} {o : JI} {ls st ls' st' : List AV} {H H' : Hp}
theorem goodIn_l {ws : List Cond} (h : ∀ w ∈ ws, w ∈ lw_g) : GoodIn lw_g ws := fun w hw => ⟨h w hw, good_of_word (List.mem_filter.mp (h w hw)).2⟩
theorem stf_js {U : State} {Hm : Heap} (h : stf b base U Hm) {zz : Int} (hz : zz = 901 ∨ zz = 902) : ∃ (i v : Nat), i < 2 ∧ jst base (if zz = 901 then b 1 else b 2) v (lnS.getD i 0) (fun j => (byS.getD i []).getD j 0) U Hm ∧ (zz = 901 ∧ i = 0 ∨ zz = 902 ∧ i = 1) := by
  obtain ⟨⟨adK, adV, ⟨h1, -⟩, h2, h3⟩, -, -, h6, t, h7⟩ := h
  rcases hz with rfl | rfl
  · obtain ⟨a1, a2, a3, a4⟩ := h1 0 (by omega)
    rw [h2] at a1 a2 a3
    exact ⟨0, adV 0, by omega, ⟨a1, a2, a3, a4, h6, t, h7⟩, Or.inl ⟨rfl, rfl⟩⟩
  · obtain ⟨a1, a2, a3, a4⟩ := h1 1 (by omega)
    rw [h3] at a1 a2 a3
    exact ⟨1, adV 1, by omega, ⟨a1, a2, a3, a4, h6, t, h7⟩, Or.inr ⟨rfl, rfl⟩⟩
theorem stx_len : ∀ i, i < 2 → lnS.getD i 0 = (stx (901 + i)).length ∧ lnS.getD i 0 < 1000 := by decide +kernel
theorem stx_ch : ∀ i, i < 2 → ∀ j, j < lnS.getD i 0 → ((((byS.getD i []).getD j 0 &&& 255).toUInt32 % 65536).toInt32).toInt = (stx (901 + i)).getD j 0 := by decide +kernel
theorem f_str {f : Int → Nat} {zz : Int} (hf : f 999 = b 0 ∧ f 901 = b 1 ∧ f 902 = b 2) (hz : zz = 901 ∨ zz = 902) : f zz = if zz = 901 then b 1 else b 2 := by
  rcases hz with rfl | rfl
  · exact hf.2.1
  · exact hf.2.2
theorem sim_50 {zz : Int} (F : frm p s mid args meth c D cy base b L xs m) (hR : 10 ≤ R.frames ∧ 400 ≤ R.locals) (hd : decode (bM m) pc = .ok (o, len)) (hc : ck1 m pc (50, k, z, tb) o len = some pc') (hz : zz = 901 ∨ zz = 902) (hw : wds st ≤ 8) (hRc : ∀ n : Nat, True) : ∀ (f : Int → Nat) (la : Array Slot) (sv : List Value) (Hm : Heap) (locs : List Loc) (cells slots : Nat), cells ≤ R.cells → slots ≤ R.slots → held s D cy base b L xs m f ls ((2, zz) :: st) H la sv Hm locs →
      (∀ (sv' : List Value), srel f (H 0 0) (vi ((stx zz).length : Nat) :: st) sv' → W p l e R s mid args below meth c Hm locs cells slots Q (F0 mid pc' la sv')) → W p l e R s mid args below meth c Hm locs cells slots Q (F0 mid pc la sv) := by
  obtain ⟨hxx, hb, hml, hown, -, hts, hK, -, -, -, hst⟩ := F
  intro f la sv Hm locs cells slots hcl hsl hh kk
  obtain ⟨hl, hs, -, hS, hlen, hff, -⟩ := hh
  replace hc : ck_50 m pc (50, k, z, tb) o len = some pc' := hc
  unfold ck_50 at hc
  split at hc
  · rename_i x
    obtain ⟨h, rfl⟩ := opg_s hc
    simp only [Bool.and_eq_true, decide_eq_true_eq] at h
    obtain ⟨rfl, h2⟩ := h
    have hq := ML_ok _ (List.contains_iff_mem.mp h2)
    replace hs := srel_a hs (by omega)
    obtain ⟨sv', rfl, ho, hs⟩ := hs
    obtain ⟨i, v, hi, hj, hzi⟩ := stf_js hst hz
    rw [f_str hff hz]
    have hwd := srel_wds hs
    have hsz : la.size = mxl m := by rw [hl.size, hlen]
    refine jcall (v := some (.int (Int32.ofNat (lnS.getD i 0)))) (W.runV (C := RJ0) (As := []) (rest := sv') ⟨hxx, hb, hml, hown, hts⟩ (jm_length l base _ v (lnS.getD i 0) (fun j => (byS.getD i []).getD j 0)) (cwV (ws := wJ yJ0_length_8abf5 cJ0_length_8abf5 1 (some .int)) (R := R) 0 hts (goodIn_l (wsV_g (mem_g hq rfl) (mem_g (List.mem_of_getElem? (i := 748) (by decide +kernel)) rfl) (mem_g (List.mem_of_getElem? (i := 749) (by decide +kernel)) rfl) (mem_g (List.mem_of_getElem? (i := 168) (by decide +kernel)) rfl) (mem_g (List.mem_of_getElem? (i := 750) (by decide +kernel)) rfl))) rfl rfl rfl (by decide +kernel) ⟨by show 1 + 1 ≤ _; omega, by show 8 + (1 + 11) + 20 ≤ _; omega⟩) ⟨jPc_blind, ?_, fun U hU hW => ⟨rfl, by show jst base _ v _ _ U U.heap; rw [hU]; exact hj.warm hW hS.2.1⟩⟩ rfl rfl hsz rfl (by show 2 * 0 + _ ≤ 8; omega) hd ⟨by omega, by omega⟩) (kk _ (hs.i ?_))
    · obtain ⟨cell, q1, q2, q3, -⟩ := hj.1.kept hS.2.1
      exact ⟨cell, q1, q2, q3⟩
    · obtain ⟨e1, e2⟩ := stx_len i hi
      have e3 : (Int32.ofNat (lnS.getD i 0)).toInt = ((lnS.getD i 0 : Nat) : Int) := nI_toInt (by omega)
      rw [e3, e1]
      rcases hzi with ⟨rfl, rfl⟩ | ⟨rfl, rfl⟩ <;> rfl
  · cases hc
theorem sim_51 {zz j : Int} (F : frm p s mid args meth c D cy base b L xs m) (hR : 10 ≤ R.frames ∧ 400 ≤ R.locals) (hd : decode (bM m) pc = .ok (o, len)) (hc : ck1 m pc (51, k, z, tb) o len = some pc') (hz : zz = 901 ∨ zz = 902) (h0 : 0 ≤ j) (h1 : j < ((stx zz).length : Nat)) (hw : wds st ≤ 8) : ∀ (f : Int → Nat) (la : Array Slot) (sv : List Value) (Hm : Heap) (locs : List Loc) (cells slots : Nat), cells ≤ R.cells → slots ≤ R.slots → held s D cy base b L xs m f ls ((0, j) :: (2, zz) :: st) H la sv Hm locs →
      (∀ (sv' : List Value), srel f (H 0 0) (vi ((stx zz).getD j.toNat 0) :: st) sv' → W p l e R s mid args below meth c Hm locs cells slots Q (F0 mid pc' la sv')) → W p l e R s mid args below meth c Hm locs cells slots Q (F0 mid pc la sv) := by
  obtain ⟨hxx, hb, hml, hown, -, hts, hK, -, -, -, hst⟩ := F
  intro f la sv Hm locs cells slots hcl hsl hh kk
  obtain ⟨hl, hs, -, hS, hlen, hff, -⟩ := hh
  replace hc : ck_51 m pc (51, k, z, tb) o len = some pc' := hc
  unfold ck_51 at hc
  split at hc
  · rename_i x
    obtain ⟨h, rfl⟩ := opg_s hc
    simp only [Bool.and_eq_true, decide_eq_true_eq] at h
    obtain ⟨rfl, h2⟩ := h
    have hq := ML_ok _ (List.contains_iff_mem.mp h2)
    replace hs := srel_i hs
    obtain ⟨j', sv', rfl, hjj, hs⟩ := hs
    replace hs := srel_a hs (by omega)
    obtain ⟨sv', rfl, ho, hs⟩ := hs
    obtain ⟨i, v, hi, hj, hzi⟩ := stf_js hst hz
    obtain ⟨e1, e2⟩ := stx_len i hi
    have e0 : 901 + (i : Int) = zz := by omega
    have h1' : j < (lnS.getD i 0 : Nat) := by rw [e1, e0]; exact h1
    obtain ⟨g1, g2⟩ := vp_in_of_int (n := lnS.getD i 0) hjj h0 h1'
    rw [f_str hff hz]
    have hwd := srel_wds hs
    have hsz : la.size = mxl m := by rw [hl.size, hlen]
    have n1 : ¬ j' < 0 := fun h => g1 (Or.inl h)
    have n2 : j' < Int32.ofNat (lnS.getD i 0) := by
      rw [Int32.lt_iff_toInt_lt, hjj]
      have : (Int32.ofNat (lnS.getD i 0)).toInt = ((lnS.getD i 0 : Nat) : Int) := nI_toInt (by omega)
      rw [this]
      exact h1'
    refine jcall (v := some (.int ((((byS.getD i []).getD j'.toNatClampNeg 0) &&& 255).toUInt32 % 65536).toInt32)) (W.runV (C := RJ0) (As := [.int j']) (rest := sv') ⟨hxx, hb, hml, hown, hts⟩ (jm_charAt l base _ v (lnS.getD i 0) (fun j => (byS.getD i []).getD j 0) j' n1 n2 g1) (cwV (ws := wJ yJ0_charAt_5068e cJ0_charAt_5068e 2 (some .char)) (R := R) 1 hts (goodIn_l (wsV_g (mem_g hq rfl) (mem_g (List.mem_of_getElem? (i := 758) (by decide +kernel)) rfl) (mem_g (List.mem_of_getElem? (i := 759) (by decide +kernel)) rfl) (mem_g (List.mem_of_getElem? (i := 168) (by decide +kernel)) rfl) (mem_g (List.mem_of_getElem? (i := 760) (by decide +kernel)) rfl))) rfl rfl rfl (by decide +kernel) ⟨by show 3 + 1 ≤ _; omega, by show 8 + (2 + 11) + 64 ≤ _; omega⟩) ⟨jPc_blind, ?_, fun U hU hW => ⟨rfl, by show jst base _ v _ _ U U.heap; rw [hU]; exact hj.warm hW hS.2.1⟩⟩ rfl rfl hsz rfl (by show 2 * 0 + _ ≤ 8; omega) hd ⟨by omega, by omega⟩) (kk _ (hs.i ?_))
    · obtain ⟨cell, q1, q2, q3, -⟩ := hj.1.kept hS.2.1
      exact ⟨cell, q1, q2, q3⟩
    · rw [g2, stx_ch i hi j.toNat (by omega), e0]
  · cases hc
/-- branches -/
theorem b_if {x' : Int32} {x off : Int} {tgt : Nat} {la : Array Slot} {sv : List Value} {Hm : Heap} {locs : List Loc} {cells slots : Nat} (hxx : p.tables.exec = Jvm.exec) (hb : c.code = bM m) (hz : 0 ≤ z ∧ z < 6) (hx : x'.toInt = x) (hd : decode (bM m) pc = .ok (.ifCond (cnd z) off, 3)) (ht : (pc : Int) + off = (tgt : Int)) (kt : am_cn z x 0 = true → W p l e R s mid args below meth c Hm locs cells slots Q (F0 mid tgt la sv)) (kf : ¬ am_cn z x 0 = true → W p l e R s mid args below meth c Hm locs cells slots Q (F0 mid (pc + 3) la sv)) : W p l e R s mid args below meth c Hm locs cells slots Q (F0 mid pc la (.int x' :: sv)) := by
  have e0 : (0 : Int32).toInt = 0 := rfl
  have eq0 : x' = 0 ↔ x = 0 := by rw [← Int32.toInt_inj, hx, e0]
  have lt0 : x' < 0 ↔ x < 0 := by rw [Int32.lt_iff_toInt_lt, hx, e0]
  have le0 : x' ≤ 0 ↔ x ≤ 0 := by rw [Int32.le_iff_toInt_le, hx, e0]
  have gt0 : 0 < x' ↔ 0 < x := by rw [Int32.lt_iff_toInt_lt, hx, e0]
  have ge0 : 0 ≤ x' ↔ 0 ≤ x := by rw [Int32.le_iff_toInt_le, hx, e0]
  have hz6 : z = 0 ∨ z = 1 ∨ z = 2 ∨ z = 3 ∨ z = 4 ∨ z = 5 := by omega
  rcases hz6 with rfl | rfl | rfl | rfl | rfl | rfl
  · exact lv_if_eq hxx hb hd ht (fun h => kt (decide_eq_true (eq0.mp h))) (fun h => kf (fun q => h (eq0.mpr (of_decide_eq_true q))))
  · exact lv_if_ne hxx hb hd ht (fun h => kt (decide_eq_true (fun q => h (eq0.mpr q)))) (fun h => kf (fun q => (of_decide_eq_true q) (eq0.mp h)))
  · exact lv_if_lt hxx hb hd ht (fun h => kt (decide_eq_true (lt0.mp h))) (fun h => kf (fun q => h (lt0.mpr (of_decide_eq_true q))))
  · exact lv_if_ge hxx hb hd ht (fun h => kt (decide_eq_true (ge0.mp h))) (fun h => kf (fun q => h (ge0.mpr (of_decide_eq_true q))))
  · exact lv_if_gt hxx hb hd ht (fun h => kt (decide_eq_true (gt0.mp h))) (fun h => kf (fun q => h (gt0.mpr (of_decide_eq_true q))))
  · exact lv_if_le hxx hb hd ht (fun h => kt (decide_eq_true (le0.mp h))) (fun h => kf (fun q => h (le0.mpr (of_decide_eq_true q))))
theorem b_ic {x' y' : Int32} {x y off : Int} {tgt : Nat} {la : Array Slot} {sv : List Value} {Hm : Heap} {locs : List Loc} {cells slots : Nat} (hxx : p.tables.exec = Jvm.exec) (hb : c.code = bM m) (hz : 0 ≤ z ∧ z < 6) (hx : x'.toInt = x) (hy : y'.toInt = y) (hd : decode (bM m) pc = .ok (.if_icmp (cnd z) off, 3)) (ht : (pc : Int) + off = (tgt : Int)) (kt : am_cn z x y = true → W p l e R s mid args below meth c Hm locs cells slots Q (F0 mid tgt la sv)) (kf : ¬ am_cn z x y = true → W p l e R s mid args below meth c Hm locs cells slots Q (F0 mid (pc + 3) la sv)) : W p l e R s mid args below meth c Hm locs cells slots Q (F0 mid pc la (.int y' :: .int x' :: sv)) := by
  have eq0 : x' = y' ↔ x = y := by rw [← Int32.toInt_inj, hx, hy]
  have lt0 : x' < y' ↔ x < y := by rw [Int32.lt_iff_toInt_lt, hx, hy]
  have le0 : x' ≤ y' ↔ x ≤ y := by rw [Int32.le_iff_toInt_le, hx, hy]
  have gt0 : y' < x' ↔ y < x := by rw [Int32.lt_iff_toInt_lt, hx, hy]
  have ge0 : y' ≤ x' ↔ y ≤ x := by rw [Int32.le_iff_toInt_le, hx, hy]
  have hz6 : z = 0 ∨ z = 1 ∨ z = 2 ∨ z = 3 ∨ z = 4 ∨ z = 5 := by omega
  rcases hz6 with rfl | rfl | rfl | rfl | rfl | rfl
  · exact lv_icmp_eq hxx hb hd ht (fun h => kt (decide_eq_true (eq0.mp h))) (fun h => kf (fun q => h (eq0.mpr (of_decide_eq_true q))))
  · exact lv_icmp_ne hxx hb hd ht (fun h => kt (decide_eq_true (fun q => h (eq0.mpr q)))) (fun h => kf (fun q => (of_decide_eq_true q) (eq0.mp h)))
  · exact lv_icmp_lt hxx hb hd ht (fun h => kt (decide_eq_true (lt0.mp h))) (fun h => kf (fun q => h (lt0.mpr (of_decide_eq_true q))))
  · exact lv_icmp_ge hxx hb hd ht (fun h => kt (decide_eq_true (ge0.mp h))) (fun h => kf (fun q => h (ge0.mpr (of_decide_eq_true q))))
  · exact lv_icmp_gt hxx hb hd ht (fun h => kt (decide_eq_true (gt0.mp h))) (fun h => kf (fun q => h (gt0.mpr (of_decide_eq_true q))))
  · exact lv_icmp_le hxx hb hd ht (fun h => kt (decide_eq_true (le0.mp h))) (fun h => kf (fun q => h (le0.mpr (of_decide_eq_true q))))
theorem sw_tab {m pc : Nat} {x lo : Int} {d : Nat} {offs : Array Int} : ∀ (n : Nat) (q : List (Int × Nat)) (j0 : Nat), q.length = n → j0 + n = offs.size → (∀ j : Nat, j < n → ∃ f, offs[j0 + j]? = some f ∧ (q[j]?).map Prod.fst = some (lo + ((j0 + j : Nat) : Int)) ∧ ∃ t, q[j]? = some t ∧ (pc : Int) + f = (lpc m t.2 : Nat)) →
    (lo + (j0 : Nat) ≤ x ∧ x < lo + (offs.size : Nat) → ∃ f, offs[(x - lo).toNat]? = some f ∧ (pc : Int) + f = (lpc m (swl x d q) : Nat)) ∧ (x < lo + (j0 : Nat) ∨ lo + (offs.size : Nat) ≤ x → swl x d q = d)
  | 0, q, j0, hq, hj, _ => by
    have : q = [] := List.length_eq_zero_iff.mp hq
    subst this
    exact ⟨fun h => by omega, fun _ => rfl⟩
  | n + 1, [], j0, hq, _, _ => by simp at hq
  | n + 1, t :: q, j0, hq, hj, h => by
    obtain ⟨f0, a1, a2, t0, a3, a4⟩ := h 0 (by omega)
    simp at a2 a3
    subst a3
    obtain ⟨ih1, ih2⟩ := sw_tab (m := m) (pc := pc) (x := x) (lo := lo) (d := d) (offs := offs) n q (j0 + 1) (by simpa using hq) (by omega) (fun j hjn => by
      have := h (j + 1) (by omega)
      simpa [Nat.add_assoc, Nat.add_comm 1 j] using this)
    unfold swl
    by_cases hx : x = t.1
    · rw [if_pos hx]
      refine ⟨fun _ => ⟨f0, ?_, a4⟩, fun hh => by omega⟩
      have : (x - lo).toNat = j0 := by omega
      rw [this]
      simpa using a1
    · rw [if_neg hx]
      exact ⟨fun hh => ih1 ⟨by omega, hh.2⟩, fun hh => ih2 (by omega)⟩
theorem sw_look {m pc : Nat} {x dflt : Int} {d : Nat} (hd : (pc : Int) + dflt = (lpc m d : Nat)) : ∀ (q : List (Int × Nat)) (ps : List (Int × Int)), q.length = ps.length → (q.zip ps).all (fun q => decide (q.1.1 = q.2.1) && decide ((pc : Int) + q.2.2 = (lpc m q.1.2 : Nat))) = true → (pc : Int) + Op.lookupswitch.offset ps dflt x = (lpc m (swl x d q) : Nat)
  | [], [], _, _ => hd
  | t :: q, u :: ps, hl, h => by
    simp only [List.zip_cons_cons, List.all_cons, Bool.and_eq_true, decide_eq_true_eq] at h
    have ih := sw_look (x := x) hd q ps (by simpa using hl) h.2
    unfold swl
    by_cases hx : x = t.1
    · rw [if_pos hx]
      rw [show Op.lookupswitch.offset (u :: ps) dflt x = u.2 by unfold Op.lookupswitch.offset; rw [if_pos (by simp [hx, h.1.1])]]
      exact h.1.2
    · rw [if_neg hx]
      rw [show Op.lookupswitch.offset (u :: ps) dflt x = Op.lookupswitch.offset ps dflt x by rw [Op.lookupswitch.offset, if_neg]; intro w; exact hx (by rw [h.1.1]; first | exact w | exact w.symm | simpa using w | exact (by simpa using w : _).symm)]
      exact ih
  | [], _ :: _, hl, _ => by simp at hl
  | _ :: _, [], hl, _ => by simp at hl
theorem stp1.call {pc pc' : Nat} {ls st st' : List AV} {H : Hp}
    (h : ∀ (f : Int → Nat) (la : Array Slot) (sv : List Value) (Hm : Heap) (locs : List Loc) (cells slots : Nat), cells ≤ R.cells → slots ≤ R.slots → held s D cy base b L xs m f ls st H la sv Hm locs →
      (∀ (sv' : List Value), srel f (H 0 0) st' sv' → W p l e R s mid args below meth c Hm locs cells slots Q (F0 mid pc' la sv')) → W p l e R s mid args below meth c Hm locs cells slots Q (F0 mid pc la sv)) :
    stp1 p l e R s mid args below meth c Q D cy base b L xs m pc pc' ls st H ls st' H := by
  intro f la sv Hm locs cells slots hh h1 h2 kk
  refine h f la sv Hm locs cells slots (by omega) (by omega) hh fun sv' hs => ?_
  obtain ⟨hl, -, h3, h4, h5, h6⟩ := hh
  have := kk f la sv' Hm locs (fun _ _ => rfl) ⟨hl, hs, h3, h4, h5, h6⟩
  simpa using this
theorem sim1 {i : AI} (F : frm p s mid args meth c D cy base b L xs m) (hR : 10 ≤ R.frames ∧ 400 ≤ R.locals) (hd : decode (bM m) pc = .ok (o, len)) (hc : ck1 m pc i o len = some pc') (ha : am1 i ls st H = some (ls', st', H')) : stp1 p l e R s mid args below meth c Q D cy base b L xs m pc pc' ls st H ls' st' H' := by
  obtain ⟨op, k, z, tb⟩ := i
  unfold am1 at ha
  dsimp only at ha
  split at ha
  · cases ha; exact sim_1 F hd hc
  · cases ha; exact sim_2 F hd hc
  · split at ha
    · rename_i hg; cases ha; exact sim_3 F hd hc hg
    · cases ha
  · split at ha
    · rename_i hg; cases ha; exact sim_53 F hd hc hg
    · cases ha
  · split at ha
    · rename_i hg; cases ha; exact sim_54 F hd hc hg
    · cases ha
  · split at ha
    · split at ha
      · rename_i hg; cases ha; exact sim_4 F hd hc hg
      · cases ha
    · cases ha
  · split at ha
    · split at ha
      · rename_i hg; cases ha; exact sim_55 F hd hc hg
      · cases ha
    · cases ha
  · split at ha
    · split at ha
      · rename_i hg; cases ha; exact sim_5 F hd hc hg
      · cases ha
    · cases ha
  · split at ha
    · rename_i hq
      split at ha
      · rename_i hg; cases ha; exact sim_6 F hd hc hq hg
      · cases ha
    · cases ha
  · split at ha
    · cases ha; exact sim_7 F hd hc
    · cases ha
  · split at ha
    · cases ha; exact sim_8 F hd hc
    · cases ha
  · split at ha
    · cases ha; exact sim_9 F hd hc
    · cases ha
  · split at ha
    · split at ha
      · rename_i hg; cases ha; exact sim_10 F hd hc hg
      · cases ha
    · cases ha
  · split at ha
    · split at ha
      · rename_i hg; cases ha; exact sim_11 F hd hc hg
      · cases ha
    · cases ha
  · split at ha
    · cases ha; exact sim_60 F hd hc
    · cases ha
  · split at ha
    · cases ha; exact sim_61 F hd hc
    · cases ha
  · split at ha
    · cases ha; exact sim_62 F hd hc
    · cases ha
  · split at ha
    · cases ha; exact sim_63 F hd hc
    · cases ha
  · split at ha
    · cases ha; exact sim_64 F hd hc
    · cases ha
  · split at ha
    · cases ha; exact sim_65 F hd hc
    · cases ha
  · split at ha
    · cases ha; exact sim_13 F hd hc
    · cases ha
  · split at ha
    · split at ha
      · rename_i hg; cases ha; exact sim_18 F hd hc hg
      · cases ha
    · cases ha
  · split at ha
    · split at ha
      · rename_i hg; cases ha; exact sim_19 F hd hc hg
      · cases ha
    · cases ha
  · split at ha
    · split at ha
      · rename_i hg; cases ha; exact sim_20 F hd hc hg
      · cases ha
    · cases ha
  · split at ha
    · split at ha
      · rename_i hg; cases ha; exact sim_21 F hd hc hg
      · cases ha
    · cases ha
  · split at ha
    · split at ha
      · rename_i hg; cases ha; exact sim_22 F hd hc hg
      · cases ha
    · cases ha
  · split at ha
    · split at ha
      · rename_i hg; cases ha; exact sim_23 F hd hc hg
      · cases ha
    · cases ha
  · split at ha
    · split at ha
      · rename_i hg; cases ha; exact sim_24 F hd hc hg.1 hg.2
      · cases ha
    · cases ha
  · split at ha
    · split at ha
      · rename_i hg; cases ha; exact sim_25 F hd hc hg.1 hg.2.1 hg.2.2
      · cases ha
    · cases ha
  · split at ha
    · split at ha
      · rename_i hg; cases ha; exact sim_26 F hd hc hg.1 hg.2.1 hg.2.2
      · cases ha
    · cases ha
  · split at ha
    · split at ha
      · rename_i hg; cases ha; exact sim_27 F hd hc hg.1 hg.2.1 hg.2.2
      · cases ha
    · cases ha
  · split at ha
    · split at ha
      · rename_i hg; cases ha; exact sim_28 F hd hc hg.1 hg.2.1 hg.2.2
      · cases ha
    · cases ha
  · split at ha
    · split at ha
      · rename_i hg; cases ha; exact sim_29 F hd hc hg.1 hg.2.1 hg.2.2
      · cases ha
    · cases ha
  · split at ha
    · split at ha
      · rename_i hg; cases ha; exact sim_30 F hd hc hg.1 hg.2.1 hg.2.2
      · cases ha
    · cases ha
  · split at ha
    · split at ha
      · rename_i hg; cases ha; exact sim_31 F hd hc hg.1 hg.2.1 hg.2.2
      · cases ha
    · cases ha
  · split at ha
    · split at ha
      · rename_i hg; cases ha; exact sim_32 F hd hc hg.1 hg.2.1 hg.2.2
      · cases ha
    · cases ha
  · split at ha
    · split at ha
      · rename_i hg; cases ha; exact sim_33 F hd hc hg
      · cases ha
    · cases ha
  · split at ha
    · cases ha; exact sim_34 F hd hc
    · cases ha; exact sim_34a F hd hc
    · cases ha
  · split at ha
    · cases ha; exact sim_66 F hd hc
    · cases ha; exact sim_66l F hd hc
    · cases ha
  · split at ha
    · cases ha; exact sim_67 F hd hc
    · cases ha
  · split at ha
    · rename_i hg; cases ha; exact sim_43 F hd hc hg
    · cases ha
  · split at ha
    · split at ha
      · rename_i hg; cases ha; exact sim_44 F hd hc hg.1 hg.2
      · cases ha
    · cases ha
  · cases ha; exact sim_46 F hd hc
  · split at ha
    · split at ha
      · rename_i hg; cases ha; exact sim_47 F ⟨by omega, by omega⟩ hd hc hg
      · cases ha
    · cases ha
  · split at ha
    · split at ha
      · rename_i hg; cases ha; exact sim_48 F hd hc hg.1 hg.2.1 hg.2.2
      · cases ha
    · cases ha
  · split at ha
    · split at ha
      · rename_i hg; cases ha; exact sim_49 F hd hc hg
      · cases ha
    · cases ha
  · split at ha
    · split at ha
      · rename_i hg
        cases ha
        exact stp1.call (fun f la sv Hm locs cells slots h1 h2 hh kk => sim_50 F hR hd hc hg.1 hg.2 (fun _ => trivial) f la sv Hm locs cells slots h1 h2 hh kk)
      · cases ha
    · cases ha
  · split at ha
    · split at ha
      · rename_i hg
        cases ha
        exact stp1.call (fun f la sv Hm locs cells slots h1 h2 hh kk => sim_51 F hR hd hc hg.1 hg.2.1 hg.2.2.1 hg.2.2.2 f la sv Hm locs cells slots h1 h2 hh kk)
      · cases ha
    · cases ha
  · split at ha
    · split at ha
      · rename_i hg; cases ha; exact sim_52 F ⟨by omega, by omega⟩ hd hc hg.1 hg.2
      · cases ha
    · cases ha
  · cases ha
end S15
