/-! THE SIMULATION, fifth part: making, constants' texts, copying, the script, Object's own constructor -/
theorem wd_arr : ∀ ty : FieldType, ty = .int ∨ ty = .long ∨ ty = .byte ∨ ty = .char → Cond.arrayClass ty ∈ lw_g := by
  rintro ty (rfl | rfl | rfl | rfl)
  · exact mem_g (List.mem_of_getElem? (i := 344) (by decide +kernel)) rfl
  · exact mem_g (List.mem_of_getElem? (i := 345) (by decide +kernel)) rfl
  · exact mem_g (List.mem_of_getElem? (i := 224) (by decide +kernel)) rfl
  · exact mem_g (List.mem_of_getElem? (i := 1947) (by decide +kernel)) rfl
theorem wd_sys : Cond.native arraycopyName ∈ lw_g ∧ Cond.static arraycopyName ∈ lw_g ∧ Cond.initialized "java/lang/System" ∈ lw_g :=
  ⟨mem_g (List.mem_of_getElem? (i := 1239) (by decide +kernel)) rfl, mem_g (List.mem_of_getElem? (i := 1238) (by decide +kernel)) rfl, mem_g (List.mem_of_getElem? (i := 174) (by decide +kernel)) rfl⟩
theorem wd_obj : Cond.instanceMethod Lib.objectInit ∈ lw_g ∧ Cond.code Lib.objectInit ⟨#[0xb1]⟩ 1 none ∈ lw_g :=
  ⟨mem_g (List.mem_of_getElem? (i := 181) (by decide +kernel)) rfl, mem_g (List.mem_of_getElem? (i := 182) (by decide +kernel)) rfl⟩
section SIM
variable {p : Program} {l : Launch} {e : Env} {R : Room} {s : State} {mid : MethodId} {args : Array Value} {below : List Frame} {meth : Method} {c : Code} {Q : State → Prop}
variable {D : va_G} {cy : Nat → ClassId} {b : Nat → Nat} {base L : Nat} {xs : Nat → Int32} {m : Nat}
variable {pc pc' len k : Nat} {z : Int} {tb : List (Int × Nat)} {o : JI} {ls st ls' st' : List AV} {H H' : Hp}
theorem sim_46 (F : frm p s mid args meth c D cy base b L xs m) (hd : decode (bM m) pc = .ok (o, len)) (hc : ck1 m pc (46, k, z, tb) o len = some pc') : stp1 p l e R s mid args below meth c Q D cy base b L xs m pc pc' ls st H ls (va z :: st) H := by
  obtain ⟨hxx, hb, -, hown, -, hts, hK, -, -, -, -, ⟨hz1, hz2⟩, -⟩ := F
  refine stp1.pure rfl fun f la sv Hm locs cells slots hh kk => ?_
  obtain ⟨hl, hs, -, -, -, ⟨-, hf1, hf2⟩, -⟩ := hh
  replace hc : ck_46 m pc (46, k, z, tb) o len = some pc' := hc
  unfold ck_46 at hc
  dsimp only at hc
  split at hc
  · obtain ⟨h, rfl⟩ := opg_s hc
    simp only [Bool.and_eq_true, decide_eq_true_eq] at h
    obtain ⟨rfl, ⟨h1, rfl, rfl⟩ | ⟨h1, rfl, rfl⟩⟩ := h
    · exact va_ldcS hxx hb hown (tx := tx0) (q := b 1) (by rw [h1]; exact hz1) hd (kk _ _ hl (hs.a (vrel_a.mpr (Or.inr ⟨by unfold okr; omega, by rw [hf1]⟩))))
    · exact va_ldcS hxx hb hown (tx := tx1) (q := b 2) (by rw [h1]; exact hz2) hd (kk _ _ hl (hs.a (vrel_a.mpr (Or.inr ⟨by unfold okr; omega, by rw [hf2]⟩))))
  · cases hc
theorem sim_48 {j y : Int} (F : frm p s mid args meth c D cy base b L xs m) (hd : decode (bM m) pc = .ok (o, len)) (hc : ck1 m pc (48, k, z, tb) o len = some pc') (hy : y = 999) (h0 : 0 ≤ j) (h1 : j < H 0 1) : stp1 p l e R s mid args below meth c Q D cy base b L xs m pc pc' ls ((0, j) :: (2, y) :: st) H ls (vi (H 999 j) :: st) H := by
  obtain ⟨hxx, hb, -, hown, -, hts, hK, hX, hbb, hbs, -⟩ := F
  refine stp1.pure rfl fun f la sv Hm locs cells slots hh kk => ?_
  obtain ⟨hl, hs, -, hS, -, ⟨hf, -⟩, hL, hxs, hLL⟩ := hh
  replace hc : ck_48 m pc (48, k, z, tb) o len = some pc' := hc
  unfold ck_48 at hc
  obtain ⟨h, rfl⟩ := opg_s hc
  simp only [Bool.and_eq_true, decide_eq_true_eq] at h
  obtain ⟨rfl, rfl⟩ := h
  replace hs := srel_i hs
  obtain ⟨j', sv', rfl, hj, hs⟩ := hs
  replace hs := srel_a hs (by omega)
  obtain ⟨sv', rfl, ho, hs⟩ := hs
  subst hy
  rw [hf]
  obtain ⟨g1, g2⟩ := vp_in_of_int (n := L) hj h0 (by omega)
  refine va_sld hxx hb hX (by omega) (fun q => by unfold aq at q; omega) hS g1 hd (kk _ _ hl (hs.i ?_))
  rw [g2, ← hxs _ (by omega), int_tn h0]
theorem sim_49 {y : Int} (F : frm p s mid args meth c D cy base b L xs m) (hd : decode (bM m) pc = .ok (o, len)) (hc : ck1 m pc (49, k, z, tb) o len = some pc') (hy : y = 999) : stp1 p l e R s mid args below meth c Q D cy base b L xs m pc pc' ls ((2, y) :: st) H ls (vi (H 0 1) :: st) H := by
  obtain ⟨hxx, hb, -, hown, -, hts, hK, hX, hbb, hbs, -⟩ := F
  refine stp1.pure rfl fun f la sv Hm locs cells slots hh kk => ?_
  obtain ⟨hl, hs, -, hS, -, ⟨hf, -⟩, hL, hxs, hLL⟩ := hh
  replace hc : ck_49 m pc (49, k, z, tb) o len = some pc' := hc
  unfold ck_49 at hc
  obtain ⟨h, rfl⟩ := opg_s hc
  simp only [Bool.and_eq_true, decide_eq_true_eq] at h
  obtain ⟨rfl, rfl⟩ := h
  replace hs := srel_a hs (by omega)
  obtain ⟨sv', rfl, ho, hs⟩ := hs
  subst hy
  rw [hf]
  refine va_slen hxx hb hX (by omega) (fun q => by unfold aq at q; omega) hS hd (kk _ _ hl (hs.i ?_))
  rw [hL]
  exact nI_toInt (by omega)
theorem sim_52 {y : Int} (F : frm p s mid args meth c D cy base b L xs m) (hR : 1 ≤ R.frames ∧ 20 ≤ R.locals) (hd : decode (bM m) pc = .ok (o, len)) (hc : ck1 m pc (52, k, z, tb) o len = some pc') (hy : y ≠ 0) (hw : wds st ≤ 8) : stp1 p l e R s mid args below meth c Q D cy base b L xs m pc pc' ls ((2, y) :: st) H ls st H := by
  obtain ⟨hxx, hb, hml, hown, -, hts, hK, -⟩ := F
  refine stp1.pure rfl fun f la sv Hm locs cells slots hh kk => ?_
  obtain ⟨hl, hs, -, hS, hlen, -⟩ := hh
  replace hc : ck_52 m pc (52, k, z, tb) o len = some pc' := hc
  unfold ck_52 at hc
  split at hc
  · rename_i x
    obtain ⟨h, rfl⟩ := opg_s hc
    simp only [Bool.and_eq_true, decide_eq_true_eq] at h
    obtain ⟨rfl, h2⟩ := h
    have hq := ML_ok _ (List.contains_iff_mem.mp h2)
    replace hs := srel_a hs hy
    obtain ⟨sv', rfl, ho, hs⟩ := hs
    have hwd := srel_wds hs
    exact W.objInit hxx hb hown (hts _ (mem_g hq rfl)) (hts _ wd_obj.1) (hts _ wd_obj.2) rfl (by show la.size = _; rw [hl.size, hml, hlen]) rfl hd hR.1 (by show 2 * 0 + _ + 12 ≤ _; omega) (kk _ _ hl hs)
  · cases hc
theorem dfl_rel {f : Int → Nat} {n : Int} {ci j : Nat} (hci : ci < 12) (hj : j < (clD ci).2.2) : vrel f n (ftg ci j, 0) (defaultValue (tyD ci j)) := by
  have key : ((List.range 12).all fun ci => (List.range (clD ci).2.2).all fun j => decide (tyD ci j = .int ∨ tyD ci j = .boolean ∨ tyD ci j = .long ∨ isReferenceType (tyD ci j) = true)) = true := by decide +kernel
  have h := of_decide_eq_true (List.all_eq_true.mp (List.all_eq_true.mp key ci (List.mem_range.mpr hci)) j (List.mem_range.mpr hj))
  rcases h with h | h | h | h
  · rw [ftg_i (Or.inl h), h]; exact vrel_i.mpr ⟨0, rfl, rfl⟩
  · rw [ftg_i (Or.inr h), h]; exact vrel_i.mpr ⟨0, rfl, rfl⟩
  · rw [ftg_l h, h]; exact vrel_l.mpr ⟨0, rfl, rfl⟩
  · rw [ftg_a h]
    have : defaultValue (tyD ci j) = .null := by
      cases hq : tyD ci j <;> rw [hq] at h <;> first | rfl | cases h
    rw [this]
    exact vrel_a.mpr (Or.inl ⟨rfl, rfl⟩)
theorem KD_mem {ci : Nat} (h : ci < 12) : ci ∈ KD := by
  match ci, h with
  | 0, _ | 1, _ | 2, _ | 3, _ | 4, _ | 5, _ | 6, _ | 7, _ | 8, _ | 9, _ | 10, _ | 11, _ => decide +kernel
  | n + 12, h => omega
theorem szs_1 (n : Nat) : szs (n + 1) - szs n = szc (n + 1) := by show szs n + szc (n + 1) - szs n = _; omega
theorem sim_43 (F : frm p s mid args meth c D cy base b L xs m) (hd : decode (bM m) pc = .ok (o, len)) (hc : ck1 m pc (43, k, z, tb) o len = some pc') (hz : shc (H 0 0 + 1) = z) : stp1 p l e R s mid args below meth c Q D cy base b L xs m pc pc' ls st H ls (va (H 0 0 + 1) :: st) (hs H 0 0 (H 0 0 + 1)) := by
  obtain ⟨hxx, hb, hml, hown, -, hts, hK, -, hbb, hbs, -⟩ := F
  intro f la sv Hm locs cells slots hh hRc hRs kk
  obtain ⟨hl, hst, hw, hS, hlen, hff, hL, hxs, hLL⟩ := hh
  replace hc : ck_43 m pc (43, k, z, tb) o len = some pc' := hc
  unfold ck_43 at hc
  dsimp only at hc
  split at hc
  · obtain ⟨h, rfl⟩ := opg_s hc
    simp only [Bool.and_eq_true, decide_eq_true_eq] at h
    obtain ⟨rfl, h2, h3, h4⟩ := h
    have hci : z.toNat < 12 := by omega
    obtain ⟨hc1, hin, hty, hnm, hre⟩ := cls_at hci
    have hq := KC_ok _ (List.contains_iff_mem.mp h2)
    have hq1 := KD1_ok _ (KD_mem hci)
    have hq2 := KD2_ok _ (KD_mem hci)
    obtain ⟨N, ws, w1, w2, w3, w4, w5, w6, w7⟩ := hw
    have hrg := (sh_all (H 0 0 + 1)).2.2.2.2.1 (Or.inl (by omega))
    have e00 : hs H 0 0 (H 0 0 + 1) 0 0 = H 0 0 + 1 := hs_same
    have eN : (H 0 0).toNat = N := by omega
    have eN1 : (H 0 0 + 1).toNat = N + 1 := by omega
    have esz : szc ((N : Int) + 1) = (clD z.toNat).2.2 := by
      unfold szc
      rw [w1] at hz
      rw [hz, if_pos h3]
    rw [e00, eN, eN1] at hRc hRs kk
    rw [szs_1, esz] at hRs kk
    rw [show N + 1 - N = 1 by omega] at hRc kk
    refine va_new hxx hb hts hin (tyD z.toNat) hty hown (hts _ (mem_g hq rfl)) (hts _ (mem_g hq1 rfl)) (hts _ (mem_g hq2 rfl)) hK w5 w6 hS (fun q hq => Nat.le_trans hbs hq) hc1 (fs := (List.range (clD z.toNat).2.2).map (fun j => defaultValue (tyD z.toNat j))) (fun j hj => ?_) hRc hRs hd fun q Hm' hP' hD' hS' => ?_
    · show defaultValue (tyD z.toNat j) = List.getD _ j Value.null
      simp [hj]
    · obtain ⟨f', a1, a2, a3⟩ := wrl.push (cy := cy) (f := f) (H := H) (D := D) (base := base) (Hm := Hm) (Hm' := Hm') ⟨N, ws, w1, by omega, w3, w4, hP', hD', w7⟩ (fun g => Or.inl ⟨by omega, (List.range (clD z.toNat).2.2).map (fun j => defaultValue (tyD z.toNat j)), by rw [hz], by rw [hz]; simp, fun j hj => by
        rw [hz]
        simp at hj
        exact ⟨_, by simp [hj], dfl_rel hci hj⟩⟩)
      have hle : H 0 0 ≤ H 0 0 + 1 := by omega
      refine kk f' la _ Hm' locs a1 ⟨by rw [e00]; exact hl.mono hle a1, ?_, a3, hS', hlen, ?_, ?_, ?_, hLL⟩
      · rw [e00]
        exact (hst.mono hle a1).a (vrel_a.mpr (Or.inr ⟨by unfold okr; omega, by rw [a2]⟩))
      · exact ⟨by rw [a1 _ (by unfold okr; omega)]; exact hff.1, by rw [a1 _ (by unfold okr; omega)]; exact hff.2.1, by rw [a1 _ (by unfold okr; omega)]; exact hff.2.2⟩
      · rw [hs_app, if_neg (by omega)]; exact hL
      · intro j hj
        rw [hs_app, if_neg (by omega)]; exact hxs j hj
  · cases hc
theorem va_RA_eq {U : State} {c1 c2 : ClassId} {ty : FieldType} (ht : ty = .int ∨ ty = .long ∨ ty = .byte ∨ ty = .char) (h1 : va_RA U c1 ty) (h2 : va_RA U c2 ty) : c1 = c2 := by
  rcases ht with rfl | rfl | rfl | rfl
  all_goals exact Option.some.inj (Eq.trans (Eq.symm h1) h2)
theorem sim_44 {x : Int} (F : frm p s mid args meth c D cy base b L xs m) (hd : decode (bM m) pc = .ok (o, len)) (hc : ck1 m pc (44, k, z, tb) o len = some pc') (hz : sht (H 0 0 + 1) = k) (hx : shl (H 0 0 + 1) = x) : stp1 p l e R s mid args below meth c Q D cy base b L xs m pc pc' ls ((0, x) :: st) H ls (va (H 0 0 + 1) :: st) (hs H 0 0 (H 0 0 + 1)) := by
  obtain ⟨hxx, hb, hml, hown, -, hts, hK, -, hbb, hbs, -⟩ := F
  intro f la sv Hm locs cells slots hh hRc hRs kk
  obtain ⟨hl, hst, hw, hS, hlen, hff, hL, hxs, hLL⟩ := hh
  replace hst := srel_i hst
  obtain ⟨y, sv', rfl, hy, hst⟩ := hst
  replace hc : ck_44 m pc (44, k, z, tb) o len = some pc' := hc
  unfold ck_44 at hc
  dsimp only at hc
  split at hc
  · obtain ⟨h, rfl⟩ := opg_s hc
    simp only [Bool.and_eq_true, decide_eq_true_eq] at h
    obtain ⟨rfl, h2⟩ := h
    obtain ⟨N, ws, w1, w2, w3, w4, w5, w6, w7⟩ := hw
    have hrg := (sh_all (H 0 0 + 1)).2.2.2.2.1 (Or.inr (by omega))
    have hex := (sh_all (H 0 0 + 1)).2.1
    have hsl := (sh_all (H 0 0 + 1)).2.2.1
    have e00 : hs H 0 0 (H 0 0 + 1) 0 0 = H 0 0 + 1 := hs_same
    have eN : (H 0 0).toNat = N := by omega
    have eN1 : (H 0 0 + 1).toNat = N + 1 := by omega
    have esz : szc ((N : Int) + 1) = x.toNat := by
      unfold szc
      rw [← w1, if_neg (by omega), hx]
    rw [e00, eN, eN1] at hRc hRs kk
    rw [szs_1, esz] at hRs kk
    rw [show N + 1 - N = 1 by omega] at hRc kk
    have hyn : ¬ y < 0 := fun q => by have := Int32.lt_iff_toInt_lt.mp q; rw [hy] at this; simp at this; omega
    have hyN : y.toNatClampNeg = x.toNat := by show y.toInt.toNat = _; rw [hy]
    have goal : ∀ (ty : FieldType) (at_ : Jvm.ClassFile.ArrayType) (a0 : vp_A), newarray.typeOf at_ = ty → (ty = .int ∨ ty = .long ∨ ty = .byte ∨ ty = .char) → decode (bM m) pc = .ok (.newarray at_, 2) → tys4 cy ≠ [] → (tys4 cy)[k - 1]? = some (cy k, ty) → (∀ cA : ClassId, vp_cell cA a0 = arrV cA x.toNat (fun _ => defaultValue ty)) → (∀ g, cellR g (H 0 0 + 1) cy (H 0 0 + 1) (fun _ => 0) (.inl (cy k, a0))) → W p l e R s mid args below meth c Hm locs cells slots Q (F0 mid pc la (.int y :: sv')) := by
      intro ty at_ a0 h4 h5 h6 _ h7 h8 h9
      refine va_newa hxx hb (hts _ (wd_arr _ (by rw [h4]; exact h5))) h4 hK w5 w6 hS (fun q hq => Nat.le_trans hbs hq) (a0 := a0) h8 hyn hyN ?_ hRc hRs h6 fun q cA Hm' hK' hP' hD' hS' => ?_
      · rcases h5 with rfl | rfl | rfl | rfl <;> (simp only [componentBytes]; omega)
      · have hcA : cA = cy k := by
          have t1 := (hK'.2 4 (cA, ty) rfl).2
          have t2 := (hK.2 (k - 1) _ h7).2
          exact va_RA_eq h5 t1 t2
        subst hcA
        obtain ⟨f', a1, a2, a3⟩ := wrl.push (cy := cy) (f := f) (H := H) (D := D) (base := base) (Hm := Hm) (Hm' := Hm') ⟨N, ws, w1, by omega, w3, w4, hP', hD', w7⟩ h9
        have hle : H 0 0 ≤ H 0 0 + 1 := by omega
        refine kk f' la _ Hm' locs a1 ⟨by rw [e00]; exact hl.mono hle a1, ?_, a3, hS', hlen, ?_, ?_, ?_, hLL⟩
        · rw [e00]
          exact (hst.mono hle a1).a (vrel_a.mpr (Or.inr ⟨by unfold okr; omega, by rw [a2]⟩))
        · exact ⟨by rw [a1 _ (by unfold okr; omega)]; exact hff.1, by rw [a1 _ (by unfold okr; omega)]; exact hff.2.1, by rw [a1 _ (by unfold okr; omega)]; exact hff.2.2⟩
        · rw [hs_app, if_neg (by omega)]; exact hL
        · intro j hj
          rw [hs_app, if_neg (by omega)]; exact hxs j hj
    have hne : tys4 cy ≠ [] := by unfold tys4; simp
    rcases h2 with ⟨rfl, rfl⟩ | ⟨rfl, rfl⟩ | ⟨rfl, rfl⟩ | ⟨rfl, rfl⟩
    · exact goal .int .int (x.toNat, .inl fun _ => 0) rfl (by simp) hd hne rfl (fun _ => rfl) (fun g => Or.inr (Or.inl ⟨by omega, fun _ => 0, by rw [hz, hx]; rfl, fun _ _ => rfl⟩))
    · exact goal .long .long (x.toNat, .inr (.inl fun _ => 0)) rfl (by simp) hd hne rfl (fun _ => rfl) (fun g => Or.inr (Or.inr ⟨by omega, fun _ => 0, by rw [hx], fun _ _ => rfl⟩))
    · exact goal .byte .byte (x.toNat, .inl fun _ => 0) rfl (by simp) hd hne rfl (fun _ => rfl) (fun g => Or.inr (Or.inl ⟨by omega, fun _ => 0, by rw [hz, hx]; rfl, fun _ _ => rfl⟩))
    · exact goal .char .char (x.toNat, .inl fun _ => 0) rfl (by simp) hd hne rfl (fun _ => rfl) (fun g => Or.inr (Or.inl ⟨by omega, fun _ => 0, by rw [hz, hx]; rfl, fun _ _ => rfl⟩))
  · cases hc
/-- two rows of ints of one world -/
theorem wrl.arr2 {f : Int → Nat} {Hm : Heap} {c1 c2 : Int} (hw : wrl D cy base f H Hm) (ho1 : okr (H 0 0) c1) (ho2 : okr (H 0 0) c2) (h1 : sht c1 = 1) (h2 : sht c2 = 1) :
    ∃ (ws : va_W) (g1 g2 : Nat → Int32), ws[c1.toNat - 1]? = some (f c1, .inl (cy 1, (shl c1).toNat, .inl g1)) ∧ (∀ j : Nat, (j : Int) < shl c1 → (g1 j).toInt = H c1 j) ∧ ws[c2.toNat - 1]? = some (f c2, .inl (cy 1, (shl c2).toNat, .inl g2)) ∧ (∀ j : Nat, (j : Int) < shl c2 → (g2 j).toInt = H c2 j) ∧ va_P D vwCl ws Hm ∧ va_D (aq base) ws ∧
      (∀ (g' : Nat → Int32) (h' : Int → Int) (Hm' : Heap), (∀ j : Nat, (j : Int) < shl c2 → (g' j).toInt = h' j) → va_P D vwCl (ws.set (c2.toNat - 1) (f c2, .inl (cy 1, (shl c2).toNat, .inl g'))) Hm' → va_D (aq base) (ws.set (c2.toNat - 1) (f c2, .inl (cy 1, (shl c2).toNat, .inl g'))) → wrl D cy base f (fun a => if a = c2 then h' else H a) Hm') := by
  obtain ⟨N, ws, w1, w2, w3, w4, w5, w6, w7⟩ := hw
  have sing : wrl D cy base f H Hm := ⟨N, ws, w1, w2, w3, w4, w5, w6, w7⟩
  have get : ∀ c : Int, okr (H 0 0) c → sht c = 1 → ∃ g : Nat → Int32, ws[c.toNat - 1]? = some (f c, .inl (cy 1, (shl c).toNat, .inl g)) ∧ (∀ j : Nat, (j : Int) < shl c → (g j).toInt = H c j) := by
    intro c ho h
    have hr := (sh_all c).2.2.2.2.1 (Or.inr (by omega))
    have hx := (sh_all c).2.1
    have hN : c ≤ N := by rw [w1] at ho; unfold okr at ho; omega
    obtain ⟨e, q1, q2⟩ := w4 (c.toNat - 1) (by omega)
    have ec : ((c.toNat - 1 : Nat) : Int) + 1 = c := by omega
    rw [ec] at q1 q2
    rcases q2 with ⟨g1, -⟩ | ⟨g1, g, rfl, g2⟩ | ⟨g1, -⟩
    · exact absurd ⟨g1, by omega⟩ hx
    · exact ⟨g, by rw [q1, h]; rfl, g2⟩
    · omega
  obtain ⟨g1, a1, a2⟩ := get c1 ho1 h1
  obtain ⟨g2, b1, b2⟩ := get c2 ho2 h2
  refine ⟨ws, g1, g2, a1, a2, b1, b2, w5, w6, fun g' h' Hm' hg hP hD => ?_⟩
  have hr := (sh_all c2).2.2.2.2.1 (Or.inr (by omega))
  have hN : c2 ≤ N := by rw [w1] at ho2; unfold okr at ho2; omega
  have ec : ((c2.toNat - 1 : Nat) : Int) + 1 = c2 := by omega
  refine ⟨N, _, ?_, w2, by rw [List.length_set]; exact w3, fun k hk => ?_, hP, hD, fun k hk hk2 j => ?_⟩
  · show (if (0 : Int) = c2 then h' else H 0) 0 = _
    rw [if_neg (by omega)]
    exact w1
  · by_cases e2 : k = c2.toNat - 1
    · subst e2
      refine ⟨_, by rw [List.getElem?_set_self (by omega), ec], ?_⟩
      show cellR f N cy (((c2.toNat - 1 : Nat) : Int) + 1) (if (((c2.toNat - 1 : Nat) : Int) + 1) = c2 then h' else _) _
      rw [ec, if_pos rfl]
      exact Or.inr (Or.inl ⟨by omega, g', by rw [h2]; rfl, hg⟩)
    · obtain ⟨e3, q3, q4⟩ := w4 k hk
      refine ⟨e3, by rw [List.getElem?_set_ne (by omega)]; exact q3, ?_⟩
      show cellR f N cy ((k : Int) + 1) (if ((k : Int) + 1) = c2 then h' else _) e3
      rw [if_neg (by omega)]
      exact q4
  · show (if k = c2 then h' else H k) j = 0
    rw [if_neg (by omega)]
    exact w7 k hk hk2 j
theorem sim_47 {n dp ee sp cc : Int} (F : frm p s mid args meth c D cy base b L xs m) (hR : 1 ≤ R.frames ∧ 40 ≤ R.locals) (hd : decode (bM m) pc = .ok (o, len)) (hc : ck1 m pc (47, k, z, tb) o len = some pc')
    (q : cc ≠ ee ∧ sht cc = 1 ∧ sht ee = 1 ∧ 0 ≤ n ∧ 0 ≤ dp ∧ 0 ≤ sp ∧ sp + n ≤ shl cc ∧ dp + n ≤ shl ee ∧ wds st ≤ 8) : stp1 p l e R s mid args below meth c Q D cy base b L xs m pc pc' ls ((0, n) :: (0, dp) :: (2, ee) :: (0, sp) :: (2, cc) :: st) H ls st (fun a b => if a = ee ∧ dp ≤ b ∧ b < dp + n then H cc (sp + (b - dp)) else H a b) := by
  obtain ⟨hxx, hb, hml, hown, -, hts, hK, -⟩ := F
  obtain ⟨q1, q2, q3, q4, q5, q6, q7, q8, q9⟩ := q
  have hen := sh_ne (k := ee) (Or.inr (by omega))
  have hcn := sh_ne (k := cc) (Or.inr (by omega))
  have hH : (fun a b => if a = ee ∧ dp ≤ b ∧ b < dp + n then H cc (sp + (b - dp)) else H a b) = fun a => if a = ee then (fun b => if dp ≤ b ∧ b < dp + n then H cc (sp + (b - dp)) else H ee b) else H a := by
    funext a b
    by_cases h : a = ee
    · subst h; simp
    · simp [h]
  rw [hH]
  refine stp1.wr (by simp; intro h; omega) (by simp; intro h; omega) fun f la sv Hm locs cells slots hh kk => ?_
  obtain ⟨hl, hs, hw, hS, hlen, -⟩ := hh
  replace hc : ck_47 m pc (47, k, z, tb) o len = some pc' := hc
  unfold ck_47 at hc
  split at hc
  · obtain ⟨h, rfl⟩ := opg_s hc
    simp only [Bool.and_eq_true, decide_eq_true_eq] at h
    obtain ⟨rfl, h2⟩ := h
    have hq := ML_ok _ (List.contains_iff_mem.mp h2)
    replace hs := srel_i hs
    obtain ⟨n', sv', rfl, hn, hs⟩ := hs
    replace hs := srel_i hs
    obtain ⟨dp', sv', rfl, hdp, hs⟩ := hs
    replace hs := srel_a hs hen.1
    obtain ⟨sv', rfl, ho2, hs⟩ := hs
    replace hs := srel_i hs
    obtain ⟨sp', sv', rfl, hsp, hs⟩ := hs
    replace hs := srel_a hs hcn.1
    obtain ⟨sv', rfl, ho1, hs⟩ := hs
    obtain ⟨ws, g1, g2, a1, a2, b1, b2, w5, w6, w7⟩ := hw.arr2 ho1 ho2 q2 q3
    have neg : ∀ {x' : Int32} {x : Int}, x'.toInt = x → 0 ≤ x → ¬ x' < 0 ∧ x'.toNatClampNeg = x.toNat := by
      intro x' x hx h0
      exact ⟨fun h => by have := Int32.lt_iff_toInt_lt.mp h; rw [hx] at this; simp at this; omega, by show x'.toInt.toNat = _; rw [hx]⟩
    obtain ⟨n1, n2⟩ := neg hn q4
    obtain ⟨d1, d2⟩ := neg hdp q5
    obtain ⟨s1, s2⟩ := neg hsp q6
    have hwd := srel_wds hs
    refine va_copyi hxx hb (by rw [hml, hl.size, hlen]) hown (hts _ (mem_g hq rfl)) (hts _ wd_sys.1) (hts _ wd_sys.2.1) (hts _ wd_sys.2.2) hK w5 w6 hS (cc.toNat - 1) (ee.toNat - 1) 0 0 a1 b1 (ty := .int) rfl rfl rfl s1 d1 n1 (by omega) (by omega) (fun _ _ => rfl) hR.1 ?_ hd fun Hm' locs' hP' hD' hS' => kk _ _ _ hs (w7 _ _ _ (fun j hj => ?_) hP' hD') hS'
    · have : nativeFrameWords "java/lang/System" "arraycopy" 5 = 7 := by decide +kernel
      omega
    · unfold va_cpy
      rw [n2, d2, s2]
      by_cases hin : dp.toNat ≤ j ∧ j < dp.toNat + n.toNat
      · rw [if_pos hin, if_pos (by omega), a2 _ (by omega)]
        congr 1
        omega
      · rw [if_neg hin, if_neg (by omega)]
        exact b2 j hj
  · cases hc
end SIM
