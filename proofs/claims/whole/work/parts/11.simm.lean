/-! THE SIMULATION, fourth part: fields and arrays -/
section SIM
variable {p : Program} {l : Launch} {e : Env} {R : Room} {s : State} {mid : MethodId} {args : Array Value} {below : List Frame} {meth : Method} {c : Code} {Q : State → Prop}
variable {D : va_G} {cy : Nat → ClassId} {b : Nat → Nat} {base L : Nat} {xs : Nat → Int32} {m : Nat}
variable {pc pc' len k : Nat} {z : Int} {tb : List (Int × Nat)} {o : JI} {ls st ls' st' : List AV} {H H' : Hp}
/-- what stands behind a class's number -/
theorem cls_at {ci : Nat} (h : ci < 12) : vwCl[ci]? = some (clD ci) ∧ (∀ w ∈ u_ws (clD ci).1 (clD ci).2.1 (clD ci).2.2, w ∈ lw_g) ∧ (∀ k, k < (clD ci).2.2 → parseFieldDescriptor ((clD ci).2.1 k).2.2.1 = some (tyD ci k)) ∧ (∀ a, a < (clD ci).2.2 → ∀ b, b < (clD ci).2.2 → a ≠ b → ((clD ci).2.1 a).2.1 ≠ ((clD ci).2.1 b).2.1) ∧ (∀ k, k < (clD ci).2.2 → ((clD ci).2.1 k).1 = (clD ci).1) := by
  match ci, h with
  | 0, _ => exact ⟨rfl, igX1, tyX1_ok, nmX1, by decide +kernel⟩
  | 1, _ => exact ⟨rfl, igX2, tyX2_ok, nmX2, by decide +kernel⟩
  | 2, _ => exact ⟨rfl, igX3, tyX3_ok, nmX3, by decide +kernel⟩
  | 3, _ => exact ⟨rfl, igX4, tyX4_ok, nmX4, by decide +kernel⟩
  | 4, _ => exact ⟨rfl, igX5, tyX5_ok, nmX5, by decide +kernel⟩
  | 5, _ => exact ⟨rfl, igX6, tyX6_ok, nmX6, by decide +kernel⟩
  | 6, _ => exact ⟨rfl, igX7, tyX7_ok, nmX7, by decide +kernel⟩
  | 7, _ => exact ⟨rfl, igX8, tyX8_ok, nmX8, by decide +kernel⟩
  | 8, _ => exact ⟨rfl, igX9, tyX9_ok, nmX9, by decide +kernel⟩
  | 9, _ => exact ⟨rfl, igX10, tyX10_ok, nmX10, by decide +kernel⟩
  | 10, _ => exact ⟨rfl, igX11, tyX11_ok, nmX11, by decide +kernel⟩
  | 11, _ => exact ⟨rfl, igX12, tyX12_ok, nmX12, by decide +kernel⟩
  | n + 12, h => omega
theorem ckf_s {m len idx ci k : Nat} (h : ck_f m len idx ci k = true) : len = 3 ∧ (on m, idx, ci, k) ∈ FL ∧ k < (clD ci).2.2 ∧ ci < 12 := by
  unfold ck_f at h
  simp only [Bool.and_eq_true, decide_eq_true_eq] at h
  exact ⟨h.1, List.contains_iff_mem.mp h.2.1, h.2.2.1, h.2.2.2⟩
theorem okr_ne {n k : Int} (h : okr n k) : k ≠ 0 := by unfold okr at h; omega
theorem sh_ne {k : Int} (h : 0 ≤ shc k ∨ sht k ≠ 0) : k ≠ 0 ∧ k ≠ 999 := by
  have := (sh_all k).2.2.2.2.1 h
  omega
theorem ftg_v {f : Int → Nat} {n : Int} {ci j : Nat} {a : Nat} {x : Int} {v : Value} (h : vrel f n (ftg ci j, x) v) (ha : ftg ci j = a) : vrel f n (a, x) v := by rw [← ha]; exact h
/-- a field is read -/
theorem sim_get {ci kk a : Nat} {x y : Int} {idx : Nat} (F : frm p s mid args meth c D cy base b L xs m) (hd : decode (bM m) pc = .ok (.getfield idx, len)) (hf : ck_f m len idx ci kk = true) (hg : ftg ci kk = a) (hx : shc x = ci) (hy : y = H x kk) : stp1 p l e R s mid args below meth c Q D cy base b L xs m pc (pc + 3) ls ((2, x) :: st) H ls ((a, y) :: st) H := by
  obtain ⟨hxx, hb, -, hown, -, hts, hK, -⟩ := F
  obtain ⟨rfl, hF, hk, hci⟩ := ckf_s hf
  refine stp1.pure rfl fun f la sv Hm locs cells slots hh kk2 => ?_
  obtain ⟨hl, hs, hw, -⟩ := hh
  have hxn := (sh_ne (k := x) (Or.inl (by omega))).1
  replace hs := srel_a hs hxn
  obtain ⟨sv', rfl, ho, hs⟩ := hs
  obtain ⟨ws, fs, q1, q2, q3, q4, q5, -⟩ := hw.obj ho hx
  obtain ⟨v, g1, g2⟩ := q3 kk (by omega)
  obtain ⟨hc1, hin, -, -, hre⟩ := cls_at hci
  have hlink := hts _ (mem_g (FL_ok _ hF) rfl)
  exact va_get hxx hb hts hin hown hK q4 (x.toNat - 1) q1 hc1 kk hk hlink (fun _ hh => by rw [← hre kk hk]; exact hh) g1 hd (kk2 _ _ hl ⟨by rw [hy]; exact ftg_v g2 hg, hs⟩)
/-- a field is written -/
theorem sim_put {ci kk a : Nat} {x y : Int} {idx : Nat} (F : frm p s mid args meth c D cy base b L xs m) (hd : decode (bM m) pc = .ok (.putfield idx, len)) (hf : ck_f m len idx ci kk = true) (hfin : fin_ok m ci kk = true) (hg : ftg ci kk = a) (hx : shc x = ci) (hnf : ∀ (f : Int → Nat) (n : Int) (v : Value), vrel f n (a, y) v → narrow (tyD ci kk) v = v ∧ fits (tyD ci kk) v = true) : stp1 p l e R s mid args below meth c Q D cy base b L xs m pc (pc + 3) ls ((a, y) :: (2, x) :: st) H ls st (hs H x kk y) := by
  obtain ⟨hxx, hb, -, hown, hini, hts, hK, -⟩ := F
  obtain ⟨rfl, hF, hk, hci⟩ := ckf_s hf
  have hxn := sh_ne (k := x) (Or.inl (by omega))
  refine stp1.wr (by funext j; rw [hs_app, if_neg (by omega)]) (by funext j; rw [hs_app, if_neg (by omega)]) fun f la sv Hm locs cells slots hh kk2 => ?_
  obtain ⟨hl, hs, hw, hS, -⟩ := hh
  replace hs := srel_cons hs
  obtain ⟨v, sv', rfl, hv, hs⟩ := hs
  replace hs := srel_a hs hxn.1
  obtain ⟨sv', rfl, ho, hs⟩ := hs
  obtain ⟨ws, fs, q1, q2, q3, q4, q5, q6⟩ := hw.obj ho hx
  obtain ⟨hc1, hin, hty, hnm, hre⟩ := cls_at hci
  have hlink := hts _ (mem_g (FL_ok _ hF) rfl)
  obtain ⟨hn, hft⟩ := hnf f _ v hv
  have hv2 : vrel f (H 0 0) (ftg ci kk, y) v := by rw [hg]; exact hv
  by_cases hfi : ((clD ci).2.1 kk).2.2.2 = false
  · exact va_put hxx hb hts hin (tyD ci) hty hnm hown hK q4 q5 hS (x.toNat - 1) q1 hc1 kk hk hlink (fun _ hh => by rw [← hre kk hk]; exact hh) hfi (hty kk hk) hn hft (by omega) hd
      fun Hm' locs' hP' hD' hS' => kk2 _ _ _ hs (q6 kk y v Hm' (by omega) hv2 hP' hD') hS'
  · have hft1 : ((clD ci).2.1 kk).2.2.2 = true := by simpa using hfi
    unfold fin_ok at hfin
    rw [hft1] at hfin
    simp only [Bool.not_true, Bool.false_or, Bool.and_eq_true, decide_eq_true_eq] at hfin
    exact va_putF hxx hb hts hin (tyD ci) hty hnm hown hK q4 q5 hS (x.toNat - 1) q1 hc1 kk hk hlink (fun _ hh => by rw [← hre kk hk]; exact hh) hft1 (hini hfin.1) hfin.2 (hty kk hk) hn hft (by omega) hd
      fun Hm' locs' hP' hD' hS' => kk2 _ _ _ hs (q6 kk y v Hm' (by omega) hv2 hP' hD') hS'
theorem ftg_i {ci j : Nat} (h : tyD ci j = .int ∨ tyD ci j = .boolean) : ftg ci j = 0 := by rcases h with h | h <;> (unfold ftg; rw [h]; rfl)
theorem ftg_l {ci j : Nat} (h : tyD ci j = .long) : ftg ci j = 1 := by unfold ftg; rw [h]; rfl
theorem ftg_a {ci j : Nat} (h : isReferenceType (tyD ci j) = true) : ftg ci j = 2 := by
  unfold ftg
  rw [if_neg (fun q => by rw [q] at h; cases h), if_pos h]
theorem int_tn {z : Int} (h : 0 ≤ z) : ((z.toNat : Nat) : Int) = z := Int.toNat_of_nonneg h
theorem sim_18 {x : Int} (F : frm p s mid args meth c D cy base b L xs m) (hd : decode (bM m) pc = .ok (o, len)) (hc : ck1 m pc (18, k, z, tb) o len = some pc') (hx : shc x = z) : stp1 p l e R s mid args below meth c Q D cy base b L xs m pc pc' ls ((2, x) :: st) H ls (vi (H x (fk (18, k, z, tb))) :: st) H := by
  replace hc : ck_18 m pc (18, k, z, tb) o len = some pc' := hc
  unfold ck_18 at hc
  dsimp only at hc
  split at hc
  · obtain ⟨h, rfl⟩ := opg_s hc
    simp only [Bool.and_eq_true, decide_eq_true_eq] at h
    obtain ⟨h1, h2, h3, h4⟩ := h
    exact sim_get F hd h1 (ftg_i h4) (by rw [int_tn h2]; exact hx) (by rw [int_tn h3])
  · cases hc
theorem sim_19 {x : Int} (F : frm p s mid args meth c D cy base b L xs m) (hd : decode (bM m) pc = .ok (o, len)) (hc : ck1 m pc (19, k, z, tb) o len = some pc') (hx : shc x = z) : stp1 p l e R s mid args below meth c Q D cy base b L xs m pc pc' ls ((2, x) :: st) H ls (vl (H x (fk (19, k, z, tb))) :: st) H := by
  replace hc : ck_19 m pc (19, k, z, tb) o len = some pc' := hc
  unfold ck_19 at hc
  dsimp only at hc
  split at hc
  · obtain ⟨h, rfl⟩ := opg_s hc
    simp only [Bool.and_eq_true, decide_eq_true_eq] at h
    obtain ⟨h1, h2, h3, h4⟩ := h
    exact sim_get F hd h1 (ftg_l h4) (by rw [int_tn h2]; exact hx) (by rw [int_tn h3])
  · cases hc
theorem sim_20 {x : Int} (F : frm p s mid args meth c D cy base b L xs m) (hd : decode (bM m) pc = .ok (o, len)) (hc : ck1 m pc (20, k, z, tb) o len = some pc') (hx : shc x = z) : stp1 p l e R s mid args below meth c Q D cy base b L xs m pc pc' ls ((2, x) :: st) H ls (va (H x (fk (20, k, z, tb))) :: st) H := by
  replace hc : ck_20 m pc (20, k, z, tb) o len = some pc' := hc
  unfold ck_20 at hc
  dsimp only at hc
  split at hc
  · obtain ⟨h, rfl⟩ := opg_s hc
    simp only [Bool.and_eq_true, decide_eq_true_eq] at h
    obtain ⟨h1, h2, h3, h4⟩ := h
    exact sim_get F hd h1 (ftg_a h4) (by rw [int_tn h2]; exact hx) (by rw [int_tn h3])
  · cases hc
theorem nf_i {f : Int → Nat} {n : Int} {v : Value} {y : Int} (h : vrel f n (0, y) v) : narrow .int v = v ∧ fits .int v = true := by
  obtain ⟨x, rfl, -⟩ := vrel_i.mp h
  exact ⟨rfl, rfl⟩
theorem nf_l {f : Int → Nat} {n : Int} {v : Value} {y : Int} (h : vrel f n (1, y) v) : narrow .long v = v ∧ fits .long v = true := by
  obtain ⟨x, rfl, -⟩ := vrel_l.mp h
  exact ⟨rfl, rfl⟩
theorem nf_a {f : Int → Nat} {n : Int} {v : Value} {y : Int} {ty : FieldType} (ht : isReferenceType ty = true) (h : vrel f n (2, y) v) : narrow ty v = v ∧ fits ty v = true := by
  rcases vrel_a.mp h with ⟨-, rfl⟩ | ⟨-, rfl⟩ <;> cases ty <;> first | exact ⟨rfl, rfl⟩ | cases ht
theorem nf_z {f : Int → Nat} {n : Int} {v : Value} {y : Int} (hy : y = 0 ∨ y = 1) (h : vrel f n (0, y) v) : narrow .boolean v = v ∧ fits .boolean v = true := by
  obtain ⟨x, rfl, hx⟩ := vrel_i.mp h
  have : x = 0 ∨ x = 1 := by
    rcases hy with rfl | rfl
    · exact Or.inl (Int32.toInt_inj.mp hx)
    · exact Or.inr (Int32.toInt_inj.mp hx)
  rcases this with rfl | rfl <;> exact ⟨by decide +kernel, by decide +kernel⟩
theorem sim_21 {x y : Int} (F : frm p s mid args meth c D cy base b L xs m) (hd : decode (bM m) pc = .ok (o, len)) (hc : ck1 m pc (21, k, z, tb) o len = some pc') (hx : shc x = z) : stp1 p l e R s mid args below meth c Q D cy base b L xs m pc pc' ls ((0, y) :: (2, x) :: st) H ls st (hs H x (fk (21, k, z, tb)) y) := by
  replace hc : ck_21 m pc (21, k, z, tb) o len = some pc' := hc
  unfold ck_21 at hc
  dsimp only at hc
  split at hc
  · obtain ⟨h, rfl⟩ := opg_s hc
    simp only [Bool.and_eq_true, decide_eq_true_eq] at h
    obtain ⟨h1, h5, h2, h3, h4⟩ := h
    have := sim_put (st := st) (ls := ls) (l := l) (e := e) (R := R) (below := below) (Q := Q) (H := H) (x := x) (y := y) F hd h1 h5 (ftg_i (Or.inl h4)) (by rw [int_tn h2]; exact hx) (fun f n v hv => by rw [h4]; exact nf_i hv)
    rw [int_tn h3] at this
    exact this
  · cases hc
theorem sim_22 {x y : Int} (F : frm p s mid args meth c D cy base b L xs m) (hd : decode (bM m) pc = .ok (o, len)) (hc : ck1 m pc (22, k, z, tb) o len = some pc') (hx : shc x = z) : stp1 p l e R s mid args below meth c Q D cy base b L xs m pc pc' ls ((1, y) :: (2, x) :: st) H ls st (hs H x (fk (22, k, z, tb)) y) := by
  replace hc : ck_22 m pc (22, k, z, tb) o len = some pc' := hc
  unfold ck_22 at hc
  dsimp only at hc
  split at hc
  · obtain ⟨h, rfl⟩ := opg_s hc
    simp only [Bool.and_eq_true, decide_eq_true_eq] at h
    obtain ⟨h1, h5, h2, h3, h4⟩ := h
    have := sim_put (st := st) (ls := ls) (l := l) (e := e) (R := R) (below := below) (Q := Q) (H := H) (x := x) (y := y) F hd h1 h5 (ftg_l h4) (by rw [int_tn h2]; exact hx) (fun f n v hv => by rw [h4]; exact nf_l hv)
    rw [int_tn h3] at this
    exact this
  · cases hc
theorem sim_23 {x y : Int} (F : frm p s mid args meth c D cy base b L xs m) (hd : decode (bM m) pc = .ok (o, len)) (hc : ck1 m pc (23, k, z, tb) o len = some pc') (hx : shc x = z) : stp1 p l e R s mid args below meth c Q D cy base b L xs m pc pc' ls ((2, y) :: (2, x) :: st) H ls st (hs H x (fk (23, k, z, tb)) y) := by
  replace hc : ck_23 m pc (23, k, z, tb) o len = some pc' := hc
  unfold ck_23 at hc
  dsimp only at hc
  split at hc
  · obtain ⟨h, rfl⟩ := opg_s hc
    simp only [Bool.and_eq_true, decide_eq_true_eq] at h
    obtain ⟨h1, h5, h2, h3, h4⟩ := h
    have := sim_put (st := st) (ls := ls) (l := l) (e := e) (R := R) (below := below) (Q := Q) (H := H) (x := x) (y := y) F hd h1 h5 (ftg_a h4) (by rw [int_tn h2]; exact hx) (fun f n v hv => nf_a h4 hv)
    rw [int_tn h3] at this
    exact this
  · cases hc
theorem sim_24 {x y : Int} (F : frm p s mid args meth c D cy base b L xs m) (hd : decode (bM m) pc = .ok (o, len)) (hc : ck1 m pc (24, k, z, tb) o len = some pc') (hx : shc x = z) (hy : y = 0 ∨ y = 1) : stp1 p l e R s mid args below meth c Q D cy base b L xs m pc pc' ls ((0, y) :: (2, x) :: st) H ls st (hs H x (fk (24, k, z, tb)) y) := by
  replace hc : ck_24 m pc (24, k, z, tb) o len = some pc' := hc
  unfold ck_24 at hc
  dsimp only at hc
  split at hc
  · obtain ⟨h, rfl⟩ := opg_s hc
    simp only [Bool.and_eq_true, decide_eq_true_eq] at h
    obtain ⟨h1, h5, h2, h3, h4⟩ := h
    have := sim_put (st := st) (ls := ls) (l := l) (e := e) (R := R) (below := below) (Q := Q) (H := H) (x := x) (y := y) F hd h1 h5 (ftg_i (Or.inr h4)) (by rw [int_tn h2]; exact hx) (fun f n v hv => by rw [h4]; exact nf_z hy hv)
    rw [int_tn h3] at this
    exact this
  · cases hc
theorem sim_25 {x j : Int} (F : frm p s mid args meth c D cy base b L xs m) (hd : decode (bM m) pc = .ok (o, len)) (hc : ck1 m pc (25, k, z, tb) o len = some pc') (ht : sht x = 1) (h0 : 0 ≤ j) (h1 : j < shl x) : stp1 p l e R s mid args below meth c Q D cy base b L xs m pc pc' ls ((0, j) :: (2, x) :: st) H ls (vi (H x j) :: st) H := by
  obtain ⟨hxx, hb, -, hown, -, hts, hK, -⟩ := F
  replace hc : ck_25 m pc (25, k, z, tb) o len = some pc' := hc
  unfold ck_25 at hc
  obtain ⟨h, rfl⟩ := opg_s hc
  simp only [Bool.and_eq_true, decide_eq_true_eq] at h
  obtain ⟨rfl, rfl⟩ := h
  refine stp1.pure rfl fun f la sv Hm locs cells slots hh kk2 => ?_
  obtain ⟨hl, hs, hw, -⟩ := hh
  have hxn := (sh_ne (k := x) (Or.inr (by omega))).1
  replace hs := srel_i hs
  obtain ⟨j', sv', rfl, hj, hs⟩ := hs
  replace hs := srel_a hs hxn
  obtain ⟨sv', rfl, ho, hs⟩ := hs
  obtain ⟨ws, g, q1, q2, q3, q4, -⟩ := hw.arr ho (t := 1) ht (by omega)
  obtain ⟨g1, g2⟩ := vp_in_of_int (n := (shl x).toNat) hj h0 (by omega)
  refine va_iald hxx hb hK q3 (x.toNat - 1) 0 q1 rfl g1 hd (kk2 _ _ hl (hs.i ?_))
  rw [g2, q2 _ (by omega), int_tn h0]
theorem sim_26 {x j : Int} (F : frm p s mid args meth c D cy base b L xs m) (hd : decode (bM m) pc = .ok (o, len)) (hc : ck1 m pc (26, k, z, tb) o len = some pc') (ht : sht x = 2) (h0 : 0 ≤ j) (h1 : j < shl x) : stp1 p l e R s mid args below meth c Q D cy base b L xs m pc pc' ls ((0, j) :: (2, x) :: st) H ls (vl (H x j) :: st) H := by
  obtain ⟨hxx, hb, -, hown, -, hts, hK, -⟩ := F
  replace hc : ck_26 m pc (26, k, z, tb) o len = some pc' := hc
  unfold ck_26 at hc
  obtain ⟨h, rfl⟩ := opg_s hc
  simp only [Bool.and_eq_true, decide_eq_true_eq] at h
  obtain ⟨rfl, rfl⟩ := h
  refine stp1.pure rfl fun f la sv Hm locs cells slots hh kk2 => ?_
  obtain ⟨hl, hs, hw, -⟩ := hh
  have hxn := (sh_ne (k := x) (Or.inr (by omega))).1
  replace hs := srel_i hs
  obtain ⟨j', sv', rfl, hj, hs⟩ := hs
  replace hs := srel_a hs hxn
  obtain ⟨sv', rfl, ho, hs⟩ := hs
  obtain ⟨ws, g, q1, q2, q3, q4, -⟩ := hw.arrL ho ht
  obtain ⟨g1, g2⟩ := vp_in_of_int (n := (shl x).toNat) hj h0 (by omega)
  refine va_lald hxx hb hK q3 (x.toNat - 1) 1 q1 rfl g1 hd (kk2 _ _ hl (hs.j ?_))
  rw [g2, q2 _ (by omega), int_tn h0]
theorem sim_27 {x j : Int} (F : frm p s mid args meth c D cy base b L xs m) (hd : decode (bM m) pc = .ok (o, len)) (hc : ck1 m pc (27, k, z, tb) o len = some pc') (ht : sht x = 3) (h0 : 0 ≤ j) (h1 : j < shl x) : stp1 p l e R s mid args below meth c Q D cy base b L xs m pc pc' ls ((0, j) :: (2, x) :: st) H ls (vi (H x j) :: st) H := by
  obtain ⟨hxx, hb, -, hown, -, hts, hK, -⟩ := F
  replace hc : ck_27 m pc (27, k, z, tb) o len = some pc' := hc
  unfold ck_27 at hc
  obtain ⟨h, rfl⟩ := opg_s hc
  simp only [Bool.and_eq_true, decide_eq_true_eq] at h
  obtain ⟨rfl, rfl⟩ := h
  refine stp1.pure rfl fun f la sv Hm locs cells slots hh kk2 => ?_
  obtain ⟨hl, hs, hw, -⟩ := hh
  have hxn := (sh_ne (k := x) (Or.inr (by omega))).1
  replace hs := srel_i hs
  obtain ⟨j', sv', rfl, hj, hs⟩ := hs
  replace hs := srel_a hs hxn
  obtain ⟨sv', rfl, ho, hs⟩ := hs
  obtain ⟨ws, g, q1, q2, q3, q4, -⟩ := hw.arr ho (t := 3) ht (by omega)
  obtain ⟨g1, g2⟩ := vp_in_of_int (n := (shl x).toNat) hj h0 (by omega)
  refine va_bald hxx hb hK q3 (x.toNat - 1) 2 q1 rfl g1 hd (kk2 _ _ hl (hs.i ?_))
  rw [g2, q2 _ (by omega), int_tn h0]
theorem sim_28 {x j : Int} (F : frm p s mid args meth c D cy base b L xs m) (hd : decode (bM m) pc = .ok (o, len)) (hc : ck1 m pc (28, k, z, tb) o len = some pc') (ht : sht x = 4) (h0 : 0 ≤ j) (h1 : j < shl x) : stp1 p l e R s mid args below meth c Q D cy base b L xs m pc pc' ls ((0, j) :: (2, x) :: st) H ls (vi (H x j) :: st) H := by
  obtain ⟨hxx, hb, -, hown, -, hts, hK, -⟩ := F
  replace hc : ck_28 m pc (28, k, z, tb) o len = some pc' := hc
  unfold ck_28 at hc
  obtain ⟨h, rfl⟩ := opg_s hc
  simp only [Bool.and_eq_true, decide_eq_true_eq] at h
  obtain ⟨rfl, rfl⟩ := h
  refine stp1.pure rfl fun f la sv Hm locs cells slots hh kk2 => ?_
  obtain ⟨hl, hs, hw, -⟩ := hh
  have hxn := (sh_ne (k := x) (Or.inr (by omega))).1
  replace hs := srel_i hs
  obtain ⟨j', sv', rfl, hj, hs⟩ := hs
  replace hs := srel_a hs hxn
  obtain ⟨sv', rfl, ho, hs⟩ := hs
  obtain ⟨ws, g, q1, q2, q3, q4, -⟩ := hw.arr ho (t := 4) ht (by omega)
  obtain ⟨g1, g2⟩ := vp_in_of_int (n := (shl x).toNat) hj h0 (by omega)
  refine va_cald hxx hb hK q3 (x.toNat - 1) 3 q1 rfl g1 hd (kk2 _ _ hl (hs.i ?_))
  rw [g2, q2 _ (by omega), int_tn h0]
theorem upd_rel {g : Nat → Int32} {h : Int → Int} {n : Nat} {j v : Int} {x : Int32} {Lx : Int} (hg : ∀ i : Nat, (i : Int) < Lx → (g i).toInt = h i) (hn : n = j.toNat) (hj : 0 ≤ j) (hx : x.toInt = v) (i : Nat) (hi : (i : Int) < Lx) : (upd g n x i).toInt = if (i : Int) = j then v else h i := by
  unfold upd
  by_cases e : i = n
  · rw [if_pos e, if_pos (by omega)]; exact hx
  · rw [if_neg e, if_neg (by omega)]; exact hg i hi
theorem updL_rel {g : Nat → Int64} {h : Int → Int} {n : Nat} {j v : Int} {x : Int64} {Lx : Int} (hg : ∀ i : Nat, (i : Int) < Lx → (g i).toInt = h i) (hn : n = j.toNat) (hj : 0 ≤ j) (hx : x.toInt = v) (i : Nat) (hi : (i : Int) < Lx) : (vp_updL g n x i).toInt = if (i : Int) = j then v else h i := by
  unfold vp_updL
  by_cases e : i = n
  · rw [if_pos e, if_pos (by omega)]; exact hx
  · rw [if_neg e, if_neg (by omega)]; exact hg i hi
theorem nar_b (x : Int32) : (vp_nar .byte x).toInt = w8 x.toInt := by rw [vp_nar_byte]; exact cv_i2b x
theorem nar_c (x : Int32) : (vp_nar .char x).toInt = w16u x.toInt := by
  rw [vp_nar_char]
  have e : x.toUInt32.toUInt16.toUInt32 = x.toUInt32 % 65536 := by
    apply UInt32.toNat_inj.mp
    simp
  rw [e]
  exact ch_w16 x
theorem sim_29 {x j v : Int} (F : frm p s mid args meth c D cy base b L xs m) (hd : decode (bM m) pc = .ok (o, len)) (hc : ck1 m pc (29, k, z, tb) o len = some pc') (ht : sht x = 1) (h0 : 0 ≤ j) (h1 : j < shl x) : stp1 p l e R s mid args below meth c Q D cy base b L xs m pc pc' ls ((0, v) :: (0, j) :: (2, x) :: st) H ls st (hs H x j v) := by
  obtain ⟨hxx, hb, -, hown, -, hts, hK, -⟩ := F
  replace hc : ck_29 m pc (29, k, z, tb) o len = some pc' := hc
  unfold ck_29 at hc
  obtain ⟨h, rfl⟩ := opg_s hc
  simp only [Bool.and_eq_true, decide_eq_true_eq] at h
  obtain ⟨rfl, rfl⟩ := h
  have hxn := sh_ne (k := x) (Or.inr (by omega))
  refine stp1.wr (by funext j; rw [hs_app, if_neg (by omega)]) (by funext j; rw [hs_app, if_neg (by omega)]) fun f la sv Hm locs cells slots hh kk2 => ?_
  obtain ⟨hl, hs, hw, hS, -⟩ := hh
  replace hs := srel_i hs
  obtain ⟨v', sv', rfl, hv, hs⟩ := hs
  replace hs := srel_i hs
  obtain ⟨j', sv', rfl, hj, hs⟩ := hs
  replace hs := srel_a hs hxn.1
  obtain ⟨sv', rfl, ho, hs⟩ := hs
  obtain ⟨ws, g, q1, q2, q3, q4, q5⟩ := hw.arr ho (t := 1) ht (by omega)
  obtain ⟨g1, g2⟩ := vp_in_of_int (n := (shl x).toNat) hj h0 (by omega)
  refine va_iast hxx hb hK q3 q4 hS (x.toNat - 1) 0 q1 rfl g1 hd fun Hm' locs' hP' hD' hS' => kk2 _ _ _ hs ?_ hS'
  rw [hs_eq]
  exact q5 _ _ _ (fun i hi => upd_rel q2 g2 h0 hv i hi) hP' hD'
theorem sim_30 {x j v : Int} (F : frm p s mid args meth c D cy base b L xs m) (hd : decode (bM m) pc = .ok (o, len)) (hc : ck1 m pc (30, k, z, tb) o len = some pc') (ht : sht x = 2) (h0 : 0 ≤ j) (h1 : j < shl x) : stp1 p l e R s mid args below meth c Q D cy base b L xs m pc pc' ls ((1, v) :: (0, j) :: (2, x) :: st) H ls st (hs H x j v) := by
  obtain ⟨hxx, hb, -, hown, -, hts, hK, -⟩ := F
  replace hc : ck_30 m pc (30, k, z, tb) o len = some pc' := hc
  unfold ck_30 at hc
  obtain ⟨h, rfl⟩ := opg_s hc
  simp only [Bool.and_eq_true, decide_eq_true_eq] at h
  obtain ⟨rfl, rfl⟩ := h
  have hxn := sh_ne (k := x) (Or.inr (by omega))
  refine stp1.wr (by funext j; rw [hs_app, if_neg (by omega)]) (by funext j; rw [hs_app, if_neg (by omega)]) fun f la sv Hm locs cells slots hh kk2 => ?_
  obtain ⟨hl, hs, hw, hS, -⟩ := hh
  replace hs := srel_l hs
  obtain ⟨v', sv', rfl, hv, hs⟩ := hs
  replace hs := srel_i hs
  obtain ⟨j', sv', rfl, hj, hs⟩ := hs
  replace hs := srel_a hs hxn.1
  obtain ⟨sv', rfl, ho, hs⟩ := hs
  obtain ⟨ws, g, q1, q2, q3, q4, q5⟩ := hw.arrL ho ht
  obtain ⟨g1, g2⟩ := vp_in_of_int (n := (shl x).toNat) hj h0 (by omega)
  refine va_last hxx hb hK q3 q4 hS (x.toNat - 1) 1 q1 rfl g1 hd fun Hm' locs' hP' hD' hS' => kk2 _ _ _ hs ?_ hS'
  rw [hs_eq]
  exact q5 _ _ _ (fun i hi => updL_rel q2 g2 h0 hv i hi) hP' hD'
theorem sim_31 {x j v : Int} (F : frm p s mid args meth c D cy base b L xs m) (hd : decode (bM m) pc = .ok (o, len)) (hc : ck1 m pc (31, k, z, tb) o len = some pc') (ht : sht x = 3) (h0 : 0 ≤ j) (h1 : j < shl x) : stp1 p l e R s mid args below meth c Q D cy base b L xs m pc pc' ls ((0, v) :: (0, j) :: (2, x) :: st) H ls st (hs H x j (w8 v)) := by
  obtain ⟨hxx, hb, -, hown, -, hts, hK, -⟩ := F
  replace hc : ck_31 m pc (31, k, z, tb) o len = some pc' := hc
  unfold ck_31 at hc
  obtain ⟨h, rfl⟩ := opg_s hc
  simp only [Bool.and_eq_true, decide_eq_true_eq] at h
  obtain ⟨rfl, rfl⟩ := h
  have hxn := sh_ne (k := x) (Or.inr (by omega))
  refine stp1.wr (by funext j; rw [hs_app, if_neg (by omega)]) (by funext j; rw [hs_app, if_neg (by omega)]) fun f la sv Hm locs cells slots hh kk2 => ?_
  obtain ⟨hl, hs, hw, hS, -⟩ := hh
  replace hs := srel_i hs
  obtain ⟨v', sv', rfl, hv, hs⟩ := hs
  replace hs := srel_i hs
  obtain ⟨j', sv', rfl, hj, hs⟩ := hs
  replace hs := srel_a hs hxn.1
  obtain ⟨sv', rfl, ho, hs⟩ := hs
  obtain ⟨ws, g, q1, q2, q3, q4, q5⟩ := hw.arr ho (t := 3) ht (by omega)
  obtain ⟨g1, g2⟩ := vp_in_of_int (n := (shl x).toNat) hj h0 (by omega)
  refine va_bast hxx hb hK q3 q4 hS (x.toNat - 1) 2 q1 rfl g1 hd fun Hm' locs' hP' hD' hS' => kk2 _ _ _ hs ?_ hS'
  rw [hs_eq]
  exact q5 _ _ _ (fun i hi => upd_rel q2 g2 h0 (by rw [nar_b, hv]) i hi) hP' hD'
theorem sim_32 {x j v : Int} (F : frm p s mid args meth c D cy base b L xs m) (hd : decode (bM m) pc = .ok (o, len)) (hc : ck1 m pc (32, k, z, tb) o len = some pc') (ht : sht x = 4) (h0 : 0 ≤ j) (h1 : j < shl x) : stp1 p l e R s mid args below meth c Q D cy base b L xs m pc pc' ls ((0, v) :: (0, j) :: (2, x) :: st) H ls st (hs H x j (w16u v)) := by
  obtain ⟨hxx, hb, -, hown, -, hts, hK, -⟩ := F
  replace hc : ck_32 m pc (32, k, z, tb) o len = some pc' := hc
  unfold ck_32 at hc
  obtain ⟨h, rfl⟩ := opg_s hc
  simp only [Bool.and_eq_true, decide_eq_true_eq] at h
  obtain ⟨rfl, rfl⟩ := h
  have hxn := sh_ne (k := x) (Or.inr (by omega))
  refine stp1.wr (by funext j; rw [hs_app, if_neg (by omega)]) (by funext j; rw [hs_app, if_neg (by omega)]) fun f la sv Hm locs cells slots hh kk2 => ?_
  obtain ⟨hl, hs, hw, hS, -⟩ := hh
  replace hs := srel_i hs
  obtain ⟨v', sv', rfl, hv, hs⟩ := hs
  replace hs := srel_i hs
  obtain ⟨j', sv', rfl, hj, hs⟩ := hs
  replace hs := srel_a hs hxn.1
  obtain ⟨sv', rfl, ho, hs⟩ := hs
  obtain ⟨ws, g, q1, q2, q3, q4, q5⟩ := hw.arr ho (t := 4) ht (by omega)
  obtain ⟨g1, g2⟩ := vp_in_of_int (n := (shl x).toNat) hj h0 (by omega)
  refine va_cast hxx hb hK q3 q4 hS (x.toNat - 1) 3 q1 rfl g1 hd fun Hm' locs' hP' hD' hS' => kk2 _ _ _ hs ?_ hS'
  rw [hs_eq]
  exact q5 _ _ _ (fun i hi => upd_rel q2 g2 h0 (by rw [nar_c, hv]) i hi) hP' hD'
theorem ofNat_shl {x : Int} : (Int32.ofNat (shl x).toNat).toInt = shl x := by
  have h := (sh_all x).2.2.1
  have : (Int32.ofNat (shl x).toNat).toInt = ((shl x).toNat : Int) := nI_toInt (by omega)
  rw [this]
  omega
theorem sim_33 {x : Int} (F : frm p s mid args meth c D cy base b L xs m) (hd : decode (bM m) pc = .ok (o, len)) (hc : ck1 m pc (33, k, z, tb) o len = some pc') (ht : sht x ≠ 0) : stp1 p l e R s mid args below meth c Q D cy base b L xs m pc pc' ls ((2, x) :: st) H ls (vi (shl x) :: st) H := by
  obtain ⟨hxx, hb, -, hown, -, hts, hK, -⟩ := F
  replace hc : ck_33 m pc (33, k, z, tb) o len = some pc' := hc
  unfold ck_33 at hc
  obtain ⟨h, rfl⟩ := opg_s hc
  simp only [Bool.and_eq_true, decide_eq_true_eq] at h
  obtain ⟨rfl, rfl⟩ := h
  refine stp1.pure rfl fun f la sv Hm locs cells slots hh kk2 => ?_
  obtain ⟨hl, hs, hw, -⟩ := hh
  have hxn := (sh_ne (k := x) (Or.inr ht)).1
  replace hs := srel_a hs hxn
  obtain ⟨sv', rfl, ho, hs⟩ := hs
  have h5 := (sh_all x).2.2.2.1
  have h6 : sht x = 1 ∨ sht x = 2 ∨ sht x = 3 ∨ sht x = 4 := by omega
  rcases h6 with h6 | h6 | h6 | h6
  · obtain ⟨ws, g, q1, q2, q3, q4, -⟩ := hw.arr ho (t := 1) h6 (by omega)
    exact va_alen hxx hb hK q3 (x.toNat - 1) 0 q1 (ty := .int) rfl rfl hd (kk2 _ _ hl (hs.i ofNat_shl))
  · obtain ⟨ws, g, q1, q2, q3, q4, -⟩ := hw.arrL ho h6
    exact va_alen hxx hb hK q3 (x.toNat - 1) 1 q1 (ty := .long) rfl rfl hd (kk2 _ _ hl (hs.i ofNat_shl))
  · obtain ⟨ws, g, q1, q2, q3, q4, -⟩ := hw.arr ho (t := 3) h6 (by omega)
    exact va_alen hxx hb hK q3 (x.toNat - 1) 2 q1 (ty := .byte) rfl rfl hd (kk2 _ _ hl (hs.i ofNat_shl))
  · obtain ⟨ws, g, q1, q2, q3, q4, -⟩ := hw.arr ho (t := 4) h6 (by omega)
    exact va_alen hxx hb hK q3 (x.toNat - 1) 3 q1 (ty := .char) rfl rfl hd (kk2 _ _ hl (hs.i ofNat_shl))
end SIM
