/-! THE SIMULATION, third part: one instruction that neither jumps nor calls -/
section SIM
variable {p : Program} {l : Launch} {e : Env} {R : Room} {s : State} {mid : MethodId} {args : Array Value} {below : List Frame} {meth : Method} {c : Code} {Q : State → Prop}
variable {D : va_G} {cy : Nat → ClassId} {b : Nat → Nat} {base L : Nat} {xs : Nat → Int32} {m : Nat}
def lnS : List Nat := [86, 85]
def byS : List (List Int32) := [[115, 101, 97, 116, 32, 97, 114, 109, 32, 114, 111, 119, 101, 114, 32, 115, 116, 114, 101, 110, 103, 116, 104, 32, 116, 105, 114, 101, 115, 32, 101, 97, 99, 104, 32, 102, 105, 120, 32, 108, 101, 102, 116, 32, 114, 105, 103, 104, 116, 32, 119, 97, 110, 116, 32, 105, 115, 32, 110, 101, 97, 114, 32, 114, 117, 110, 32, 112, 111, 119, 101, 114, 32, 115, 119, 117, 110, 103, 32, 112, 97, 121, 32, 111, 110, 32], [102, 105, 114, 115, 116, 32, 108, 97, 115, 116, 32, 111, 102, 116, 101, 110, 32, 116, 111, 116, 97, 108, 32, 109, 111, 115, 116, 32, 108, 101, 97, 115, 116, 32, 111, 114, 32, 97, 110, 100, 32, 110, 111, 116, 32, 97, 108, 108, 32, 115, 116, 114, 111, 107, 101, 32, 111, 102, 102, 32, 103, 111, 111, 100, 32, 115, 119, 105, 110, 103, 32, 102, 111, 114, 99, 101, 32, 109, 105, 110, 32, 109, 97, 120, 32]]
def tx0 : String := "seat arm rower strength tires each fix left right want is near run power swung pay on "
def tx1 : String := "first last often total most least or and not all stroke off good swing force min max "
/-- what stays as it was at the start: the constants' texts, links of nest mates, statics -/
def stf (b : Nat → Nat) (base : Nat) (U : State) (Hm : Heap) : Prop := (∃ adK adV : Nat → Nat, vk_S 2 lnS byS adK adV (aq base) U Hm ∧ adK 0 = b 1 ∧ adK 1 = b 2) ∧ (vk_R (cn 0) 44 tx0 (b 1) U ∧ vk_R (cn 7) 49 tx1 (b 2) U) ∧ (∀ q ∈ ML, q.2.2.2 = 3 → va_Nw (mlW q) U) ∧ va_Z "java/lang/String" "COMPACT_STRINGS" "Z" (.int 1) (aq base) U Hm ∧ ∃ t : Value, (t = .null ∨ ∃ q : Nat, t = .ref q) ∧ va_Z "jdk/internal/util/Preconditions" "SIOOBE_FORMATTER" "Ljava/util/function/BiFunction;" t (aq base) U Hm
theorem stf.warm {b : Nat → Nat} {base : Nat} {s U : State} {Hm Hm' : Heap} (h : stf b base s Hm) (hW : s.WarmedH U.vm) (hq : ∀ a : Nat, a < Hm.size → ¬ aq base a → Hm'[a]? = Hm[a]?) : stf b base U Hm' := by
  obtain ⟨⟨adK, adV, h1, h2⟩, ⟨h3, h4⟩, h5, h6, t, ht, h7⟩ := h
  refine ⟨⟨adK, adV, (h1.moved hW.alike).kept hq, h2⟩, ⟨h3.warm hW, h4.warm hW⟩, fun q hm hk => ?_, (h6.moved hW.alike).kept hq, t, ht, (h7.moved hW.alike).kept hq⟩
  have := h5 q hm hk
  unfold mlW at this ⊢
  rw [hk] at this ⊢
  exact va_Nw.warmM hW this
theorem stf.same {b : Nat → Nat} {base : Nat} {s U : State} {Hm : Heap} (h : stf b base s Hm) (hv : U.vm = s.vm) : stf b base U Hm := by
  obtain ⟨⟨adK, adV, h1, h2⟩, ⟨h3, h4⟩, h5, h6, t, ht, h7⟩ := h
  have hal : s.vm.Alike U.vm := by rw [hv]; exact Vm.Alike.refl _
  refine ⟨⟨adK, adV, h1.moved hal, h2⟩, ⟨h3.same hv, h4.same hv⟩, fun q hm hk => ?_, h6.moved hal, t, ht, h7.moved hal⟩
  have := h5 q hm hk
  unfold mlW at this ⊢
  rw [hk] at this ⊢
  exact va_Nw.same rfl hv.symm this
/-- what a frame of method m stands on -/
def frm (p : Program) (s : State) (mid : MethodId) (args : Array Value) (meth : Method) (c : Code) (D : va_G) (cy : Nat → ClassId) (base : Nat) (b : Nat → Nat) (L : Nat) (xs : Nat → Int32) (m : Nat) : Prop :=
  p.tables.exec = Jvm.exec ∧ c.code = bM m ∧ c.maxLocals = mxl m ∧ s.vm.findClass (cn (on m)) = some mid.cls ∧ ((yM m).name = "<init>" → meth.name = "<init>") ∧ (∀ w ∈ lw_g, w.before args s = true) ∧ va_K D vwCl (tys4 cy) s ∧ va_X (b 0) L xs s s.heap ∧ b 0 < base ∧ base ≤ s.heap.size ∧ stf b base s s.heap
/-- how far on the machine is: the abstract state, held -/
def held (s : State) (D : va_G) (cy : Nat → ClassId) (base : Nat) (b : Nat → Nat) (L : Nat) (xs : Nat → Int32) (m : Nat) (f : Int → Nat) (ls st : List AV) (H : Hp) (la : Array Slot) (sv : List Value) (Hm : Heap) (locs : List Loc) : Prop :=
  lrel f (H 0 0) ls la ∧ srel f (H 0 0) st sv ∧ wrl D cy base f H Hm ∧ va_S (aq base) s.heap Hm locs ∧ ls.length = mxl m ∧ (f 999 = b 0 ∧ f 901 = b 1 ∧ f 902 = b 2) ∧ H 0 1 = L ∧ (∀ j : Nat, j < L → H 999 j = (xs j).toInt) ∧ L < 100000
def szc (k : Int) : Nat := if 0 ≤ shc k then (clD (shc k).toNat).2.2 else (shl k).toNat
def szs : Nat → Nat
  | 0 => 0
  | n + 1 => szs n + szc (n + 1)
/-- the step of one instruction -/
def stp1 (p : Program) (l : Launch) (e : Env) (R : Room) (s : State) (mid : MethodId) (args : Array Value) (below : List Frame) (meth : Method) (c : Code) (Q : State → Prop) (D : va_G) (cy : Nat → ClassId) (base : Nat) (b : Nat → Nat) (L : Nat) (xs : Nat → Int32) (m pc pc' : Nat) (ls st : List AV) (H : Hp) (ls' st' : List AV) (H' : Hp) : Prop :=
  ∀ (f : Int → Nat) (la : Array Slot) (sv : List Value) (Hm : Heap) (locs : List Loc) (cells slots : Nat), held s D cy base b L xs m f ls st H la sv Hm locs → cells + ((H' 0 0).toNat - (H 0 0).toNat) ≤ R.cells → slots + (szs (H' 0 0).toNat - szs (H 0 0).toNat) ≤ R.slots →
  (∀ (f' : Int → Nat) (la' : Array Slot) (sv' : List Value) (Hm' : Heap) (locs' : List Loc), (∀ k, okr (H 0 0) k → f' k = f k) → held s D cy base b L xs m f' ls' st' H' la' sv' Hm' locs' → W p l e R s mid args below meth c Hm' locs' (cells + ((H' 0 0).toNat - (H 0 0).toNat)) (slots + (szs (H' 0 0).toNat - szs (H 0 0).toNat)) Q (F0 mid pc' la' sv')) →
  W p l e R s mid args below meth c Hm locs cells slots Q (F0 mid pc la sv)
/-- an instruction that leaves the heap -/
theorem stp1.pure {pc pc' : Nat} {ls st ls' st' : List AV} {H : Hp} (hlen : ls'.length = ls.length)
    (h : ∀ (f : Int → Nat) (la : Array Slot) (sv : List Value) (Hm : Heap) (locs : List Loc) (cells slots : Nat), held s D cy base b L xs m f ls st H la sv Hm locs →
      (∀ (la' : Array Slot) (sv' : List Value), lrel f (H 0 0) ls' la' → srel f (H 0 0) st' sv' → W p l e R s mid args below meth c Hm locs cells slots Q (F0 mid pc' la' sv')) → W p l e R s mid args below meth c Hm locs cells slots Q (F0 mid pc la sv)) :
    stp1 p l e R s mid args below meth c Q D cy base b L xs m pc pc' ls st H ls' st' H := by
  intro f la sv Hm locs cells slots hh _ _ kk
  refine h f la sv Hm locs cells slots hh fun la' sv' hl hs => ?_
  obtain ⟨-, -, h3, h4, h5, h6⟩ := hh
  have := kk f la' sv' Hm locs (fun _ _ => rfl) ⟨hl, hs, h3, h4, by rw [hlen]; exact h5, h6⟩
  simpa using this
/-- an instruction that writes one cell -/
theorem stp1.wr {pc pc' : Nat} {ls st st' : List AV} {H H' : Hp} (h0 : H' 0 = H 0) (h9 : H' 999 = H 999)
    (h : ∀ (f : Int → Nat) (la : Array Slot) (sv : List Value) (Hm : Heap) (locs : List Loc) (cells slots : Nat), held s D cy base b L xs m f ls st H la sv Hm locs →
      (∀ (sv' : List Value) (Hm' : Heap) (locs' : List Loc), srel f (H 0 0) st' sv' → wrl D cy base f H' Hm' → va_S (aq base) s.heap Hm' locs' → W p l e R s mid args below meth c Hm' locs' cells slots Q (F0 mid pc' la sv')) → W p l e R s mid args below meth c Hm locs cells slots Q (F0 mid pc la sv)) :
    stp1 p l e R s mid args below meth c Q D cy base b L xs m pc pc' ls st H ls st' H' := by
  intro f la sv Hm locs cells slots hh _ _ kk
  have h00 : H' 0 0 = H 0 0 := by rw [h0]
  refine h f la sv Hm locs cells slots hh fun sv' Hm' locs' hs hw hS => ?_
  obtain ⟨h1, -, -, -, h5, h6, h7, h8, h10⟩ := hh
  have := kk f la sv' Hm' locs' (fun _ _ => rfl) ⟨by rw [h00]; exact h1, by rw [h00]; exact hs, hw, hS, h5, h6, by rw [h0]; exact h7, fun j hj => by rw [h9]; exact h8 j hj, h10⟩
  rw [h00] at this
  simpa using this
/-- a number on the stack -/
theorem srel.i {f : Int → Nat} {n : Int} {st : List AV} {sv : List Value} {x : Int32} {z : Int} (h : srel f n st sv) (hx : x.toInt = z) : srel f n ((0, z) :: st) (.int x :: sv) := ⟨vrel_i.mpr ⟨x, rfl, hx⟩, h⟩
theorem srel.j {f : Int → Nat} {n : Int} {st : List AV} {sv : List Value} {x : Int64} {z : Int} (h : srel f n st sv) (hx : x.toInt = z) : srel f n ((1, z) :: st) (.long x :: sv) := ⟨vrel_l.mpr ⟨x, rfl, hx⟩, h⟩
theorem srel.a {f : Int → Nat} {n : Int} {st : List AV} {sv : List Value} {v : Value} {z : Int} (h : srel f n st sv) (hv : vrel f n (2, z) v) : srel f n ((2, z) :: st) (v :: sv) := ⟨hv, h⟩
section ONE
variable {pc pc' len k : Nat} {z : Int} {tb : List (Int × Nat)} {o : JI} {ls st ls' st' : List AV} {H H' : Hp}
theorem sim_1 (F : frm p s mid args meth c D cy base b L xs m) (hd : decode (bM m) pc = .ok (o, len)) (hc : ck1 m pc (1, k, z, tb) o len = some pc') : stp1 p l e R s mid args below meth c Q D cy base b L xs m pc pc' ls st H ls (vi z :: st) H := by
  obtain ⟨hx, hb, -, hown, -, hts, -⟩ := F
  refine stp1.pure rfl fun f la sv Hm locs cells slots hh kk => ?_
  obtain ⟨hl, hs, -⟩ := hh
  replace hc : ck_1 m pc (1, k, z, tb) o len = some pc' := hc
  unfold ck_1 at hc
  dsimp only at hc
  split at hc
  · obtain ⟨h, rfl⟩ := opg_s hc
    simp only [Bool.and_eq_true, decide_eq_true_eq] at h
    obtain ⟨rfl, rfl, h3⟩ := h
    exact lv_iconst hx hb hd rfl (kk _ _ hl (hs.i (toInt_ofInt32 h3)))
  · obtain ⟨h, rfl⟩ := opg_s hc
    simp only [Bool.and_eq_true, decide_eq_true_eq] at h
    obtain ⟨rfl, rfl, h3⟩ := h
    refine lv_bipush hx hb hd rfl (kk _ _ hl (hs.i ?_))
    rw [Int8.toInt_toInt32, Int8.toInt_ofInt, show Int8.size = 256 from rfl, Int.bmod_def]
    split <;> omega
  · obtain ⟨h, rfl⟩ := opg_s hc
    simp only [Bool.and_eq_true, decide_eq_true_eq] at h
    obtain ⟨rfl, rfl, h3⟩ := h
    refine lv_sipush hx hb hd rfl (kk _ _ hl (hs.i ?_))
    rw [Int16.toInt_toInt32, Int16.toInt_ofInt, show Int16.size = 65536 from rfl, Int.bmod_def]
    split <;> omega
  · obtain ⟨h, rfl⟩ := opg_s hc
    simp only [Bool.and_eq_true, decide_eq_true_eq] at h
    obtain ⟨rfl, h2, h3⟩ := h
    have hq := KI_ok _ (List.contains_iff_mem.mp h2)
    exact lv_ldc hx hb hown (hts _ (mem_g hq rfl)) hd (kk _ _ hl (hs.i (toInt_ofInt32 h3)))
  · obtain ⟨h, rfl⟩ := opg_s hc
    simp only [Bool.and_eq_true, decide_eq_true_eq] at h
    obtain ⟨rfl, h2, h3⟩ := h
    have hq := KI_ok _ (List.contains_iff_mem.mp h2)
    exact lv_ldcw hx hb hown (hts _ (mem_g hq rfl)) hd (kk _ _ hl (hs.i (toInt_ofInt32 h3)))
  · cases hc
theorem sim_2 (F : frm p s mid args meth c D cy base b L xs m) (hd : decode (bM m) pc = .ok (o, len)) (hc : ck1 m pc (2, k, z, tb) o len = some pc') : stp1 p l e R s mid args below meth c Q D cy base b L xs m pc pc' ls st H ls (vl z :: st) H := by
  obtain ⟨hx, hb, -, hown, -, hts, -⟩ := F
  refine stp1.pure rfl fun f la sv Hm locs cells slots hh kk => ?_
  obtain ⟨hl, hs, -⟩ := hh
  replace hc : ck_2 m pc (2, k, z, tb) o len = some pc' := hc
  unfold ck_2 at hc
  dsimp only at hc
  split at hc
  · rename_i x
    obtain ⟨h, rfl⟩ := opg_s hc
    simp only [Bool.and_eq_true, decide_eq_true_eq] at h
    obtain ⟨rfl, rfl⟩ := h
    refine lv_lconst hx hb hd rfl (kk _ _ hl (hs.j ?_))
    have : (x : Nat) < 2 := x.isLt
    rw [Int64.toInt_ofNat_of_lt (by omega)]
  · obtain ⟨h, rfl⟩ := opg_s hc
    simp only [Bool.and_eq_true, decide_eq_true_eq] at h
    obtain ⟨rfl, h2, h3⟩ := h
    have hq := KL_ok _ (List.contains_iff_mem.mp h2)
    exact lv_ldc2 hx hb hown (hts _ (mem_g hq rfl)) hd (kk _ _ hl (hs.j (toInt_ofInt64 h3)))
  · cases hc
theorem sim_3 {x : Int} (F : frm p s mid args meth c D cy base b L xs m) (hd : decode (bM m) pc = .ok (o, len)) (hc : ck1 m pc (3, k, z, tb) o len = some pc') (hg : lget ls k = (0, x)) : stp1 p l e R s mid args below meth c Q D cy base b L xs m pc pc' ls st H ls (vi x :: st) H := by
  obtain ⟨hx, hb, -⟩ := F
  refine stp1.pure rfl fun f la sv Hm locs cells slots hh kk => ?_
  obtain ⟨hl, hs, -⟩ := hh
  obtain ⟨v, q1, q2⟩ := hl.at hg (by simp)
  obtain ⟨y, rfl, hy⟩ := vrel_i.mp q2
  replace hc : ck_3 m pc (3, k, z, tb) o len = some pc' := hc
  unfold ck_3 at hc
  dsimp only at hc
  split at hc
  · obtain ⟨h, rfl⟩ := opg_s hc
    simp only [Bool.and_eq_true, decide_eq_true_eq] at h
    obtain ⟨rfl, h2⟩ := h
    exact lv_iload_n hx hb hd h2 q1 (kk _ _ hl (hs.i hy))
  · obtain ⟨h, rfl⟩ := opg_s hc
    simp only [Bool.and_eq_true, decide_eq_true_eq] at h
    obtain ⟨rfl, rfl⟩ := h
    exact lv_iload hx hb hd q1 (kk _ _ hl (hs.i hy))
  · cases hc
theorem sim_53 {x : Int} (F : frm p s mid args meth c D cy base b L xs m) (hd : decode (bM m) pc = .ok (o, len)) (hc : ck1 m pc (53, k, z, tb) o len = some pc') (hg : lget ls k = (1, x)) : stp1 p l e R s mid args below meth c Q D cy base b L xs m pc pc' ls st H ls (vl x :: st) H := by
  obtain ⟨hx, hb, -⟩ := F
  refine stp1.pure rfl fun f la sv Hm locs cells slots hh kk => ?_
  obtain ⟨hl, hs, -⟩ := hh
  obtain ⟨v, q1, q2⟩ := hl.at hg (by simp)
  obtain ⟨y, rfl, hy⟩ := vrel_l.mp q2
  replace hc : ck_53 m pc (53, k, z, tb) o len = some pc' := hc
  unfold ck_53 at hc
  dsimp only at hc
  split at hc
  · obtain ⟨h, rfl⟩ := opg_s hc
    simp only [Bool.and_eq_true, decide_eq_true_eq] at h
    obtain ⟨rfl, h2⟩ := h
    exact lv_lload_n hx hb hd h2 q1 (kk _ _ hl (hs.j hy))
  · obtain ⟨h, rfl⟩ := opg_s hc
    simp only [Bool.and_eq_true, decide_eq_true_eq] at h
    obtain ⟨rfl, rfl⟩ := h
    exact lv_lload hx hb hd q1 (kk _ _ hl (hs.j hy))
  · cases hc
theorem sim_54 {x : Int} (F : frm p s mid args meth c D cy base b L xs m) (hd : decode (bM m) pc = .ok (o, len)) (hc : ck1 m pc (54, k, z, tb) o len = some pc') (hg : lget ls k = (2, x)) : stp1 p l e R s mid args below meth c Q D cy base b L xs m pc pc' ls st H ls (va x :: st) H := by
  obtain ⟨hx, hb, -⟩ := F
  refine stp1.pure rfl fun f la sv Hm locs cells slots hh kk => ?_
  obtain ⟨hl, hs, -⟩ := hh
  obtain ⟨v, q1, q2⟩ := hl.at hg (by simp)
  replace hc : ck_54 m pc (54, k, z, tb) o len = some pc' := hc
  unfold ck_54 at hc
  dsimp only at hc
  split at hc
  · obtain ⟨h, rfl⟩ := opg_s hc
    simp only [Bool.and_eq_true, decide_eq_true_eq] at h
    obtain ⟨rfl, h2⟩ := h
    rcases vrel_a.mp q2 with ⟨h3, rfl⟩ | ⟨h3, rfl⟩
    · exact lv_aload_nN hx hb hd h2 q1 (kk _ _ hl (hs.a q2))
    · exact lv_aload_n hx hb hd h2 q1 (kk _ _ hl (hs.a q2))
  · obtain ⟨h, rfl⟩ := opg_s hc
    simp only [Bool.and_eq_true, decide_eq_true_eq] at h
    obtain ⟨rfl, rfl⟩ := h
    rcases vrel_a.mp q2 with ⟨h3, rfl⟩ | ⟨h3, rfl⟩
    · exact lv_aloadN hx hb hd q1 (kk _ _ hl (hs.a q2))
    · exact lv_aload hx hb hd q1 (kk _ _ hl (hs.a q2))
  · cases hc
theorem sim_4 {x : Int} (F : frm p s mid args meth c D cy base b L xs m) (hd : decode (bM m) pc = .ok (o, len)) (hc : ck1 m pc (4, k, z, tb) o len = some pc') (hg : k < ls.length) : stp1 p l e R s mid args below meth c Q D cy base b L xs m pc pc' ls ((0, x) :: st) H (lst1 ls k (vi x)) st H := by
  obtain ⟨hx, hb, -⟩ := F
  refine stp1.pure (length_lst1 _ _ _) fun f la sv Hm locs cells slots hh kk => ?_
  obtain ⟨hl, hs, -⟩ := hh
  replace hs := srel_i hs
  obtain ⟨y, sv', rfl, hy, hs⟩ := hs
  obtain ⟨lv, g1, g2⟩ := hl
  have hv : vrel f (H 0 0) (vi x) (.int y) := vrel_i.mpr ⟨y, rfl, hy⟩
  replace hc : ck_4 m pc (4, k, z, tb) o len = some pc' := hc
  unfold ck_4 at hc
  dsimp only at hc
  split at hc
  · obtain ⟨h, rfl⟩ := opg_s hc
    simp only [Bool.and_eq_true, decide_eq_true_eq] at h
    obtain ⟨rfl, h2⟩ := h
    exact lv_istore_n hx hb hd h2 g1 hg rfl fun la' hla => kk _ _ (lrel.st1 g2 hg hv hla) hs
  · obtain ⟨h, rfl⟩ := opg_s hc
    simp only [Bool.and_eq_true, decide_eq_true_eq] at h
    obtain ⟨rfl, rfl⟩ := h
    exact lv_istore hx hb hd g1 hg rfl fun la' hla => kk _ _ (lrel.st1 g2 hg hv hla) hs
  · cases hc
theorem sim_55 {x : Int} (F : frm p s mid args meth c D cy base b L xs m) (hd : decode (bM m) pc = .ok (o, len)) (hc : ck1 m pc (55, k, z, tb) o len = some pc') (hg : k < ls.length) : stp1 p l e R s mid args below meth c Q D cy base b L xs m pc pc' ls ((2, x) :: st) H (lst1 ls k (va x)) st H := by
  obtain ⟨hx, hb, -⟩ := F
  refine stp1.pure (length_lst1 _ _ _) fun f la sv Hm locs cells slots hh kk => ?_
  obtain ⟨hl, hs, -⟩ := hh
  replace hs := srel_cons hs
  obtain ⟨v, sv', rfl, hv, hs⟩ := hs
  obtain ⟨lv, g1, g2⟩ := hl
  replace hc : ck_55 m pc (55, k, z, tb) o len = some pc' := hc
  unfold ck_55 at hc
  dsimp only at hc
  split at hc
  · obtain ⟨h, rfl⟩ := opg_s hc
    simp only [Bool.and_eq_true, decide_eq_true_eq] at h
    obtain ⟨rfl, h2⟩ := h
    rcases vrel_a.mp hv with ⟨h3, rfl⟩ | ⟨h3, rfl⟩
    · exact lv_astore_nN hx hb hd h2 g1 hg rfl fun la' hla => kk _ _ (lrel.st1 g2 hg hv hla) hs
    · exact lv_astore_n hx hb hd h2 g1 hg rfl fun la' hla => kk _ _ (lrel.st1 g2 hg hv hla) hs
  · obtain ⟨h, rfl⟩ := opg_s hc
    simp only [Bool.and_eq_true, decide_eq_true_eq] at h
    obtain ⟨rfl, rfl⟩ := h
    rcases vrel_a.mp hv with ⟨h3, rfl⟩ | ⟨h3, rfl⟩
    · exact lv_astoreN hx hb hd g1 hg rfl fun la' hla => kk _ _ (lrel.st1 g2 hg hv hla) hs
    · exact lv_astore hx hb hd g1 hg rfl fun la' hla => kk _ _ (lrel.st1 g2 hg hv hla) hs
  · cases hc
theorem sim_5 {x : Int} (F : frm p s mid args meth c D cy base b L xs m) (hd : decode (bM m) pc = .ok (o, len)) (hc : ck1 m pc (5, k, z, tb) o len = some pc') (hg : k + 1 < ls.length) : stp1 p l e R s mid args below meth c Q D cy base b L xs m pc pc' ls ((1, x) :: st) H (lst2 ls k (vl x)) st H := by
  obtain ⟨hx, hb, -⟩ := F
  refine stp1.pure (length_lst2 _ _ _ hg) fun f la sv Hm locs cells slots hh kk => ?_
  obtain ⟨hl, hs, -⟩ := hh
  replace hs := srel_l hs
  obtain ⟨y, sv', rfl, hy, hs⟩ := hs
  obtain ⟨lv, g1, g2⟩ := hl
  have hv : vrel f (H 0 0) (vl x) (.long y) := vrel_l.mpr ⟨y, rfl, hy⟩
  replace hc : ck_5 m pc (5, k, z, tb) o len = some pc' := hc
  unfold ck_5 at hc
  dsimp only at hc
  split at hc
  · obtain ⟨h, rfl⟩ := opg_s hc
    simp only [Bool.and_eq_true, decide_eq_true_eq] at h
    obtain ⟨rfl, h2⟩ := h
    exact lv_lstore_n hx hb hd h2 g1 hg rfl fun la' hla => kk _ _ (lrel.st2 g2 hg hv hla) hs
  · obtain ⟨h, rfl⟩ := opg_s hc
    simp only [Bool.and_eq_true, decide_eq_true_eq] at h
    obtain ⟨rfl, rfl⟩ := h
    exact lv_lstore hx hb hd g1 hg rfl fun la' hla => kk _ _ (lrel.st2 g2 hg hv hla) hs
  · cases hc
theorem sim_6 {x : Int} (F : frm p s mid args meth c D cy base b L xs m) (hd : decode (bM m) pc = .ok (o, len)) (hc : ck1 m pc (6, k, z, tb) o len = some pc') (hg : lget ls k = (0, x)) (hk : k < ls.length) : stp1 p l e R s mid args below meth c Q D cy base b L xs m pc pc' ls st H (lst1 ls k (vi (w32 (x + z)))) st H := by
  obtain ⟨hx, hb, -⟩ := F
  refine stp1.pure (length_lst1 _ _ _) fun f la sv Hm locs cells slots hh kk => ?_
  obtain ⟨hl, hs, -⟩ := hh
  obtain ⟨lv, g1, g2⟩ := hl
  obtain ⟨v, q1, q2⟩ := g2 k (by rw [hg]; simp)
  rw [hg] at q2
  obtain ⟨y, rfl, hy⟩ := vrel_i.mp q2
  obtain ⟨n, hn⟩ := List.getElem?_of_mem q1
  replace hc : ck_6 m pc (6, k, z, tb) o len = some pc' := hc
  unfold ck_6 at hc
  dsimp only at hc
  split at hc
  · obtain ⟨h, rfl⟩ := opg_s hc
    simp only [Bool.and_eq_true, decide_eq_true_eq] at h
    obtain ⟨rfl, rfl, h4, h3⟩ := h
    rw [h4] at hd h3
    have hv : vrel f (H 0 0) (vi (w32 (x + z))) (.int (y + Int32.ofInt z)) := vrel_i.mpr ⟨_, rfl, by rw [opi_add, toInt_ofInt32 h3, hy]⟩
    exact lv_iinc hx hb hd g1 hn rfl hk rfl fun la' hla => kk _ _ (lrel.st1 g2 hk hv hla) hs
  · cases hc
theorem sim_7 {x y : Int} (F : frm p s mid args meth c D cy base b L xs m) (hd : decode (bM m) pc = .ok (o, len)) (hc : ck1 m pc (7, k, z, tb) o len = some pc') : stp1 p l e R s mid args below meth c Q D cy base b L xs m pc pc' ls ((0, y) :: (0, x) :: st) H ls (vi (am_bi k x y) :: st) H := by
  obtain ⟨hx, hb, -⟩ := F
  refine stp1.pure rfl fun f la sv Hm locs cells slots hh kk => ?_
  obtain ⟨hl, hs, -⟩ := hh
  replace hs := srel_i hs
  obtain ⟨y', sv', rfl, rfl, hs⟩ := hs
  replace hs := srel_i hs
  obtain ⟨x', sv', rfl, rfl, hs⟩ := hs
  replace hc : ck_7 m pc (7, k, z, tb) o len = some pc' := hc
  unfold ck_7 at hc
  dsimp only at hc
  obtain ⟨h, rfl⟩ := opg_s hc
  simp only [Bool.and_eq_true, decide_eq_true_eq] at h
  obtain ⟨⟨rfl, h2⟩, h3⟩ := h
  match k, h3, h2 with
  | 0, _, h2 => subst h2; exact lv_iadd hx hb hd (kk _ _ hl (hs.i (opi_add _ _)))
  | 1, _, h2 => subst h2; exact lv_isub hx hb hd (kk _ _ hl (hs.i (opi_sub _ _)))
  | 2, _, h2 => subst h2; exact lv_imul hx hb hd (kk _ _ hl (hs.i (opi_mul _ _)))
  | 3, _, h2 => subst h2; exact lv_iand hx hb hd (kk _ _ hl (hs.i (by show _ = b_and _ _; unfold b_and; rw [i32_of, i32_of])))
  | 4, _, h2 => subst h2; exact lv_ior hx hb hd (kk _ _ hl (hs.i (by show _ = b_or _ _; unfold b_or; rw [i32_of, i32_of])))
  | 5, _, h2 => subst h2; exact lv_ixor hx hb hd (kk _ _ hl (hs.i (by show _ = b_xor _ _; unfold b_xor; rw [i32_of, i32_of])))
  | 6, _, h2 => subst h2; exact lv_ishl hx hb hd (kk _ _ hl (hs.i (by show _ = b_shl _ _; unfold b_shl; rw [i32_of, i32_of])))
  | 7, _, h2 => subst h2; exact lv_ishr hx hb hd (kk _ _ hl (hs.i (by show _ = b_shr _ _; unfold b_shr; rw [i32_of, i32_of])))
  | 8, _, h2 => subst h2; exact lv_iushr hx hb hd rfl (kk _ _ hl (hs.i (by show _ = b_ushr _ _; unfold b_ushr; rw [i32_of, i32_of])))
  | k + 9, h3, _ => omega
theorem sim_8 {x y : Int} (F : frm p s mid args meth c D cy base b L xs m) (hd : decode (bM m) pc = .ok (o, len)) (hc : ck1 m pc (8, k, z, tb) o len = some pc') : stp1 p l e R s mid args below meth c Q D cy base b L xs m pc pc' ls ((1, y) :: (1, x) :: st) H ls (vl (am_bl k x y) :: st) H := by
  obtain ⟨hx, hb, -⟩ := F
  refine stp1.pure rfl fun f la sv Hm locs cells slots hh kk => ?_
  obtain ⟨hl, hs, -⟩ := hh
  replace hs := srel_l hs
  obtain ⟨y', sv', rfl, rfl, hs⟩ := hs
  replace hs := srel_l hs
  obtain ⟨x', sv', rfl, rfl, hs⟩ := hs
  replace hc : ck_8 m pc (8, k, z, tb) o len = some pc' := hc
  unfold ck_8 at hc
  dsimp only at hc
  obtain ⟨h, rfl⟩ := opg_s hc
  simp only [Bool.and_eq_true, decide_eq_true_eq] at h
  obtain ⟨⟨rfl, h2⟩, h3⟩ := h
  match k, h3, h2 with
  | 0, _, h2 => subst h2; exact lv_ladd hx hb hd (kk _ _ hl (hs.j (opl_add _ _)))
  | 1, _, h2 => subst h2; exact lv_lsub hx hb hd (kk _ _ hl (hs.j (opl_sub _ _)))
  | 2, _, h2 => subst h2; exact lv_lmul hx hb hd (kk _ _ hl (hs.j (opl_mul _ _)))
  | 3, _, h2 => subst h2; exact lv_land hx hb hd (kk _ _ hl (hs.j (by show _ = l_and _ _; unfold l_and; rw [i64_of, i64_of])))
  | 4, _, h2 => subst h2; exact lv_lor hx hb hd (kk _ _ hl (hs.j (by show _ = l_or _ _; unfold l_or; rw [i64_of, i64_of])))
  | 5, _, h2 => subst h2; exact lv_lxor hx hb hd (kk _ _ hl (hs.j (by show _ = l_xor _ _; unfold l_xor; rw [i64_of, i64_of])))
  | k + 6, h3, _ => omega
theorem sim_9 {x y : Int} (F : frm p s mid args meth c D cy base b L xs m) (hd : decode (bM m) pc = .ok (o, len)) (hc : ck1 m pc (9, k, z, tb) o len = some pc') : stp1 p l e R s mid args below meth c Q D cy base b L xs m pc pc' ls ((0, y) :: (1, x) :: st) H ls (vl (if k = 0 then l_shl x y else l_shr x y) :: st) H := by
  obtain ⟨hx, hb, -⟩ := F
  refine stp1.pure rfl fun f la sv Hm locs cells slots hh kk => ?_
  obtain ⟨hl, hs, -⟩ := hh
  replace hs := srel_i hs
  obtain ⟨y', sv', rfl, rfl, hs⟩ := hs
  replace hs := srel_l hs
  obtain ⟨x', sv', rfl, rfl, hs⟩ := hs
  replace hc : ck_9 m pc (9, k, z, tb) o len = some pc' := hc
  unfold ck_9 at hc
  dsimp only at hc
  obtain ⟨h, rfl⟩ := opg_s hc
  simp only [Bool.and_eq_true, decide_eq_true_eq] at h
  obtain ⟨⟨rfl, h2⟩, h3⟩ := h
  match k, h3, h2 with
  | 0, _, h2 => subst h2; exact lv_lshl hx hb hd rfl (kk _ _ hl (hs.j (by show _ = l_shl _ _; unfold l_shl; rw [i64_of, i32_of])))
  | 1, _, h2 => subst h2; exact lv_lshr hx hb hd rfl (kk _ _ hl (hs.j (by show _ = l_shr _ _; unfold l_shr; rw [i64_of, i32_of])))
  | k + 2, h3, _ => omega
theorem sim_10 {x y : Int} (F : frm p s mid args meth c D cy base b L xs m) (hd : decode (bM m) pc = .ok (o, len)) (hc : ck1 m pc (10, k, z, tb) o len = some pc') (hy : y ≠ 0) : stp1 p l e R s mid args below meth c Q D cy base b L xs m pc pc' ls ((0, y) :: (0, x) :: st) H ls (vi (am_bi k x y) :: st) H := by
  obtain ⟨hx, hb, -⟩ := F
  refine stp1.pure rfl fun f la sv Hm locs cells slots hh kk => ?_
  obtain ⟨hl, hs, -⟩ := hh
  replace hs := srel_i hs
  obtain ⟨y', sv', rfl, rfl, hs⟩ := hs
  replace hs := srel_i hs
  obtain ⟨x', sv', rfl, rfl, hs⟩ := hs
  have hn : ¬ y' = 0 := fun q => hy (by rw [q]; rfl)
  replace hc : ck_10 m pc (10, k, z, tb) o len = some pc' := hc
  unfold ck_10 at hc
  dsimp only at hc
  obtain ⟨h, rfl⟩ := opg_s hc
  simp only [Bool.and_eq_true, decide_eq_true_eq] at h
  obtain ⟨rfl, ⟨rfl, rfl⟩ | ⟨rfl, rfl⟩⟩ := h
  · exact lv_idiv hx hb hd hn (kk _ _ hl (hs.i (opi_div _ _)))
  · exact lv_irem hx hb hd hn (kk _ _ hl (hs.i (opi_rem _ _)))
theorem sim_11 {x y : Int} (F : frm p s mid args meth c D cy base b L xs m) (hd : decode (bM m) pc = .ok (o, len)) (hc : ck1 m pc (11, k, z, tb) o len = some pc') (hy : y ≠ 0) : stp1 p l e R s mid args below meth c Q D cy base b L xs m pc pc' ls ((1, y) :: (1, x) :: st) H ls (vl (am_bl k x y) :: st) H := by
  obtain ⟨hx, hb, -⟩ := F
  refine stp1.pure rfl fun f la sv Hm locs cells slots hh kk => ?_
  obtain ⟨hl, hs, -⟩ := hh
  replace hs := srel_l hs
  obtain ⟨y', sv', rfl, rfl, hs⟩ := hs
  replace hs := srel_l hs
  obtain ⟨x', sv', rfl, rfl, hs⟩ := hs
  have hn : ¬ y' = 0 := fun q => hy (by rw [q]; rfl)
  replace hc : ck_11 m pc (11, k, z, tb) o len = some pc' := hc
  unfold ck_11 at hc
  dsimp only at hc
  obtain ⟨h, rfl⟩ := opg_s hc
  simp only [Bool.and_eq_true, decide_eq_true_eq] at h
  obtain ⟨rfl, ⟨rfl, rfl⟩ | ⟨rfl, rfl⟩⟩ := h
  · exact lv_ldiv hx hb hd hn (kk _ _ hl (hs.j (opl_div _ _)))
  · exact lv_lrem hx hb hd hn (kk _ _ hl (hs.j (opl_rem _ _)))
theorem ch_w16 (y : Int32) : ((y.toUInt32 % 65536).toInt32).toInt = w16u y.toInt := by
  have e := pk_char y
  rw [e]
  have h1 : y.toBitVec.toNat % 65536 < 2 ^ 31 := by omega
  rw [nI_toInt h1]
  show ((y.toBitVec.toNat % 65536 : Nat) : Int) = y.toInt % 65536
  have h2 : y.toInt = y.toBitVec.toInt := rfl
  rw [h2, BitVec.toInt_eq_toNat_bmod, Int.bmod_def]
  have := y.toBitVec.isLt
  split <;> omega
theorem sim_60 {x : Int} (F : frm p s mid args meth c D cy base b L xs m) (hd : decode (bM m) pc = .ok (o, len)) (hc : ck1 m pc (60, k, z, tb) o len = some pc') : stp1 p l e R s mid args below meth c Q D cy base b L xs m pc pc' ls ((0, x) :: st) H ls (vi (w32 (-x)) :: st) H := by
  obtain ⟨hx, hb, -⟩ := F
  refine stp1.pure rfl fun f la sv Hm locs cells slots hh kk => ?_
  obtain ⟨hl, hs, -⟩ := hh
  replace hc : ck_60 m pc (60, k, z, tb) o len = some pc' := hc
  unfold ck_60 at hc
  obtain ⟨h, rfl⟩ := opg_s hc
  simp only [Bool.and_eq_true, decide_eq_true_eq] at h
  obtain ⟨rfl, rfl⟩ := h
  replace hs := srel_i hs
  obtain ⟨y, sv', rfl, rfl, hs⟩ := hs
  exact lv_ineg hx hb hd (kk _ _ hl (hs.i (opi_neg _)))
theorem sim_61 {x : Int} (F : frm p s mid args meth c D cy base b L xs m) (hd : decode (bM m) pc = .ok (o, len)) (hc : ck1 m pc (61, k, z, tb) o len = some pc') : stp1 p l e R s mid args below meth c Q D cy base b L xs m pc pc' ls ((1, x) :: st) H ls (vl (w64 (-x)) :: st) H := by
  obtain ⟨hx, hb, -⟩ := F
  refine stp1.pure rfl fun f la sv Hm locs cells slots hh kk => ?_
  obtain ⟨hl, hs, -⟩ := hh
  replace hc : ck_61 m pc (61, k, z, tb) o len = some pc' := hc
  unfold ck_61 at hc
  obtain ⟨h, rfl⟩ := opg_s hc
  simp only [Bool.and_eq_true, decide_eq_true_eq] at h
  obtain ⟨rfl, rfl⟩ := h
  replace hs := srel_l hs
  obtain ⟨y, sv', rfl, rfl, hs⟩ := hs
  exact lv_lneg hx hb hd (kk _ _ hl (hs.j (opl_neg _)))
theorem sim_62 {x : Int} (F : frm p s mid args meth c D cy base b L xs m) (hd : decode (bM m) pc = .ok (o, len)) (hc : ck1 m pc (62, k, z, tb) o len = some pc') : stp1 p l e R s mid args below meth c Q D cy base b L xs m pc pc' ls ((0, x) :: st) H ls (vl x :: st) H := by
  obtain ⟨hx, hb, -⟩ := F
  refine stp1.pure rfl fun f la sv Hm locs cells slots hh kk => ?_
  obtain ⟨hl, hs, -⟩ := hh
  replace hc : ck_62 m pc (62, k, z, tb) o len = some pc' := hc
  unfold ck_62 at hc
  obtain ⟨h, rfl⟩ := opg_s hc
  simp only [Bool.and_eq_true, decide_eq_true_eq] at h
  obtain ⟨rfl, rfl⟩ := h
  replace hs := srel_i hs
  obtain ⟨y, sv', rfl, rfl, hs⟩ := hs
  exact lv_i2l hx hb hd rfl (kk _ _ hl (hs.j (cv_i2l _)))
theorem sim_63 {x : Int} (F : frm p s mid args meth c D cy base b L xs m) (hd : decode (bM m) pc = .ok (o, len)) (hc : ck1 m pc (63, k, z, tb) o len = some pc') : stp1 p l e R s mid args below meth c Q D cy base b L xs m pc pc' ls ((1, x) :: st) H ls (vi (w32 x) :: st) H := by
  obtain ⟨hx, hb, -⟩ := F
  refine stp1.pure rfl fun f la sv Hm locs cells slots hh kk => ?_
  obtain ⟨hl, hs, -⟩ := hh
  replace hc : ck_63 m pc (63, k, z, tb) o len = some pc' := hc
  unfold ck_63 at hc
  obtain ⟨h, rfl⟩ := opg_s hc
  simp only [Bool.and_eq_true, decide_eq_true_eq] at h
  obtain ⟨rfl, rfl⟩ := h
  replace hs := srel_l hs
  obtain ⟨y, sv', rfl, rfl, hs⟩ := hs
  exact lv_l2i hx hb hd rfl (kk _ _ hl (hs.i (cv_l2i _)))
theorem sim_64 {x : Int} (F : frm p s mid args meth c D cy base b L xs m) (hd : decode (bM m) pc = .ok (o, len)) (hc : ck1 m pc (64, k, z, tb) o len = some pc') : stp1 p l e R s mid args below meth c Q D cy base b L xs m pc pc' ls ((0, x) :: st) H ls (vi (w8 x) :: st) H := by
  obtain ⟨hx, hb, -⟩ := F
  refine stp1.pure rfl fun f la sv Hm locs cells slots hh kk => ?_
  obtain ⟨hl, hs, -⟩ := hh
  replace hc : ck_64 m pc (64, k, z, tb) o len = some pc' := hc
  unfold ck_64 at hc
  obtain ⟨h, rfl⟩ := opg_s hc
  simp only [Bool.and_eq_true, decide_eq_true_eq] at h
  obtain ⟨rfl, rfl⟩ := h
  replace hs := srel_i hs
  obtain ⟨y, sv', rfl, rfl, hs⟩ := hs
  exact lv_i2b hx hb hd rfl (kk _ _ hl (hs.i (cv_i2b _)))
theorem sim_65 {x : Int} (F : frm p s mid args meth c D cy base b L xs m) (hd : decode (bM m) pc = .ok (o, len)) (hc : ck1 m pc (65, k, z, tb) o len = some pc') : stp1 p l e R s mid args below meth c Q D cy base b L xs m pc pc' ls ((0, x) :: st) H ls (vi (w16u x) :: st) H := by
  obtain ⟨hx, hb, -⟩ := F
  refine stp1.pure rfl fun f la sv Hm locs cells slots hh kk => ?_
  obtain ⟨hl, hs, -⟩ := hh
  replace hc : ck_65 m pc (65, k, z, tb) o len = some pc' := hc
  unfold ck_65 at hc
  obtain ⟨h, rfl⟩ := opg_s hc
  simp only [Bool.and_eq_true, decide_eq_true_eq] at h
  obtain ⟨rfl, rfl⟩ := h
  replace hs := srel_i hs
  obtain ⟨y, sv', rfl, rfl, hs⟩ := hs
  exact lv_i2c hx hb hd rfl (kk _ _ hl (hs.i (ch_w16 _)))
theorem sim_13 {x y : Int} (F : frm p s mid args meth c D cy base b L xs m) (hd : decode (bM m) pc = .ok (o, len)) (hc : ck1 m pc (13, k, z, tb) o len = some pc') : stp1 p l e R s mid args below meth c Q D cy base b L xs m pc pc' ls ((1, y) :: (1, x) :: st) H ls (vi (cmp3 x y) :: st) H := by
  obtain ⟨hx, hb, -⟩ := F
  refine stp1.pure rfl fun f la sv Hm locs cells slots hh kk => ?_
  obtain ⟨hl, hs, -⟩ := hh
  replace hs := srel_l hs
  obtain ⟨y', sv', rfl, rfl, hs⟩ := hs
  replace hs := srel_l hs
  obtain ⟨x', sv', rfl, rfl, hs⟩ := hs
  replace hc : ck_13 m pc (13, k, z, tb) o len = some pc' := hc
  unfold ck_13 at hc
  obtain ⟨h, rfl⟩ := opg_s hc
  simp only [Bool.and_eq_true, decide_eq_true_eq] at h
  obtain ⟨rfl, rfl⟩ := h
  exact W.lcmp hx hb hd (kk _ _ hl (hs.i (lg_cmp_3 _ _)))
theorem sim_34 {x : Int} (F : frm p s mid args meth c D cy base b L xs m) (hd : decode (bM m) pc = .ok (o, len)) (hc : ck1 m pc (34, k, z, tb) o len = some pc') : stp1 p l e R s mid args below meth c Q D cy base b L xs m pc pc' ls ((0, x) :: st) H ls (vi x :: vi x :: st) H := by
  obtain ⟨hx, hb, -⟩ := F
  refine stp1.pure rfl fun f la sv Hm locs cells slots hh kk => ?_
  obtain ⟨hl, hs, -⟩ := hh
  replace hc : ck_34 m pc (34, k, z, tb) o len = some pc' := hc
  unfold ck_34 at hc
  obtain ⟨h, rfl⟩ := opg_s hc
  simp only [Bool.and_eq_true, decide_eq_true_eq] at h
  obtain ⟨rfl, rfl⟩ := h
  replace hs := srel_i hs
  obtain ⟨y, sv', rfl, rfl, hs⟩ := hs
  exact lv_dup hx hb hd rfl (kk _ _ hl ((hs.i rfl).i rfl))
theorem sim_34a {x : Int} (F : frm p s mid args meth c D cy base b L xs m) (hd : decode (bM m) pc = .ok (o, len)) (hc : ck1 m pc (34, k, z, tb) o len = some pc') : stp1 p l e R s mid args below meth c Q D cy base b L xs m pc pc' ls ((2, x) :: st) H ls (va x :: va x :: st) H := by
  obtain ⟨hx, hb, -⟩ := F
  refine stp1.pure rfl fun f la sv Hm locs cells slots hh kk => ?_
  obtain ⟨hl, hs, -⟩ := hh
  replace hc : ck_34 m pc (34, k, z, tb) o len = some pc' := hc
  unfold ck_34 at hc
  obtain ⟨h, rfl⟩ := opg_s hc
  simp only [Bool.and_eq_true, decide_eq_true_eq] at h
  obtain ⟨rfl, rfl⟩ := h
  replace hs := srel_cons hs
  obtain ⟨v, sv', rfl, hv, hs⟩ := hs
  exact lv_dup hx hb hd (hv.cat.2 (by simp)) (kk _ _ hl ((hs.a hv).a hv))
theorem sim_66 {x y : Int} (F : frm p s mid args meth c D cy base b L xs m) (hd : decode (bM m) pc = .ok (o, len)) (hc : ck1 m pc (66, k, z, tb) o len = some pc') : stp1 p l e R s mid args below meth c Q D cy base b L xs m pc pc' ls ((0, x) :: (2, y) :: st) H ls (vi x :: va y :: vi x :: va y :: st) H := by
  obtain ⟨hx, hb, -⟩ := F
  refine stp1.pure rfl fun f la sv Hm locs cells slots hh kk => ?_
  obtain ⟨hl, hs, -⟩ := hh
  replace hc : ck_66 m pc (66, k, z, tb) o len = some pc' := hc
  unfold ck_66 at hc
  obtain ⟨h, rfl⟩ := opg_s hc
  simp only [Bool.and_eq_true, decide_eq_true_eq] at h
  obtain ⟨rfl, rfl⟩ := h
  replace hs := srel_i hs
  obtain ⟨y', sv', rfl, rfl, hs⟩ := hs
  replace hs := srel_cons hs
  obtain ⟨v, sv', rfl, hv, hs⟩ := hs
  exact lv_dup2_11 hx hb hd rfl (hv.cat.2 (by simp)) (kk _ _ hl ((((hs.a hv).i rfl).a hv).i rfl))
theorem sim_66l {x : Int} (F : frm p s mid args meth c D cy base b L xs m) (hd : decode (bM m) pc = .ok (o, len)) (hc : ck1 m pc (66, k, z, tb) o len = some pc') : stp1 p l e R s mid args below meth c Q D cy base b L xs m pc pc' ls ((1, x) :: st) H ls (vl x :: vl x :: st) H := by
  obtain ⟨hx, hb, -⟩ := F
  refine stp1.pure rfl fun f la sv Hm locs cells slots hh kk => ?_
  obtain ⟨hl, hs, -⟩ := hh
  replace hc : ck_66 m pc (66, k, z, tb) o len = some pc' := hc
  unfold ck_66 at hc
  obtain ⟨h, rfl⟩ := opg_s hc
  simp only [Bool.and_eq_true, decide_eq_true_eq] at h
  obtain ⟨rfl, rfl⟩ := h
  replace hs := srel_l hs
  obtain ⟨y, sv', rfl, rfl, hs⟩ := hs
  exact lv_dup2_2 hx hb hd rfl (kk _ _ hl ((hs.j rfl).j rfl))
theorem sim_67 {x : Int} (F : frm p s mid args meth c D cy base b L xs m) (hd : decode (bM m) pc = .ok (o, len)) (hc : ck1 m pc (67, k, z, tb) o len = some pc') : stp1 p l e R s mid args below meth c Q D cy base b L xs m pc pc' ls ((0, x) :: st) H ls (st) H := by
  obtain ⟨hx, hb, -⟩ := F
  refine stp1.pure rfl fun f la sv Hm locs cells slots hh kk => ?_
  obtain ⟨hl, hs, -⟩ := hh
  replace hc : ck_67 m pc (67, k, z, tb) o len = some pc' := hc
  unfold ck_67 at hc
  obtain ⟨h, rfl⟩ := opg_s hc
  simp only [Bool.and_eq_true, decide_eq_true_eq] at h
  obtain ⟨rfl, rfl⟩ := h
  replace hs := srel_i hs
  obtain ⟨y, sv', rfl, rfl, hs⟩ := hs
  exact lv_pop hx hb hd rfl (kk _ _ hl hs)
end ONE
end SIM
