/-! THE SIMULATION, last part (3): the whole run -/
theorem length_lcs : ∀ (k : Nat) (av : List AV), (lcs k av).length = k
  | 0, _ => rfl
  | k + 1, [] => by show (lcs k []).length + 1 = k + 1; rw [length_lcs k []]
  | 1, _ :: _ => rfl
  | k + 2, a :: l => by
    show (if a.1 = 1 then a :: vu :: lcs k l else a :: lcs (k + 1) l).length = k + 2
    split
    · show (lcs k l).length + 2 = _; rw [length_lcs k l]
    · show (lcs (k + 1) l).length + 1 = _; rw [length_lcs (k + 1) l]
theorem lcs_nil : ∀ (k j : Nat), lget (lcs k []) j = vu
  | 0, j => lget_nil j
  | k + 1, 0 => rfl
  | k + 1, j + 1 => lcs_nil k j
theorem lcs_rel {f : Int → Nat} {n : Int} : ∀ (k : Nat) (av : List AV) (vals : List Value) (i : Nat), srel f n av vals → ∀ j, (lget (lcs k av) j).1 ≠ 3 → ∃ v, (i + j, v) ∈ lv_args i vals ∧ vrel f n (lget (lcs k av) j) v
  | 0, av, vals, i, _, j, h => by
    have : lcs 0 av = [] := by cases av <;> rfl
    rw [this, lget_nil] at h
    exact absurd rfl h
  | k + 1, [], vals, i, _, j, h => by rw [lcs_nil] at h; exact absurd rfl h
  | 1, a :: l, vals, i, hs, j, h => by
    obtain ⟨v, sv, rfl, h1, h2⟩ := srel_cons hs
    cases j with
    | zero => exact ⟨v, List.mem_cons_self, h1⟩
    | succ j =>
      have : lget (lcs 1 (a :: l)) (j + 1) = vu := lget_nil j
      rw [this] at h
      exact absurd rfl h
  | k + 2, a :: l, vals, i, hs, j, h => by
    obtain ⟨v, sv, rfl, h1, h2⟩ := srel_cons hs
    by_cases ha : a.1 = 1
    · have e : lcs (k + 2) (a :: l) = a :: vu :: lcs k l := if_pos ha
      rw [e] at h ⊢
      have ea : lv_args i (v :: sv) = (i, v) :: lv_args (i + 2) sv := by
        show (i, v) :: lv_args (if v.category = 2 then i + 2 else i + 1) sv = _
        rw [if_pos (h1.cat.1 ha)]
      rw [ea]
      match j, h with
      | 0, _ => exact ⟨v, List.mem_cons_self, h1⟩
      | 1, h => exact absurd rfl h
      | j + 2, h =>
        obtain ⟨w, q1, q2⟩ := lcs_rel k l sv (i + 2) h2 j h
        exact ⟨w, List.mem_cons_of_mem _ (by rw [show i + (j + 2) = i + 2 + j by omega]; exact q1), q2⟩
    · have e : lcs (k + 2) (a :: l) = a :: lcs (k + 1) l := if_neg ha
      rw [e] at h ⊢
      have ea : lv_args i (v :: sv) = (i, v) :: lv_args (i + 1) sv := by
        show (i, v) :: lv_args (if v.category = 2 then i + 2 else i + 1) sv = _
        rw [if_neg (by have := h1.cat.2 ha; omega)]
      rw [ea]
      match j, h with
      | 0, _ => exact ⟨v, List.mem_cons_self, h1⟩
      | j + 1, h =>
        obtain ⟨w, q1, q2⟩ := lcs_rel (k + 1) l sv (i + 1) h2 j h
        exact ⟨w, List.mem_cons_of_mem _ (by rw [show i + (j + 1) = i + 1 + j by omega]; exact q1), q2⟩
theorem sl_wds {f : Int → Nat} {n : Int} : ∀ {av : List AV} {vals : List Value}, srel f n av vals → (lg_sl vals).length = wds av
  | [], [], _ => rfl
  | a :: av, v :: vals, h => by
    have ih := sl_wds h.2
    have e : lg_sl (v :: vals) = (if v.category = 2 then [Slot.val v, .second] else [.val v]) ++ lg_sl vals := rfl
    have ew : wds (a :: av) = wds av + (if a.1 = 1 then 2 else 1) := rfl
    rw [e, List.length_append, ih, ew]
    have hc := h.1.cat
    by_cases ha : a.1 = 1
    · rw [if_pos (hc.1 ha), if_pos ha]; show 2 + _ = _; omega
    · rw [if_neg (by have := hc.2 ha; omega), if_neg ha]; show 1 + _ = _; omega
  | [], _ :: _, h => h.elim
  | _ :: _, [], h => h.elim
theorem srel_len {f : Int → Nat} {n : Int} : ∀ {av : List AV} {vals : List Value}, srel f n av vals → vals.length = av.length
  | [], [], _ => rfl
  | _ :: _, _ :: _, h => by simp [srel_len h.2]
  | [], _ :: _, h => h.elim
  | _ :: _, [], h => h.elim
theorem tkr_rel {f : Int → Nat} {n : Int} : ∀ (k : Nat) (st : List AV) (sv : List Value) (acc : List AV) (vacc : List Value), srel f n st sv → k ≤ st.length → srel f n acc vacc → ∃ top rest, sv = top ++ rest ∧ top.length = k ∧ srel f n (tkr k st acc) (top.reverse ++ vacc) ∧ srel f n (dpr k st) rest
  | 0, st, sv, acc, vacc, h, _, ha => ⟨[], sv, rfl, rfl, by rw [tkr_0]; exact ha, by rw [dpr_0]; exact h⟩
  | k + 1, [], sv, acc, vacc, h, hk, ha => by simp at hk
  | k + 1, a :: st, sv, acc, vacc, h, hk, ha => by
    obtain ⟨v, sv', rfl, h1, h2⟩ := srel_cons h
    obtain ⟨top, rest, rfl, q2, q3, q4⟩ := tkr_rel k st sv' (a :: acc) (v :: vacc) h2 (by simpa using hk) ⟨h1, ha⟩
    exact ⟨v :: top, rest, rfl, by simp [q2], by rw [tkr_s]; simpa using q3, q4⟩
theorem szs_mono {a b : Nat} (h : a ≤ b) : szs a ≤ szs b := by
  induction h with
  | refl => exact Nat.le_refl _
  | step _ ih => exact Nat.le_trans ih (Nat.le_add_right _ _)
theorem lpc_0 {m : Nat} (h : m < 374) : lpc m 0 = 0 := by
  have h1 : (List.range 374).all (fun m => decide (lpc m 0 = 0)) = true := by decide +kernel
  exact of_decide_eq_true (List.all_eq_true.mp h1 m (List.mem_range.mpr h))
section S16
variable {l : Launch} {D : va_G} {cy : Nat → ClassId} {b : Nat → Nat} {base L : Nat} {xs : Nat → Int32}
def rmd (d mc ms : Nat) : Room := { frames := d + 10, cells := mc, slots := ms, locals := 40 * d + 400 }
def wM (m : Nat) : List Cond := .code (yM m) (bM m) (mxl m) (rM m) :: lw_g
def mta (L : Nat) (xs : Nat → Int32) (H : Hp) : Prop := H 0 1 = L ∧ (∀ j : Nat, j < L → H 999 j = (xs j).toInt) ∧ L < 100000
def fok (b : Nat → Nat) (f : Int → Nat) : Prop := f 999 = b 0 ∧ f 901 = b 1 ∧ f 902 = b 2
def mPc (D : va_G) (cy : Nat → ClassId) (b : Nat → Nat) (base L : Nat) (xs : Nat → Int32) (f : Int → Nat) (H : Hp) (vals : List Value) : Array Value → State → Prop := va_Pc vals (fun U => wrl D cy base f H U.heap ∧ va_K D vwCl (tys4 cy) U ∧ va_X (b 0) L xs U U.heap ∧ b 0 < base ∧ base ≤ U.heap.size ∧ stf b base U U.heap)
def rrel (f : Int → Nat) (n : Int) (m : Nat) (r : AV) (v : Option Value) : Prop := (rM m = none ∧ v = none) ∨ (rM m ≠ none ∧ ∃ v', v = some v' ∧ vrel f n r v')
def mQc (D : va_G) (cy : Nat → ClassId) (b : Nat → Nat) (base L : Nat) (xs : Nat → Int32) (f : Int → Nat) (H : Hp) (m : Nat) (r : AV) (H' : Hp) : Array Value → State → Outcome → State → Prop := fun _ st o t => ∃ (v : Option Value) (f' : Int → Nat), o = .returned v ∧ (∀ k, okr (H 0 0) k → f' k = f k) ∧ rrel f' (H' 0 0) m r v ∧ wrl D cy base f' H' t.heap ∧ mta L xs H' ∧ va_F (aq base) st t
def metAM (l : Launch) (D : va_G) (cy : Nat → ClassId) (b : Nat → Nat) (base L : Nat) (xs : Nat → Int32) (n : Nat) : Prop := ∀ (d m : Nat) (av : List AV) (H : Hp) (r : AV) (H' : Hp) (f : Int → Nat) (vals : List Value), ex n d m (blk m 0) (lcs (mxl m) av) [] H = some (r, H') → m < 373 → wds av ≤ mxl m → srel f (H 0 0) av vals → mta L xs H → fok b f →
  Met l (yM m) (wM m) (rmd d ((H' 0 0).toNat - (H 0 0).toNat) (szs (H' 0 0).toNat - szs (H 0 0).toNat)) (mPc D cy b base L xs f H vals) (mQc D cy b base L xs f H m r H') ((H' 0 0).toNat - (H 0 0).toNat) (szs (H' 0 0).toNat - szs (H 0 0).toNat) (aq base)
def retc (m pc : Nat) (r : AV) (sv : List Value) : Prop :=
  (decode (bM m) pc = .ok (.return_, 1) ∧ rM m = none ∧ sv = []) ∨ (decode (bM m) pc = .ok (.ireturn, 1) ∧ ∃ x : Int32, sv = [.int x] ∧ r = (0, x.toInt) ∧ (rM m = some .int ∨ (rM m = some .boolean ∧ (x = 0 ∨ x = 1)))) ∨ (decode (bM m) pc = .ok (.lreturn, 1) ∧ rM m = some .long ∧ ∃ x : Int64, sv = [.long x] ∧ r = (1, x.toInt))
def frmAM (l : Launch) (D : va_G) (cy : Nat → ClassId) (b : Nat → Nat) (base L : Nat) (xs : Nat → Int32) (n : Nat) : Prop := ∀ (p : Program) (e : Env) (R : Room) (s : State) (mid : MethodId) (args : Array Value) (below : List Frame) (meth : Method) (c : Code) (Q : State → Prop) (d m pc : Nat) (is : List AI) (ls st : List AV) (H : Hp) (r : AV) (H' : Hp), ex n d m is ls st H = some (r, H') → m < 374 → chk m pc is = true → frm p s mid args meth c D cy base b L xs m → d + 10 ≤ R.frames → 40 * d + 400 ≤ R.locals →
  ∀ (f : Int → Nat) (la : Array Slot) (sv : List Value) (Hm : Heap) (locs : List Loc) (cells slots : Nat), held s D cy base b L xs m f ls st H la sv Hm locs → cells + ((H' 0 0).toNat - (H 0 0).toNat) ≤ R.cells → slots + (szs (H' 0 0).toNat - szs (H 0 0).toNat) ≤ R.slots →
  (∀ (f' : Int → Nat) (la' : Array Slot) (sv' : List Value) (Hm' : Heap) (locs' : List Loc) (pc' : Nat), (∀ k, okr (H 0 0) k → f' k = f k) → wrl D cy base f' H' Hm' → va_S (aq base) s.heap Hm' locs' → mta L xs H' → retc m pc' r sv' → W p l e R s mid args below meth c Hm' locs' (cells + ((H' 0 0).toNat - (H 0 0).toNat)) (slots + (szs (H' 0 0).toNat - szs (H 0 0).toNat)) Q (F0 mid pc' la' sv')) →
  W p l e R s mid args below meth c Hm locs cells slots Q (F0 mid pc la sv)
theorem met_of {n : Nat} (h : frmAM l D cy b base L xs n) : metAM l D cy b base L xs n := by
  intro d m av H r H' f vals hex hm hwd hs hmt hfk
  have hF := mfB_ok m (MA_lt hm)
  unfold mfB at hF
  simp only [Bool.and_eq_true, decide_eq_true_eq] at hF
  obtain ⟨⟨-, -, hpl, hcls, -⟩, -⟩ := hF
  refine va_MetF (cc := bM m) (maxL := mxl m) (ret := rM m) hpl rfl ?_
  intro p e s mid args below meth c s₁ B hml hv
  obtain ⟨rfl, hw, hK, hX, hbb, hbs, hst⟩ := hv
  have hts0 := atoms_spec (ws := wM m) B.pre
  have hlocks := B.notSynchronized
  have F : frm p s mid vals.toArray meth c D cy base b L xs m := ⟨B.exec, B.bytes, hml, by rw [← hcls]; exact findClass_of_methodNamed B.named, fun h => (name_of_methodNamed B.named B.method).1.trans h, fun w h => hts0 w (List.mem_cons_of_mem _ h), hK, hX, hbb, hbs, hst⟩
  rw [lg_entry_eq]
  have hl := lv_entry vals (n := mxl m) (by rw [sl_wds hs]; exact hwd)
  refine h p e _ s mid vals.toArray below meth c _ d m 0 (blk m 0) (lcs (mxl m) av) [] H r H' hex (by omega) (by have := chk_all (m := m) (by omega) 0; rw [lpc_0 (by omega)] at this; exact this) F (Nat.le_refl _) (Nat.le_refl _) f _ [] s.heap [] 0 0 ⟨⟨lv_args 0 vals, by rw [length_lcs]; exact hl, fun j hj => by simpa using lcs_rel (mxl m) av vals 0 hs j hj⟩, trivial, hw, va_S.rf, length_lcs _ _, hfk, hmt⟩ (by rw [Nat.zero_add]; exact Nat.le_refl _) (by rw [Nat.zero_add]; exact Nat.le_refl _) ?_
  intro f' la' sv' Hm' locs' pc' hag hw' hS' hmt' hrc
  rw [Nat.zero_add, Nat.zero_add]
  rcases hrc with ⟨hd, hr0, rfl⟩ | ⟨hd, x, rfl, hr1, hr0 | ⟨hr0, hx⟩⟩ | ⟨hd, hr0, x, rfl, hr1⟩
  · exact W.vret B.exec B.bytes (B.returns.trans hr0) (fun t ht _ => ⟨none, f', rfl, hag, Or.inl ⟨hr0, rfl⟩, by rw [ht]; exact hw', hmt', hS'.F ht⟩) hS'.2.2 hd
  · exact W.iret B.exec B.bytes (B.returns.trans hr0) (fun t ht _ => ⟨_, f', rfl, hag, Or.inr ⟨by rw [hr0]; simp, _, rfl, by rw [hr1]; exact vrel_i.mpr ⟨x, rfl, rfl⟩⟩, by rw [ht]; exact hw', hmt', hS'.F ht⟩) hS'.2.2 hd
  · exact W.zret B.exec B.bytes (B.returns.trans hr0) (by rcases hx with rfl | rfl <;> decide +kernel) (fun t ht _ => ⟨_, f', rfl, hag, Or.inr ⟨by rw [hr0]; simp, _, rfl, by rw [hr1]; exact vrel_i.mpr ⟨x, rfl, rfl⟩⟩, by rw [ht]; exact hw', hmt', hS'.F ht⟩) hS'.2.2 hd
  · exact W.lret B.exec B.bytes (B.returns.trans hr0) (fun t ht _ => ⟨_, f', rfl, hag, Or.inr ⟨by rw [hr0]; simp, _, rfl, by rw [hr1]; exact vrel_l.mpr ⟨x, rfl, rfl⟩⟩, by rw [ht]; exact hw', hmt', hS'.F ht⟩) hS'.2.2 hd
theorem mPc_blind {f : Int → Nat} {H : Hp} {vals : List Value} : FrameBlind (mPc D cy b base L xs f H vals) := fun a U g mk h => by
  obtain ⟨h0, h1, h2, h3, h4, h5, h6⟩ := h
  exact ⟨h0, h1, va_K.moved (u := U) (U := U.calling g mk a) (Vm.Alike.refl U.vm) h2, va_X.moved (u := U) (U := U.calling g mk a) (Vm.Alike.refl U.vm) h3, h4, h5, h6.same rfl⟩
/-- what a callee may lean on, out of what its caller stands on -/
theorem mPc_at {p : Program} {s U : State} {mid : MethodId} {args : Array Value} {meth : Method} {c : Code} {m : Nat} {f : Int → Nat} {H : Hp} {vals : List Value} {Hm : Heap} {locs : List Loc} (F : frm p s mid args meth c D cy base b L xs m) (hw : wrl D cy base f H Hm) (hS : va_S (aq base) s.heap Hm locs) (hU : U.heap = Hm) (hW : s.WarmedH U.vm) : mPc D cy b base L xs f H vals vals.toArray U := by
  obtain ⟨-, -, -, -, -, -, hK, hX, hbb, hbs, hst⟩ := F
  refine ⟨rfl, by rw [hU]; exact hw, hK.moved hW.alike, ?_, hbb, ?_, ?_⟩
  · rw [hU]
    exact (hX.kept (hS.2.1 _ (by omega) (fun q => by unfold aq at q; omega))).moved hW.alike
  · rw [hU]; exact Nat.le_trans hbs hS.1
  · rw [hU]; exact hst.warm hW hS.2.1
end S16
