/-! THE START: a run of the abstract machine from the script gives the claim -/
def Hz (L : Nat) (xs : Nat → Int32) : Hp := fun a b => if a = 999 then (if 0 ≤ b ∧ b < L then (xs b.toNat).toInt else 0) else if a = 0 ∧ b = 1 then (L : Int) else 0
/-- what is owed of the abstract machine -/
def AmOk (L : Nat) (xs : Nat → Int32) : Prop := ∃ n H', ex n 300 373 (blk 373 0) [va 999, vu, vu, vu] [] (Hz L xs) = some (vi 1, H') ∧ H' 0 0 ≤ 139
def tmS (i : Nat) : Term := if i = 0 then .string "EvenOars$BoatText" 44 else .string "EvenOars$Question" 49
def fltS : List Cond := flatC (Jvm.Cond.and given_1 narrow_1)
theorem fl_at {l : List Cond} {i : Nat} {c : Cond} (h : l[i]? = some c) : c ∈ l := List.mem_of_getElem? h
theorem fl_mem {l : List Cond} {a n : Nat} {f : Nat → Cond} (h : (l.drop a).take n = (List.range n).map f) {j : Nat} (hj : j < n) : f j ∈ l := List.mem_of_mem_drop (List.mem_of_mem_take (by rw [h]; exact List.mem_map_of_mem (List.mem_range.mpr hj)))
def elS (i j : Nat) : Cond := Cond.eq (.elem (.field (tmS i) "java/lang/String" "value" "[B") (.int (Int32.ofNat j))) (.int ((byS.getD i []).getD j 0))
set_option maxRecDepth 100000 in
set_option maxHeartbeats 4000000 in
theorem fltS_e0 : (fltS.drop 13).take 86 = (List.range 86).map (elS 0) := by rfl
set_option maxRecDepth 100000 in
set_option maxHeartbeats 4000000 in
theorem fltS_e1 : (fltS.drop 103).take 85 = (List.range 85).map (elS 1) := by rfl
set_option maxRecDepth 100000 in
theorem fltS_a : Cond.exactly (tmS 0) "java/lang/String" ∈ fltS ∧ Cond.eq (.field (tmS 0) "java/lang/String" "coder" "B") (.int 0) ∈ fltS ∧ Cond.arrayOf (.field (tmS 0) "java/lang/String" "value" "[B") .byte ∈ fltS ∧ Cond.eq (.length (.field (tmS 0) "java/lang/String" "value" "[B")) (.int (Int32.ofNat 86)) ∈ fltS := ⟨fl_at (i := 9) rfl, fl_at (i := 10) rfl, fl_at (i := 11) rfl, fl_at (i := 12) rfl⟩
set_option maxRecDepth 100000 in
theorem fltS_b : Cond.exactly (tmS 1) "java/lang/String" ∈ fltS ∧ Cond.eq (.field (tmS 1) "java/lang/String" "coder" "B") (.int 0) ∈ fltS ∧ Cond.arrayOf (.field (tmS 1) "java/lang/String" "value" "[B") .byte ∈ fltS ∧ Cond.eq (.length (.field (tmS 1) "java/lang/String" "value" "[B")) (.int (Int32.ofNat 85)) ∈ fltS := ⟨fl_at (i := 99) rfl, fl_at (i := 100) rfl, fl_at (i := 101) rfl, fl_at (i := 102) rfl⟩
set_option maxRecDepth 100000 in
theorem fltS_2 : Cond.not (Cond.eq (tmS 0) (tmS 1)) ∈ fltS ∧ Cond.eq (.static "java/lang/String" "COMPACT_STRINGS" "Z") (.int 1) ∈ fltS ∧ Cond.isRef (.static "jdk/internal/util/Preconditions" "SIOOBE_FORMATTER" "Ljava/util/function/BiFunction;") ∈ fltS := ⟨fl_at (i := 188) rfl, fl_at (i := 4) rfl, fl_at (i := 5) rfl⟩
theorem two {P : Nat → Prop} (h0 : P 0) (h1 : P 1) : ∀ i, i < 2 → P i
  | 0, _ => h0
  | 1, _ => h1
  | i + 2, h => by omega
set_option maxRecDepth 100000 in
theorem on_373 : on 373 = 13 ∧ cn 13 = "EvenOarsLaw" ∧ bM 373 = code ∧ mxl 373 = 4 ∧ (yM 373).name = "law" := ⟨rfl, rfl, rfl, rfl, rfl⟩
theorem st_arr {s : State} (hts : ∀ w ∈ lw_tbl, w.before #[] s = true) (ty : FieldType) (h : ty = .int ∨ ty = .long ∨ ty = .byte ∨ ty = .char) : ∃ cA, ArrOfT s cA ty ∧ va_RA s cA ty := by
  have h1 := hts _ (List.mem_filter.mp (wd_arr ty h)).1
  obtain ⟨c, k, comp, q1, q2, q3⟩ := Cond.arrayClass_spec h1
  refine ⟨c, fun n z => ⟨fun k h => (by cases h), k, q2, comp, q3⟩, ?_⟩
  rcases h with rfl | rfl | rfl | rfl <;> exact q1
theorem wrl_0 {D : va_G} {cy : Nat → ClassId} {base : Nat} {f : Int → Nat} {L : Nat} {xs : Nat → Int32} {Hm : Heap} : wrl D cy base f (Hz L xs) Hm := by
  refine ⟨0, [], rfl, by omega, rfl, fun k hk => absurd hk (Nat.not_lt_zero k), fun k q h => by simp at h, ⟨fun i j p q h => by simp at h, fun k q h => by simp at h⟩, fun k h1 h2 j => ?_⟩
  unfold Hz
  rw [if_neg (by omega), if_neg (by omega)]
set_option maxRecDepth 20000 in
/-- YOUR PART: from the entry, for every script of at most 3072 ints, the law comes to its end with true -/
theorem start_of {p : Program} {e : Env} {s : State} {m : MethodId} {below : List Frame} {meth : Method} {c : Code} (l : Launch) {b0 L : Nat} {xs : Nat → Int32} (hL : L ≤ 3072) (hx : p.tables.exec = Jvm.exec) (hb : c.code = code) (hml : c.maxLocals = 4) (hown : s.vm.findClass "EvenOarsLaw" = some m.cls) (hts : ∀ w ∈ lw_tbl, w.before #[Value.ref b0] s = true) (hX : va_X b0 L xs s s.heap) (hbl : b0 < s.heap.size) (hgv : (Jvm.Cond.and given_1 narrow_1).before #[Value.ref b0] s = true) (hAm : AmOk L xs) {Q : State → Prop}
    (hend : ∀ {pc : Nat} {H : Heap} {ls : Array Slot}, decode code pc = .ok (.ireturn, 1) → W p l e room_1 s m #[Value.ref b0] below meth c H [] 600000 7302250 Q (F0 m pc ls [.int 1])) :
    W p l e room_1 s m #[Value.ref b0] below meth c s.heap [] 0 0 Q (entryFrame m ([Value.ref b0] : List Value).toArray 4) := by
  obtain ⟨n, H', hex, hn⟩ := hAm
  have hflat : ∀ w ∈ fltS, w.before #[Value.ref b0] s = true := flat_of_before _ hgv
  have hA : ∀ a : Nat, a < s.heap.size → ¬ aq s.heap.size a := fun a h => Nat.not_le.mpr h
  have f2 := fltS_2
  obtain ⟨adK, adV, hvS, hvE⟩ := vk_Sof (args := #[Value.ref b0]) (s := s) (N := 2) (tm := tmS) (len := lnS) (byt := byS) (A := aq s.heap.size) (two (P := fun i => lnS.getD i 0 < 2 ^ 31) (by decide) (by decide)) (two (hflat _ fltS_a.1) (hflat _ fltS_b.1)) (two (hflat _ fltS_a.2.1) (hflat _ fltS_b.2.1)) (two (hflat _ fltS_a.2.2.1) (hflat _ fltS_b.2.2.1)) (two (hflat _ fltS_a.2.2.2) (hflat _ fltS_b.2.2.2))
    (two (P := fun i => ∀ j, j < lnS.getD i 0 → (elS i j).before #[Value.ref b0] s = true) (fun j hj => hflat _ (fl_mem fltS_e0 hj)) (fun j hj => hflat _ (fl_mem fltS_e1 hj)))
    (fun i j hi hj hij => by
      have := hflat _ f2.1
      match i, j, hi, hj, hij with
      | 0, 1, _, _, _ => exact Or.inl this
      | 1, 0, _, _, _ => exact Or.inr this
      | 0, 0, _, _, h => exact absurd rfl h
      | 1, 1, _, _, h => exact absurd rfl h
      | i + 2, _, h, _, _ => omega
      | _, j + 2, _, h, _ => omega) hA
  have hZ1 : va_Z "java/lang/String" "COMPACT_STRINGS" "Z" (.int 1) (aq s.heap.size) s s.heap := va_Zof (hts _ (List.mem_of_getElem? (i := 756) (by decide +kernel))) (hts _ (List.mem_of_getElem? (i := 168) (by decide +kernel))) (va_eqt (hflat _ f2.2.1)) hA
  obtain ⟨t2, ht2, hZ2⟩ : ∃ t : Value, (t = .null ∨ ∃ q : Nat, t = .ref q) ∧ va_Z "jdk/internal/util/Preconditions" "SIOOBE_FORMATTER" "Ljava/util/function/BiFunction;" t (aq s.heap.size) s s.heap := by
    rcases va_Zqof (hts _ (List.mem_of_getElem? (i := 772) (by decide +kernel))) (hts _ (List.mem_of_getElem? (i := 170) (by decide +kernel))) (hflat _ f2.2.2) hA with h | ⟨t, h⟩
    · exact ⟨_, Or.inl rfl, h⟩
    · exact ⟨_, Or.inr ⟨t, rfl⟩, h⟩
  obtain ⟨cc, hcc⟩ : ∃ cc : Nat → ClassId × (Nat → Nat), ∀ k, k < 12 → u_Kn s (clD k).1 (clD k).2.1 (clD k).2.2 (cc k).1 (cc k).2 := by
    have h0 : ∀ k : Nat, ∃ q : ClassId × (Nat → Nat), k < 12 → u_Kn s (clD k).1 (clD k).2.1 (clD k).2.2 q.1 q.2 := fun k => by
      by_cases hk : k < 12
      · obtain ⟨c0, i0, h⟩ := u_known (C := (clD k).1) (T := (clD k).2.1) (N := (clD k).2.2) (n := (clD k).2.2) hts (fun w hw => (List.mem_filter.mp ((cls_at hk).2.1 w hw)).1) (hts _ (KD1_ok k (by show k ∈ KD_0 ++ []; rw [List.append_nil]; exact List.mem_of_getElem? (i := k) (by match k, hk with | 0, _ => rfl | 1, _ => rfl | 2, _ => rfl | 3, _ => rfl | 4, _ => rfl | 5, _ => rfl | 6, _ => rfl | 7, _ => rfl | 8, _ => rfl | 9, _ => rfl | 10, _ => rfl | 11, _ => rfl | k + 12, h => omega))))
        exact ⟨(c0, i0), fun _ => h⟩
      · exact ⟨(0, fun _ => 0), fun h => absurd h hk⟩
    exact Classical.axiomOfChoice h0
  have hts0 : ∀ w ∈ lw_g, w.before #[Value.ref b0] s = true := fun w h => hts w (List.mem_filter.mp h).1
  have harr : ∀ ty : FieldType, ty = .int ∨ ty = .long ∨ ty = .byte ∨ ty = .char → ∃ cA, ArrOfT s cA ty ∧ va_RA s cA ty := fun ty h => by
    have h1 := hts0 _ (wd_arr ty h)
    obtain ⟨c, k, comp, q1, q2, q3⟩ := Cond.arrayClass_spec h1
    refine ⟨c, fun n z => ⟨fun k h => (by cases h), k, q2, comp, q3⟩, ?_⟩
    rcases h with rfl | rfl | rfl | rfl <;> exact q1
  obtain ⟨a1, ha1⟩ := harr .int (Or.inl rfl)
  obtain ⟨a2, ha2⟩ := harr .long (Or.inr (Or.inl rfl))
  obtain ⟨a3, ha3⟩ := harr .byte (Or.inr (Or.inr (Or.inl rfl)))
  obtain ⟨a4, ha4⟩ := harr .char (Or.inr (Or.inr (Or.inr rfl)))
  obtain ⟨cy, hcy⟩ : ∃ cy : Nat → ClassId, cy 1 = a1 ∧ cy 2 = a2 ∧ cy 3 = a3 ∧ cy 4 = a4 := ⟨fun k => if k = 1 then a1 else if k = 2 then a2 else if k = 3 then a3 else a4, rfl, rfl, rfl, rfl⟩
  have hK : va_K (fun k => (cc k).1, fun k => (cc k).2) vwCl (tys4 cy) s := by
    refine ⟨fun k q hq => ?_, fun k q hq => ?_⟩
    · have hk : k < 12 := by
        have := (List.getElem?_eq_some_iff.mp hq).1
        exact this
      have := (cls_at hk).1
      rw [hq] at this
      rw [Option.some.inj this]
      exact hcc k hk
    · obtain ⟨e1, e2, e3, e4⟩ := hcy
      match k, hq with
      | 0, hq => cases hq; dsimp only; rw [e1]; exact ha1
      | 1, hq => cases hq; dsimp only; rw [e2]; exact ha2
      | 2, hq => cases hq; dsimp only; rw [e3]; exact ha3
      | 3, hq => cases hq; dsimp only; rw [e4]; exact ha4
      | k + 4, hq => simp [tys4] at hq
  obtain ⟨b, hbb⟩ : ∃ b : Nat → Nat, b 0 = b0 ∧ b 1 = adK 0 ∧ b 2 = adK 1 := ⟨fun k => if k = 0 then b0 else if k = 1 then adK 0 else adK 1, rfl, rfl, rfl⟩
  obtain ⟨eb0, eb1, eb2⟩ := hbb
  obtain ⟨o1, o2, o3, o4, o5⟩ := on_373
  have hnest : ∀ q ∈ ML, q.2.2.2 = 3 → va_Nw (mlW q) s := fun q hq hk => by
    have h1 := hts _ (ML_ok q hq)
    unfold mlW at h1 ⊢
    rw [hk] at h1 ⊢
    exact va_Nw.of rfl h1
  have hst : stf b s.heap.size s s.heap := by
    refine ⟨⟨adK, adV, hvS, eb1.symm, eb2.symm⟩, ⟨?_, ?_⟩, hnest, hZ1, t2, ht2, hZ2⟩
    · rw [eb1]
      exact vk_R.of (A := #[Value.ref b0]) (hts _ (List.mem_of_getElem? (i := 730) (by decide +kernel))) ((Term.string_eval_of_vm (args := #[]) (args' := #[Value.ref b0]) rfl).trans (hvE 0 (by omega)))
    · rw [eb2]
      exact vk_R.of (A := #[Value.ref b0]) (hts _ (List.mem_of_getElem? (i := 1476) (by decide +kernel))) ((Term.string_eval_of_vm (args := #[]) (args' := #[Value.ref b0]) rfl).trans (hvE 1 (by omega)))
  have F : frm p s m #[Value.ref b0] meth c (fun k => (cc k).1, fun k => (cc k).2) cy s.heap.size b L xs 373 :=
    ⟨hx, by rw [o3]; exact hb, by rw [o4]; exact hml, by rw [o1, o2]; exact hown, fun h => absurd (o5.symm.trans h) (by decide), hts0, hK, by rw [eb0]; exact hX, by rw [eb0]; exact hbl, Nat.le_refl _, hst⟩
  have hs999 : srel (fun k => if k = 999 then b 0 else if k = 901 then b 1 else b 2) (Hz L xs 0 0) [va 999] [.ref b0] := by
    refine ⟨vrel_a.mpr (Or.inr ⟨Or.inr (Or.inr (Or.inr rfl)), ?_⟩), trivial⟩
    show Value.ref b0 = .ref (b 0)
    rw [eb0]
  rw [lg_entry_eq]
  have hl := lv_entry ([.ref b0]) (n := 4) (Nat.le_of_ble_eq_true rfl)
  have hz0 : Hz L xs 0 0 = 0 := rfl
  have hsz : szs (H' 0 0).toNat ≤ szs 139 := szs_mono (by omega)
  have hsz2 : szs 139 ≤ 7302250 := by decide +kernel
  refine frm_all n p e room_1 s m #[Value.ref b0] below meth c Q 300 373 0 (blk 373 0) [va 999, vu, vu, vu] [] (Hz L xs) (vi 1) H' hex (by omega) (by have := chk_all (m := 373) (by omega) 0; rw [lpc_0 (by omega)] at this; exact this) F (by show 310 ≤ 2048; omega) (by show 40 * 300 + 400 ≤ 84000; omega) (fun k => if k = 999 then b 0 else if k = 901 then b 1 else b 2) _ [] s.heap [] 0 0 ⟨⟨lv_args 0 [.ref b0], hl, fun j hj => by have := lcs_rel 4 [va 999] [.ref b0] 0 hs999 j hj; rw [Nat.zero_add] at this; exact this⟩, trivial, wrl_0, va_S.rf, by rw [o4]; rfl, ⟨rfl, rfl, rfl⟩, rfl, fun j hj => ?_, by omega⟩ (by rw [hz0]; show _ ≤ 600000; omega) (by rw [hz0]; show _ ≤ 7302250; have : szs (0 : Int).toNat = 0 := rfl; omega) ?_
  · show (if (999 : Int) = 999 then (if 0 ≤ (j : Int) ∧ (j : Int) < L then (xs (j : Int).toNat).toInt else 0) else _) = _
    rw [if_pos rfl, if_pos ⟨by omega, by omega⟩]
    rfl
  · intro f' la' sv' Hm' locs' pc' hag hw' hS' hmt' hrc
    rcases hrc with ⟨-, hr0, -⟩ | ⟨hd, x, rfl, hr1, -⟩ | ⟨-, -, x, -, hr1⟩
    · exact absurd hr0 (by decide +kernel)
    · have hx1 : x = 1 := Int32.toInt_inj.mp (by have := congrArg Prod.snd hr1; exact this.symm)
      subst hx1
      rw [o3] at hd
      refine va_forget (fun q hq => hS'.2.2 q hq) ?_
      refine W.widen (k := 600000) (n := 7302250) (by rw [hz0]; show _ ≤ 600000; omega) (by rw [hz0]; show _ ≤ 7302250; have : szs (0 : Int).toNat = 0 := rfl; omega) ?_
      exact hend hd
    · have := congrArg Prod.fst hr1
      exact absurd this (by show ¬ (0 : Nat) = 1; omega)
