/-! THE READING: the class's place in a list is the reference's test of its word -/
theorem wdB_one {V : Hp} {a e : Nat} {w w' : List Int} (h : wdB V a e w = true) (h' : wdB V a e w' = true) : w = w' := by
  unfold wdB at h h'
  rw [Bool.and_eq_true] at h h'
  have l1 := of_decide_eq_true h.2
  have l2 := of_decide_eq_true h'.2
  have m1 := (mtB_iff w a).mp h.1
  have m2 := (mtB_iff w' a).mp h'.1
  have hl : w.length = w'.length := by omega
  refine List.ext_getElem hl fun i h1 h2 => ?_
  have e1 := (m1 i h1).2
  have e2 := (m2 i h2).2
  rw [List.getD_eq_getElem?_getD, List.getElem?_eq_getElem h1] at e1
  rw [List.getD_eq_getElem?_getD, List.getElem?_eq_getElem h2] at e2
  exact e1.symm.trans e2
theorem pl_lo {V : Hp} {a e : Nat} : ∀ (ws : List (List Int)) (s : Nat), plI V a e ws s = -1 ∨ (s : Int) ≤ plI V a e ws s
  | [], _ => Or.inl rfl
  | w :: ws, s => by
    show (if wdB V a e w = true then (s : Int) else plI V a e ws (s + 1)) = -1 ∨ (s : Int) ≤ (if wdB V a e w = true then (s : Int) else plI V a e ws (s + 1))
    split
    · exact Or.inr (Int.le_refl _)
    · rcases pl_lo ws (s + 1) with h | h
      · exact Or.inl h
      · exact Or.inr (by omega)
theorem pl_at {V : Hp} {a e : Nat} : ∀ (ws : List (List Int)) (s i : Nat), ws.Nodup → i < ws.length → (plI V a e ws s = ((s + i : Nat) : Int) ↔ wdB V a e (ws.getD i []) = true)
  | [], _, _, _, h => absurd h (Nat.not_lt_zero _)
  | w :: ws, s, i, hd, h => by
    rw [List.nodup_cons] at hd
    show (if wdB V a e w = true then (s : Int) else plI V a e ws (s + 1)) = _ ↔ _
    cases i with
    | zero =>
      show _ ↔ wdB V a e w = true
      by_cases q : wdB V a e w = true
      · rw [if_pos q]; exact ⟨fun _ => q, fun _ => by simp⟩
      · rw [if_neg q]
        refine ⟨fun z => ?_, fun z => absurd z q⟩
        rcases pl_lo (V := V) (a := a) (e := e) ws (s + 1) with h1 | h1 <;> omega
    | succ i =>
      show _ ↔ wdB V a e (ws.getD i []) = true
      have hi : i < ws.length := Nat.lt_of_succ_lt_succ h
      by_cases q : wdB V a e w = true
      · rw [if_pos q]
        refine ⟨fun z => by omega, fun z => ?_⟩
        have e1 := wdB_one q z
        refine absurd ?_ hd.1
        rw [e1, List.getD_eq_getElem?_getD, List.getElem?_eq_getElem hi]
        exact List.getElem_mem hi
      · rw [if_neg q, ← pl_at ws (s + 1) i hd.2 hi, show s + 1 + i = s + (i + 1) by omega]
theorem pl_none {V : Hp} {a e : Nat} : ∀ (ws : List (List Int)) (s : Nat), plI V a e ws s = -1 ↔ ∀ w ∈ ws, wdB V a e w = false
  | [], _ => ⟨fun _ w hw => absurd hw List.not_mem_nil, fun _ => rfl⟩
  | w :: ws, s => by
    show (if wdB V a e w = true then (s : Int) else plI V a e ws (s + 1)) = -1 ↔ _
    by_cases q : wdB V a e w = true
    · rw [if_pos q]
      refine ⟨fun z => by omega, fun z => ?_⟩
      rw [z w (List.mem_cons_self ..)] at q
      cases q
    · rw [if_neg q, pl_none ws (s + 1)]
      constructor
      · intro h w' hw'
        rcases List.mem_cons.mp hw' with rfl | hm
        · simpa using q
        · exact h w' hm
      · exact fun h w' hw' => h w' (List.mem_cons_of_mem _ hw')
theorem here_eq {V : Hp} {a : Nat} {j : Int} {w : List Int} : hereB V a j w = (ltH V a j && wdB V (skE V a) (enE V a) w) := rfl
/-- the class's number of a word is i if and only if the reference finds the i-th word -/
theorem wr_at {V : Hp} {a : Nat} {j : Int} {ws : List (List Int)} (hd : ws.Nodup) {i : Nat} (hi : i < ws.length) : wrI V a j ws = (i : Int) ↔ hereB V a j (ws.getD i []) = true := by
  rw [here_eq]
  unfold wrI
  by_cases q : ltH V a j = true
  · have := pl_at (V := V) (a := skE V a) (e := enE V a) ws 0 i hd hi
    rw [Nat.zero_add] at this
    rw [if_pos q, q, Bool.true_and, this]
  · have q' : ltH V a j = false := by simpa using q
    rw [if_neg q, q', Bool.false_and]
    refine ⟨fun z => by omega, fun z => by cases z⟩
theorem wr_none {V : Hp} {a : Nat} {j : Int} {ws : List (List Int)} : wrI V a j ws = -1 ↔ ∀ w ∈ ws, hereB V a j w = false := by
  unfold wrI
  by_cases q : ltH V a j = true
  · rw [if_pos q, pl_none]
    refine ⟨fun h w hw => by rw [here_eq, h w hw, Bool.and_false], fun h w hw => ?_⟩
    have := h w hw
    rw [here_eq, q, Bool.true_and] at this
    exact this
  · have q' : ltH V a j = false := by simpa using q
    rw [if_neg q]
    exact ⟨fun _ w hw => by rw [here_eq, q', Bool.false_and], fun _ => rfl⟩
theorem nod_OW : OW.Nodup := by decide +kernel
theorem nod_QW : QW.Nodup := by decide +kernel
