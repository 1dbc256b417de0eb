/-! QUESTIONS: both sides: numbers, words, swing and force -/
section QL2
variable {V : Hp} {a : Nat} {j : Int} {o : Nat}
theorem wrQ_hi (V : Hp) (a : Nat) (j : Int) : wrI V a j QW ≤ 16 := by
  unfold wrI
  split
  · have h1 := pl_hi (V := V) (a := skE V a) (e := enE V a) QW 0
    have h3 : ((0 + QW.length : Nat) : Int) = 17 := by decide
    omega
  · decide
theorem dg_nw (hk : skE V a = a) (h : dgB (bz V a) = true) : wrI V a j QW = -1 := by
  unfold wrI ltH
  rw [hk, show ltB (bz V a) = false from decide_eq_false (by have := dgB_rng h; omega)]
  rfl
theorem num_nd (hk : skE V a = a) (h : dgB (bz V a) = false) : numO V a j 0 99999 = .error (1, (a : Int)) := by
  unfold numO dgH
  rw [hk, h]
  rfl
theorem p_digit (hT : TapeR V) (hk : skE V a = a) (ho6 : o ≤ 6) (hd : dgB (bz V a) = true) : PartOK V a j o := by
  have n40 : ¬ bz V a = 40 := fun z => by rw [z] at hd; cases hd
  have lt := dg_in hd
  refine ⟨qNu V a j, (c_num (k := kpQ o - 8) hT hd).up (by unfold kpQ; omega), ?_, ?_, ?_⟩
  · intro B d K L E C W0 r o' b hPB hWB hc h1 h2 h3 h4 he hg
    refine k_num hT hPB hWB hc n40 (by rw [dg_nw hk hd]; decide) rfl h1 h2 ho6 h3 h4 (fun kk pl z => he kk pl (by unfold qNu; rw [z]; try rfl)) (fun e v z => ?_)
    have rg := numO_ok (Nat.le_of_lt lt) z
    have := hg _ _ _ (by unfold qNu; rw [z]; try rfl)
    have e1 : [v].map rco = [1000 + v] := by
      show [rco v] = _
      unfold rco
      rw [if_pos rg.2.2.1]
    rw [e1] at this
    exact this
  · intro kk pl z
    unfold qNu at z
    cases eo : numO V a j 0 99999 with
    | error x => rw [eo] at z; have z := Except.error.inj z; subst z; exact numO_er eo
    | ok t => rw [eo] at z; cases z
  · intro a' j' cs z
    unfold qNu at z
    cases eo : numO V a j 0 99999 with
    | error x => rw [eo] at z; cases z
    | ok t =>
      obtain ⟨e, v⟩ := t
      rw [eo] at z
      have rg := numO_ok (Nat.le_of_lt lt) eo
      have z := Except.ok.inj z
      obtain ⟨z1, z2⟩ := Prod.mk.inj z
      obtain ⟨z2, z3⟩ := Prod.mk.inj z2
      have sk := skE_rng rg.2.1
      subst z1 z2 z3
      exact ⟨by omega, sk.2, skE_sk rg.2.1, by show a + 1 ≤ _; omega, (WFq.leaf (Or.inl ⟨rg.2.2.1, rg.2.2.2.1⟩)).up (by omega)⟩
theorem p_none (hT : TapeR V) (hk : skE V a = a) (ho6 : o ≤ 6) (n40 : ¬ bz V a = 40) (hd : dgB (bz V a) = false) (hw : ¬ 10 ≤ wrI V a j QW) : PartOK V a j o := by
  refine ⟨.error (1, (a : Int)), (c_none (k := kpQ o - 8) hT hk n40 hd hw).up (by unfold kpQ; omega), ?_, qf_er (by decide)⟩
  intro B d K L E C W0 r o' b hPB hWB hc h1 h2 h3 h4 he hg
  refine k_num hT hPB hWB hc n40 (fun z => hw z.1) rfl h1 h2 ho6 h3 h4 (fun kk pl z => ?_) (fun e v z => ?_)
  · rw [num_nd hk hd] at z
    have z := Except.error.inj z
    exact he kk pl (by rw [z])
  · rw [num_nd hk hd] at z
    cases z
theorem p_leaf (hT : TapeR V) (hk : skE V a = a) (hn : a ≤ tpN V) (ho6 : o ≤ 6) {w : Nat} (hw : wrI V a j QW = w) (h3 : w = 10 ∨ w = 11 ∨ w = 12) : PartOK V a j o := by
  have lt := wr_gt hT hn hk hw (by omega)
  have rg := enE_rng hn
  have sk := skE_rng rg.2.1
  refine ⟨.ok (skE V (enE V a), (enE V a : Int), [-1 - (w : Int)]), (c_leaf (k := kpQ o - 8) hT hk hw (by omega)).up (by unfold kpQ; omega), ?_, (fun kk pl z => (by cases z)), ?_⟩
  · intro B d K L E C W0 r o' b hPB hWB hc h1 h2 h3' h4 he hg
    refine k_leaf hT hPB hWB hc hw h3 rfl h1 h2 ho6 h3' h4 ?_
    have := hg _ _ _ rfl
    have e1 : [-1 - (w : Int)].map rco = [((w + 30 : Nat) : Int)] := by rcases h3 with rfl | rfl | rfl <;> rfl
    rw [e1] at this
    exact this
  · intro a' j' cs z
    have z := Except.ok.inj z
    obtain ⟨z1, z2⟩ := Prod.mk.inj z
    obtain ⟨z2, z3⟩ := Prod.mk.inj z2
    subst z1 z2 z3
    exact ⟨by omega, sk.2, skE_sk rg.2.1, by show a + 1 ≤ _; omega, (WFq.leaf (Or.inr (by omega))).up (by omega)⟩
theorem p_ofN (hT : TapeR V) (hk : skE V a = a) (ho6 : o ≤ 6) (ho : ¬ o < 6) {w : Nat} (hw : wrI V a j QW = w) (h3 : w = 13 ∨ w = 14)
    (hkN : ∀ (B : Hp) (d : Nat) (K : Hp → Prop) (L : AV → Hp → Prop) (E : Hp → Prop) (C W : List Int) (b : Nat), Ptr B → Wds B → KCtx (d + 6) K L E → ErQ B E 4 a → PKq V B (d + 6) K a j C W o b) : PartOK V a j o := by
  refine ⟨.error (4, (a : Int)), (c_ofN (k := kpQ o - 8) hT hk hw (by omega) ho).up (by unfold kpQ; omega), ?_, qf_er (by decide)⟩
  intro B d K L E C W0 r o' b hPB hWB hc h1 h2 h3' h4 he hg
  exact hkN B d K L E C _ b hPB hWB hc (he _ _ rfl)
theorem p_of (hT : TapeR V) (hB : BoatM V) (hk : skE V a = a) (hn : a ≤ tpN V) (ho : o < 6) {w : Nat} (hw : wrI V a j QW = w) (h3 : w = 13 ∨ w = 14) (hS : PartOK V (skE V (enE V a)) (enE V a) (o + 1)) : PartOK V a j o := by
  obtain ⟨out, hC, hR, hQ⟩ := hS
  have lt := wr_gt hT hn hk hw (by omega)
  have rg := enE_rng hn
  have sk := skE_rng rg.2.1
  have kp := kp_s ho
  refine ⟨quF (fun c => c ++ [-1 - (w : Int)]) out, (c_of (k := kpQ (o + 1) - 5) hT hk hw (by omega) ho (hC.up (by unfold kpQ; omega)) (fun a' j' cs z => (hQ.2 _ _ _ z).2.2.2.1)).up (by unfold kpQ at *; omega), ?_, ?_, ?_⟩
  · intro B d K L E C W0 r o' b hPB hWB hc h1 h2 h3' h4 he hg
    refine k_of hT hPB hWB hw h3 ho ?_
    have := hR B d K L E C W0 (((w + 47 : Nat) : Int) :: r) o' b hPB hWB hc (by rw [List.length_cons]; omega) (fun x hx => by
      rcases List.mem_cons.mp hx with rfl | hm
      · omega
      · exact h2 x hm) h3' h4 (fun kk pl z => he kk pl (by unfold quF; rw [z]; try rfl)) (fun a' j' cs z => ?_)
    · rw [rev_c] at this
      exact this
    · have g := hg _ _ _ (by unfold quF; rw [z]; try rfl)
      have e1 : (cs ++ [-1 - (w : Int)]).map rco = cs.map rco ++ [((w + 47 : Nat) : Int)] := by
        rw [List.map_append]
        rcases h3 with rfl | rfl <;> rfl
      rw [e1] at g
      have e2 : C ++ (cs.map rco ++ [((w + 47 : Nat) : Int)]) ++ r = C ++ cs.map rco ++ ((w + 47 : Nat) : Int) :: r := by simp only [List.append_assoc, List.cons_append, List.nil_append]
      rw [e2] at g
      exact g
  · intro kk pl z
    cases eo : out with
    | error x => rw [eo] at z hQ; exact hQ.1 kk pl z
    | ok t => rw [eo] at z; cases z
  · intro a' j' cs z
    cases eo : out with
    | error x => rw [eo] at z; cases z
    | ok t =>
      obtain ⟨a2, j2, cs2⟩ := t
      rw [eo] at z
      have z := Except.ok.inj z
      obtain ⟨z1, z2⟩ := Prod.mk.inj z
      obtain ⟨z2, z3⟩ := Prod.mk.inj z2
      obtain ⟨l1, l2, l3, l4, l5⟩ := hQ.2 _ _ _ eo
      subst z1 z2 z3
      exact ⟨by omega, l2, l3, by rw [len_s]; omega, (WFq.un hB l5 (by omega) (by omega)).up (by omega)⟩
end QL2
