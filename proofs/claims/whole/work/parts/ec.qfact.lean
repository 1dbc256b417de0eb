/-! QUESTIONS: facts in lockstep -/
def RFact (V : Hp) (a : Nat) (j : Int) (o : Nat) (out : QO) : Prop := ∀ (B : Hp) (d : Nat) (Q : AV → Hp → Prop) (C W0 r : List Int) (o' : Nat), Ptr B → Wds B → o = o' + r.length → (∀ x ∈ r, x = 12) → tpN' W0 isNt → okW W0 →
  (∀ kk pl, out = .error (kk, pl) → ∀ H', Fx sQM B H' → H' 71 5 = kk → H' 71 6 = pl → Q vu H') → (∀ a' j' cs, out = .ok (a', j', cs) → GTq V B d Q a' j' (C ++ cs.map rco ++ r) W0 o') → TKq V B d Q a j C (W0 ++ r.reverse) o
def RTest (V : Hp) (a : Nat) (j : Int) (o : Nat) (out : QO) : Prop := ∀ (B : Hp) (d : Nat) (Q : AV → Hp → Prop) (C W : List Int), Ptr B → Wds B → okW W → tpN' W isNt → tpN' W isAO →
  (∀ kk pl, out = .error (kk, pl) → ∀ H', Fx sQM B H' → H' 71 5 = kk → H' 71 6 = pl → Q vu H') → (∀ a' j' cs, out = .ok (a', j', cs) → ∀ cs1 s, cs.map rco = cs1 ++ s → (∀ x ∈ s, isAO x) → GTq V B d Q a' j' (C ++ cs1) (W ++ s.reverse) o) → TKq V B d Q a j C W o
def FactOK (V : Hp) (a : Nat) (j : Int) (o : Nat) : Prop := ∃ out, CQ V QU_fact (kpQ o + 12) a j o out ∧ RFact V a j o out ∧ QF V a (22 + 2 * (6 - o)) true out
def TestOK (V : Hp) (a : Nat) (j : Int) (o : Nat) : Prop := ∃ out, CQ V QU_test (kpQ o + 18) a j o out ∧ RTest V a j o out ∧ QF V a (24 + 2 * (6 - o)) true out ∧ ∀ a' j' cs, out = .ok (a', j', cs) → ¬ wrI V a' j' QW = 7 ∧ ¬ wrI V a' j' QW = 6
section QU1
variable {V : Hp} {a : Nat} {j : Int} {o : Nat}
theorem ex_ne {kk pl : Int} {B : Hp} {Q : AV → Hp → Prop} (h : ∀ H', Fx sQM B H' → H' 71 5 = kk → H' 71 6 = pl → Q vu H') : ErQ B (Q vu) kk pl := fun H' hF h5 h6 _ => h H' hF h5 h6
theorem rf_of (hT : TapeR V) {out : QO} (hF : RFq V a j o out) (hne : ∀ kk pl, out = .error (kk, pl) → kk ≠ 0) (n91 : ¬ bz V a = 91) (n8 : ¬ wrI V a j QW = 8) (ho6 : o ≤ 6) : RFact V a j o out := by
  intro B d Q C W0 r o' hPB hWB h1 h2 h3 h4 he hg
  exact t_fact hT hPB hWB hF hne n91 n8 rfl h1 ho6 h2 h3 h4 he hg
theorem fk_all (hT : TapeR V) (hk : skE V a = a) (hn : a ≤ tpN V) (ho6 : o ≤ 6) (hw : wrI V a j QW = 9) : FactOK V a j o := by
  have lt := wr_gt hT hn hk hw (by decide)
  have rg := enE_rng hn
  have sk := skE_rng rg.2.1
  have n91 : ¬ bz V a = 91 := by
    have := ltB_rng (wr_dg hT hk hw (by decide))
    omega
  have e8 : ∀ {p : Prop}, wrI V a j QW = 8 → p := fun z => by rw [hw] at z; exact absurd z (by decide)
  refine ⟨.ok (skE V (enE V a), (enE V a : Int), [-10]), (c_fact (k := kpQ o + 4) (outC := .error (1, 0)) (outN := .error (1, 0)) (outT := .error (1, 0)) hT hk (fun _ => rfl) (fun z => e8 z) (fun z => e8 z) (fun z => absurd hw z) (fun z => absurd hw z) (fun z => absurd hw z)), rf_of hT (f_all hT hw) (fun kk pl z => (by cases z)) n91 (fun z => e8 z) ho6, fun kk pl z => (by cases z), fun a' j' cs z => ?_⟩
  obtain ⟨z1, z2, z3⟩ := ok_inj z
  subst z1 z2 z3
  exact ⟨by omega, sk.2, skE_sk rg.2.1, by show a + 1 ≤ _; omega, WFq.all.up (by omega)⟩
theorem fk_notN (hT : TapeR V) (hk : skE V a = a) (ho6 : o ≤ 6) (hw : wrI V a j QW = 8) (ho : ¬ o < 6) : FactOK V a j o := by
  have o6 : o = 6 := by omega
  have e9 : ∀ {p : Prop}, wrI V a j QW = 9 → p := fun z => by rw [hw] at z; exact absurd z (by decide)
  refine ⟨.error (4, (a : Int)), (c_fact (k := kpQ o + 4) (outC := .error (1, 0)) (outN := .error (1, 0)) (outT := .error (1, 0)) hT hk (fun z => e9 z) (fun _ _ => rfl) (fun _ z => absurd z ho) (fun _ z => absurd hw z) (fun _ z => absurd hw z) (fun _ z => absurd hw z)), ?_, qf_er (by decide)⟩
  intro B d Q C W0 r o' hPB hWB h1 h2 h3 h4 he hg
  exact t_notN hT hPB hWB hw o6 (ex_ne (he _ _ rfl))
theorem fk_not (hT : TapeR V) (hk : skE V a = a) (hn : a ≤ tpN V) (hw : wrI V a j QW = 8) (ho : o < 6) (hS : FactOK V (skE V (enE V a)) (enE V a) (o + 1)) : FactOK V a j o := by
  obtain ⟨out, hC, hR, hQ⟩ := hS
  have lt := wr_gt hT hn hk hw (by decide)
  have rg := enE_rng hn
  have sk := skE_rng rg.2.1
  have kp := kp_s ho
  have e9 : ∀ {p : Prop}, wrI V a j QW = 9 → p := fun z => by rw [hw] at z; exact absurd z (by decide)
  refine ⟨quF (fun c => c ++ [-9]) out, (c_fact (k := kpQ o + 4) (outC := .error (1, 0)) (outN := out) (outT := .error (1, 0)) hT hk (fun z => e9 z) (fun _ z => absurd ho z) (fun _ _ => ⟨hC.up (by omega), rfl, fun a' j' cs z => by have := (hQ.2 _ _ _ z).2.2.2.1; omega⟩) (fun _ z => absurd hw z) (fun _ z => absurd hw z) (fun _ z => absurd hw z)), ?_, ?_, ?_⟩
  · intro B d Q C W0 r o' hPB hWB h1 h2 h3 h4 he hg
    refine t_not hT hPB hWB hw ho ?_
    have := hR B d Q C W0 (12 :: r) o' hPB hWB (by rw [List.length_cons]; omega) (fun x hx => by
      rcases List.mem_cons.mp hx with rfl | hm
      · rfl
      · exact h2 x hm) h3 h4 (fun kk pl z => he kk pl (by unfold quF; rw [z]; try rfl)) (fun a' j' cs z => ?_)
    · rw [rev_c] at this
      exact this
    · have g := hg _ _ _ (by unfold quF; rw [z]; try rfl)
      have e1 : (cs ++ [(-9 : Int)]).map rco = cs.map rco ++ [12] := by rw [List.map_append]; rfl
      rw [e1] at g
      have e2 : C ++ (cs.map rco ++ [12]) ++ r = C ++ cs.map rco ++ 12 :: r := by simp only [List.append_assoc, List.cons_append, List.nil_append]
      rw [e2] at g
      exact g
  · intro kk pl z
    cases eo : out with
    | error x => rw [eo] at z hQ; exact hQ.1 kk pl z
    | ok t => rw [eo] at z; cases z
  · intro a' j' cs z
    cases eo : out with
    | error x => rw [eo] at z; cases z
    | ok t =>
      obtain ⟨a2, j2, cs2⟩ := t
      rw [eo] at z
      obtain ⟨z1, z2, z3⟩ := ok_inj z
      obtain ⟨l1, l2, l3, l4, l5⟩ := hQ.2 _ _ _ eo
      subst z1 z2 z3
      exact ⟨by omega, l2, l3, by rw [len_s]; omega, (WFq.not l5 (by omega)).up (by omega)⟩
theorem fk_sqN (hT : TapeR V) (hk : skE V a = a) (ho6 : o ≤ 6) (n9 : ¬ wrI V a j QW = 9) (n8 : ¬ wrI V a j QW = 8) (hb : bz V a = 91) (ho : ¬ o < 6) : FactOK V a j o := by
  have o6 : o = 6 := by omega
  refine ⟨.error (4, (a : Int)), (c_fact (k := kpQ o + 4) (outC := .error (1, 0)) (outN := .error (1, 0)) (outT := .error (1, 0)) hT hk (fun z => absurd z n9) (fun z => absurd z n8) (fun z => absurd z n8) (fun _ _ _ _ => rfl) (fun _ _ _ z => absurd z ho) (fun _ _ z => absurd hb z)), ?_, qf_er (by decide)⟩
  intro B d Q C W0 r o' hPB hWB h1 h2 h3 h4 he hg
  exact t_sqN hT hPB hb o6 (ex_ne (he _ _ rfl))
theorem fk_sq (hT : TapeR V) (hk : skE V a = a) (hn : a ≤ tpN V) (n9 : ¬ wrI V a j QW = 9) (n8 : ¬ wrI V a j QW = 8) (hb : bz V a = 91) (ho : o < 6) (hS : TestOK V (skE V (a + 1)) j (o + 1)) : FactOK V a j o := by
  obtain ⟨out, hC, hR, hQ, hop⟩ := hS
  have lt := bz_in' (V := V) (k := a) rfl (by rw [hb]; decide)
  have sk := skE_rng (V := V) (a := a + 1) lt
  have kp := kp_s ho
  have ho6 : o ≤ 6 := Nat.le_of_lt ho
  refine ⟨quS V 93 (fun c => c) out, (c_fact (k := kpQ o + 4) (outC := .error (1, 0)) (outN := .error (1, 0)) (outT := out) hT hk (fun z => absurd z n9) (fun z => absurd z n8) (fun z => absurd z n8) (fun _ _ _ z => absurd ho z) (fun _ _ _ _ => ⟨hC.up (by unfold kpQ at *; omega), rfl⟩) (fun _ _ z => absurd hb z)), ?_, qs_er hQ, ?_⟩
  · intro B d Q C W0 r o' hPB hWB h1 h2 h3 h4 he hg
    have ok2 : okW ((W0 ++ r.reverse) ++ [25]) := (h4.app (fun x hx => by rw [h2 x hx]; decide)).one (by decide)
    refine t_sq hT hPB hb ho (hR B d Q C _ hPB hWB ok2 (Or.inr ⟨_, 25, rfl, by unfold isNt; decide⟩) (Or.inr ⟨_, 25, rfl, by unfold isAO; decide⟩) (fun kk pl z => he kk pl (by unfold quS; rw [z]; try rfl)) (fun a' j' cs z cs1 s hm hs' => ?_))
    have ns : ∀ x ∈ s, ¬ isSq x := fun x hx y => by
      have := hs' x hx
      unfold isAO at this
      unfold isSq at y
      omega
    by_cases c : bz V a' = 93
    · refine gt_close hT hPB (o' := o') ns h3 h2 (by omega) (by omega) c ?_
      have := hg _ _ _ (by unfold quS; rw [z]; exact if_pos c)
      rw [hm] at this
      rw [List.append_assoc C cs1 s]
      exact this
    · obtain ⟨q1, q2⟩ := hop _ _ _ z
      exact gt_fail hT hPB hWB sq_at.1 sq_at.2 c q1 q2 (ex_ne (he _ _ (by unfold quS; rw [z]; exact if_neg c)))
  · intro a' j' cs z
    obtain ⟨a2, j2, cs2, eo, c, e1, e2, e3⟩ := qs_ok z
    obtain ⟨l1, l2, l3, l4, l5⟩ := hQ.2 _ _ _ eo
    have lt2 := bz_in' (V := V) (k := a2) rfl (by rw [c]; decide)
    have sk2 := skE_rng (V := V) (a := a2 + 1) lt2
    subst e1 e2 e3
    exact ⟨by omega, sk2.2, skE_sk lt2, by omega, l5.up (by omega)⟩
end QU1
