/-! QUESTIONS: tests in lockstep; all tests -/
def RBoth (V : Hp) (a : Nat) (j : Int) (o : Nat) (out : QO) : Prop := ∀ (B : Hp) (d : Nat) (Q : AV → Hp → Prop) (C W : List Int), Ptr B → Wds B → okW W → tpN' W isNt → tpN' W isAn →
  (∀ kk pl, out = .error (kk, pl) → ∀ H', Fx sQM B H' → H' 71 5 = kk → H' 71 6 = pl → Q vu H') → (∀ a' j' cs, out = .ok (a', j', cs) → ∀ cs1 s, cs.map rco = cs1 ++ s → (∀ x ∈ s, isAn x) → GTq V B d Q a' j' (C ++ cs1) (W ++ s.reverse) o) → TKq V B d Q a j C W o
def RLb (V : Hp) (a : Nat) (j : Int) (o : Nat) (cs0 : List Int) (out : QO) : Prop := ∀ (B : Hp) (d : Nat) (Q : AV → Hp → Prop) (C W : List Int), Ptr B → Wds B → okW W → tpN' W isNt → tpN' W isAn →
  (∀ kk pl, out = .error (kk, pl) → ∀ H', Fx sQM B H' → H' 71 5 = kk → H' 71 6 = pl → Q vu H') → (∀ a' j' cs, out = .ok (a', j', cs) → ∀ cs1 s, cs.map rco = cs1 ++ s → (∀ x ∈ s, isAn x) → GTq V B d Q a' j' (C ++ cs1) (W ++ s.reverse) o) → ∀ cs1 s, cs0.map rco = cs1 ++ s → (∀ x ∈ s, isAn x) → GTq V B d Q a j (C ++ cs1) (W ++ s.reverse) o
def RLt (V : Hp) (a : Nat) (j : Int) (o : Nat) (cs0 : List Int) (out : QO) : Prop := ∀ (B : Hp) (d : Nat) (Q : AV → Hp → Prop) (C W : List Int), Ptr B → Wds B → okW W → tpN' W isNt → tpN' W isAO →
  (∀ kk pl, out = .error (kk, pl) → ∀ H', Fx sQM B H' → H' 71 5 = kk → H' 71 6 = pl → Q vu H') → (∀ a' j' cs, out = .ok (a', j', cs) → ∀ cs1 s, cs.map rco = cs1 ++ s → (∀ x ∈ s, isAO x) → GTq V B d Q a' j' (C ++ cs1) (W ++ s.reverse) o) → ∀ cs1 s, cs0.map rco = cs1 ++ s → (∀ x ∈ s, isAO x) → GTq V B d Q a j (C ++ cs1) (W ++ s.reverse) o
def BLk (V : Hp) (k a0 a : Nat) (j : Int) (o : Nat) (cs : List Int) : Prop := ∃ out, CLboth V (k + 8) a j o cs out ∧ RLb V a j o cs out ∧ QL V a0 a (23 + 2 * (6 - o)) true out ∧ ∀ a' j' cs', out = .ok (a', j', cs') → ¬ wrI V a' j' QW = 7
def TLk (V : Hp) (k a0 a : Nat) (j : Int) (o : Nat) (cs : List Int) : Prop := ∃ out, CLtest V (k + 8) a j o cs out ∧ RLt V a j o cs out ∧ QL V a0 a (24 + 2 * (6 - o)) true out ∧ ∀ a' j' cs', out = .ok (a', j', cs') → ¬ wrI V a' j' QW = 7 ∧ ¬ wrI V a' j' QW = 6
def BothOK (V : Hp) (a : Nat) (j : Int) (o : Nat) : Prop := ∃ out, CQ V QU_both (kpQ o + 15) a j o out ∧ RBoth V a j o out ∧ QF V a (23 + 2 * (6 - o)) true out ∧ ∀ a' j' cs, out = .ok (a', j', cs) → ¬ wrI V a' j' QW = 7
section QU3
variable {V : Hp} {a : Nat} {j : Int} {o : Nat}
theorem an_ao {x : Int} (h : isAn x) : isAO x := Or.inl h
theorem rf_fact {B : Hp} {d : Nat} {Q : AV → Hp → Prop} {C W : List Int} {out : QO} (hR : RFact V a j o out) (hPB : Ptr B) (hWB : Wds B) (ho : okW W) (ht : tpN' W isNt) (he : ∀ kk pl, out = .error (kk, pl) → ∀ H', Fx sQM B H' → H' 71 5 = kk → H' 71 6 = pl → Q vu H')
    (hg : ∀ a' j' cs, out = .ok (a', j', cs) → GTq V B d Q a' j' (C ++ cs.map rco) W o) : TKq V B d Q a j C W o := by
  have := hR B d Q C W [] o hPB hWB rfl (fun x hx => by cases hx) ht ho he (fun a' j' cs z => by rw [List.append_nil]; exact hg a' j' cs z)
  rw [List.reverse_nil, List.append_nil] at this
  exact this
theorem both_go (hT : TapeR V) {k a0 : Nat} (hkp : kpQ o + 12 = k + 5) (h0 : a0 ≤ a) (hn : a ≤ tpN V) (hk : skE V a = a) {cs : List Int} (hl : a0 + cs.length ≤ a) (hw : WFq V cs (23 + 2 * (6 - o)) true) (hP : ∀ (a' : Nat) (j' : Int), a < a' → a' ≤ tpN V → skE V a' = a' → FactOK V a' j' o)
    (ih : ∀ (a2 : Nat) (j2 : Int) (cs2 : List Int), a < a2 → a2 ≤ tpN V → skE V a2 = a2 → a0 + cs2.length ≤ a2 → WFq V cs2 (23 + 2 * (6 - o)) true → BLk V k a0 a2 j2 o cs2) (hb : wrI V a j QW = 7) : BLk V k a0 a j o cs := by
  have lt := wr_gt hT hn hk hb (by decide)
  have rg := enE_rng hn
  have sk := skE_rng rg.2.1
  obtain ⟨outp, hCp, hRp, hQp⟩ := hP (skE V (enE V a)) (enE V a) (by omega) sk.2 (skE_sk rg.2.1)
  rw [hkp] at hCp
  have hlen : ∀ a' j' cs', outp = .ok (a', j', cs') → skE V (enE V a) < a' ∧ skE V (enE V a) + cs'.length ≤ a' := fun a' j' cs' z => ⟨(hQp.2 _ _ _ z).1, (hQp.2 _ _ _ z).2.2.2.1⟩
  cases eo : outp with
  | error y =>
    have hE : ∀ x, outp = .error x → (.error y : QO) = .error x := fun x z => by rw [eo] at z; exact z
    have hN : ∀ {a' j' cs'}, ¬ outp = .ok (a', j', cs') := fun z => by rw [eo] at z; cases z
    refine ⟨.error y, CLboth.go hT hk hb hlen hCp hE (fun a' j' cs' z => absurd z hN), ?_, ⟨fun kk pl z => hQp.1 kk pl (eo.trans z), fun a' j' cs' z => by cases z⟩, fun a' j' cs' z => by cases z⟩
    intro B d Q C W hPB hWB hok ht ht' he hg cs1 s3 hm hs3
    exact gt_and hT hPB hWB hb hs3 ht' (rf_fact hRp hPB hWB (hok.one (by decide)) (Or.inr ⟨W, 10, rfl, by unfold isNt; decide⟩) (fun kk pl z => he kk pl (hE _ z)) (fun a' j' cs' z => absurd z hN))
  | ok t =>
    obtain ⟨a2, j2, cs2⟩ := t
    obtain ⟨l1, l2, l3, l4, l5⟩ := hQp.2 _ _ _ eo
    obtain ⟨out, hC, hR, hQ, hop⟩ := ih a2 j2 (cs ++ (cs2 ++ [-8])) (by omega) l2 l3 (by rw [List.length_append, len_s]; omega) (WFq.bin hw l5 (by omega) (by omega) (by omega) (Or.inr ⟨Or.inr rfl, rfl, rfl⟩) (fun _ => Or.inr (Or.inr rfl)))
    have hN : ∀ {x}, ¬ outp = .error x := fun z => by rw [eo] at z; cases z
    refine ⟨out, CLboth.go hT hk hb hlen hCp (fun x z => absurd z hN) (fun a' j' cs' z => ?_), ?_, ⟨hQ.1, fun a' j' cs' z => ?_⟩, hop⟩
    · rw [eo] at z
      obtain ⟨z1, z2, z3⟩ := ok_inj z
      subst z1 z2 z3
      exact hC
    · intro B d Q C W hPB hWB hok ht ht' he hg cs1 s3 hm hs3
      refine gt_and hT hPB hWB hb hs3 ht' (rf_fact hRp hPB hWB (hok.one (by decide)) (Or.inr ⟨W, 10, rfl, by unfold isNt; decide⟩) (fun kk pl z => absurd z hN) (fun a' j' cs' z => ?_))
      rw [eo] at z
      obtain ⟨z1, z2, z3⟩ := ok_inj z
      subst z1 z2 z3
      have := hR B d Q C W hPB hWB hok ht ht' he hg (cs1 ++ s3 ++ cs2.map rco) [10] (by rw [List.map_append, List.map_append, hm]; simp only [List.append_assoc]; rfl) (fun y hy => by
        rw [List.mem_singleton] at hy
        exact hy)
      rw [← List.append_assoc, ← List.append_assoc] at this
      exact this
    · have r := hQ.2 _ _ _ z
      exact ⟨by omega, r.2⟩
theorem both_end (hT : TapeR V) {k a0 : Nat} {cs : List Int} (h1 : a ≤ tpN V) (h2 : skE V a = a) (hl : a0 + cs.length ≤ a) (hw : WFq V cs (23 + 2 * (6 - o)) true) (n7 : ¬ wrI V a j QW = 7) : BLk V k a0 a j o cs := by
  refine ⟨.ok (a, j, cs), CLboth.out hT n7, ?_, ⟨fun kk pl z => (by cases z), fun a' j' cs' z => ?_⟩, fun a' j' cs' z => ?_⟩
  · intro B d Q C W hPB hWB hok ht ht' he hg cs1 s3 hm hs3
    exact hg _ _ _ rfl cs1 s3 hm hs3
  · obtain ⟨z1, z2, z3⟩ := ok_inj z
    subst z1 z2 z3
    exact ⟨Nat.le_refl _, h1, h2, hl, hw⟩
  · obtain ⟨z1, z2, z3⟩ := ok_inj z
    subst z1 z2
    exact n7
theorem both_loop (hT : TapeR V) {k a0 : Nat} (hkp : kpQ o + 12 = k + 5) (hP : ∀ (a' : Nat) (j' : Int), a0 < a' → a' ≤ tpN V → skE V a' = a' → FactOK V a' j' o) : ∀ (n a : Nat) (j : Int) (cs : List Int), tpN V - a ≤ n → a0 ≤ a → a ≤ tpN V → skE V a = a → a0 + cs.length ≤ a → WFq V cs (23 + 2 * (6 - o)) true → BLk V k a0 a j o cs := by
  intro n
  induction n with
  | zero =>
    intro a j cs hn h0 h1 h2 hl hw
    refine both_end hT h1 h2 hl hw (fun z => ?_)
    have := wr_gt hT h1 h2 z (by decide)
    have := (enE_rng h1).2.1
    omega
  | succ n ih =>
    intro a j cs hn h0 h1 h2 hl hw
    by_cases n7 : wrI V a j QW = 7
    · exact both_go hT hkp h0 h1 h2 hl hw (fun a' j' g => hP a' j' (Nat.lt_of_le_of_lt h0 g)) (fun a2 j2 cs2 g g1 g2 g3 g4 => ih a2 j2 cs2 (by omega) (by omega) g1 g2 g3 g4) n7
    · exact both_end hT h1 h2 hl hw n7
theorem both_ok (hT : TapeR V) (hp : FactOK V a j o) (hP : ∀ (a' : Nat) (j' : Int), a < a' → a' ≤ tpN V → skE V a' = a' → FactOK V a' j' o) : BothOK V a j o := by
  obtain ⟨outp, hCp, hRp, hQp⟩ := hp
  obtain ⟨k, hkp⟩ : ∃ k, kpQ o + 12 = k + 5 := ⟨kpQ o + 7, by omega⟩
  have ek : kpQ o + 15 = k + 8 := by omega
  rw [hkp] at hCp
  unfold BothOK
  rw [ek]
  cases eo : outp with
  | error y =>
    have hE : ∀ x, outp = .error x → (.error y : QO) = .error x := fun x z => by rw [eo] at z; exact z
    have hN : ∀ {a' j' cs'}, ¬ outp = .ok (a', j', cs') := fun z => by rw [eo] at z; cases z
    refine ⟨.error y, c_both hT hCp hE (fun a' j' cs' z => absurd z hN), ?_, ⟨fun kk pl z => hQp.1 kk pl (eo.trans z), fun a' j' cs' z => by cases z⟩, fun a' j' cs' z => by cases z⟩
    intro B d Q C W hPB hWB hok ht ht' he hg
    exact rf_fact hRp hPB hWB hok ht (fun kk pl z => he kk pl (hE _ z)) (fun a' j' cs' z => absurd z hN)
  | ok t =>
    obtain ⟨a2, j2, cs2⟩ := t
    obtain ⟨l1, l2, l3, l4, l5⟩ := hQp.2 _ _ _ eo
    obtain ⟨out, hC, hR, hQ, hop⟩ := both_loop (k := k) (a0 := a) hT hkp hP (tpN V - a2) a2 j2 cs2 (Nat.le_refl _) (by omega) l2 l3 (by omega) (l5.up (by omega))
    have hN : ∀ {x}, ¬ outp = .error x := fun z => by rw [eo] at z; cases z
    refine ⟨out, c_both hT hCp (fun x z => absurd z hN) (fun a' j' cs' z => ?_), ?_, ⟨hQ.1, fun a' j' cs' z => ?_⟩, hop⟩
    · rw [eo] at z
      obtain ⟨z1, z2, z3⟩ := ok_inj z
      subst z1 z2 z3
      exact hC
    · intro B d Q C W hPB hWB hok ht ht' he hg
      refine rf_fact hRp hPB hWB hok ht (fun kk pl z => absurd z hN) (fun a' j' cs' z => ?_)
      rw [eo] at z
      obtain ⟨z1, z2, z3⟩ := ok_inj z
      subst z1 z2 z3
      have := hR B d Q C W hPB hWB hok ht ht' he hg (cs2.map rco) [] (List.append_nil _).symm (fun y hy => by cases hy)
      rw [List.reverse_nil, List.append_nil] at this
      exact this
    · have r := hQ.2 _ _ _ z
      exact ⟨by omega, r.2⟩
theorem test_go (hT : TapeR V) {k a0 : Nat} (hkp : kpQ o + 15 = k + 5) (h0 : a0 ≤ a) (hn : a ≤ tpN V) (hk : skE V a = a) {cs : List Int} (hl : a0 + cs.length ≤ a) (hw : WFq V cs (24 + 2 * (6 - o)) true) (hP : ∀ (a' : Nat) (j' : Int), a < a' → a' ≤ tpN V → skE V a' = a' → BothOK V a' j' o)
    (ih : ∀ (a2 : Nat) (j2 : Int) (cs2 : List Int), a < a2 → a2 ≤ tpN V → skE V a2 = a2 → a0 + cs2.length ≤ a2 → WFq V cs2 (24 + 2 * (6 - o)) true → ¬ wrI V a2 j2 QW = 7 → TLk V k a0 a2 j2 o cs2) (hb : wrI V a j QW = 6) : TLk V k a0 a j o cs := by
  have lt := wr_gt hT hn hk hb (by decide)
  have rg := enE_rng hn
  have sk := skE_rng rg.2.1
  obtain ⟨outp, hCp, hRp, hQp, hopp⟩ := hP (skE V (enE V a)) (enE V a) (by omega) sk.2 (skE_sk rg.2.1)
  rw [hkp] at hCp
  have hlen : ∀ a' j' cs', outp = .ok (a', j', cs') → skE V (enE V a) < a' ∧ skE V (enE V a) + cs'.length ≤ a' := fun a' j' cs' z => ⟨(hQp.2 _ _ _ z).1, (hQp.2 _ _ _ z).2.2.2.1⟩
  cases eo : outp with
  | error y =>
    have hE : ∀ x, outp = .error x → (.error y : QO) = .error x := fun x z => by rw [eo] at z; exact z
    have hN : ∀ {a' j' cs'}, ¬ outp = .ok (a', j', cs') := fun z => by rw [eo] at z; cases z
    refine ⟨.error y, CLtest.go hT hk hb hlen hCp hE (fun a' j' cs' z => absurd z hN), ?_, ⟨fun kk pl z => hQp.1 kk pl (eo.trans z), fun a' j' cs' z => by cases z⟩, fun a' j' cs' z => by cases z⟩
    intro B d Q C W hPB hWB hok ht ht' he hg cs1 s3 hm hs3
    exact gt_or hT hPB hWB hb hs3 ht' (hRp B d Q _ _ hPB hWB (hok.one (by decide)) (Or.inr ⟨W, 11, rfl, by unfold isNt; decide⟩) (Or.inr ⟨W, 11, rfl, by unfold isAn; decide⟩) (fun kk pl z => he kk pl (hE _ z)) (fun a' j' cs' z => absurd z hN))
  | ok t =>
    obtain ⟨a2, j2, cs2⟩ := t
    obtain ⟨l1, l2, l3, l4, l5⟩ := hQp.2 _ _ _ eo
    obtain ⟨out, hC, hR, hQ, hop⟩ := ih a2 j2 (cs ++ (cs2 ++ [-7])) (by omega) l2 l3 (by rw [List.length_append, len_s]; omega) (WFq.bin hw l5 (by omega) (by omega) (by omega) (Or.inr ⟨Or.inl rfl, rfl, rfl⟩) (fun _ => Or.inr (Or.inl rfl))) (hopp _ _ _ eo)
    have hN : ∀ {x}, ¬ outp = .error x := fun z => by rw [eo] at z; cases z
    refine ⟨out, CLtest.go hT hk hb hlen hCp (fun x z => absurd z hN) (fun a' j' cs' z => ?_), ?_, ⟨hQ.1, fun a' j' cs' z => ?_⟩, hop⟩
    · rw [eo] at z
      obtain ⟨z1, z2, z3⟩ := ok_inj z
      subst z1 z2 z3
      exact hC
    · intro B d Q C W hPB hWB hok ht ht' he hg cs1 s3 hm hs3
      refine gt_or hT hPB hWB hb hs3 ht' (hRp B d Q _ _ hPB hWB (hok.one (by decide)) (Or.inr ⟨W, 11, rfl, by unfold isNt; decide⟩) (Or.inr ⟨W, 11, rfl, by unfold isAn; decide⟩) (fun kk pl z => absurd z hN) (fun a' j' cs' z ca t2 hm2 ht2 => ?_))
      rw [eo] at z
      obtain ⟨z1, z2, z3⟩ := ok_inj z
      subst z1 z2 z3
      have := hR B d Q C W hPB hWB hok ht ht' he hg (cs1 ++ s3 ++ ca) (t2 ++ [11]) (by rw [List.map_append, List.map_append, hm, hm2]; simp only [List.append_assoc]; rfl) (fun y hy => by
        rcases List.mem_append.mp hy with h | h
        · exact an_ao (ht2 y h)
        · rw [List.mem_singleton] at h
          exact Or.inr h)
      rw [List.reverse_append, List.reverse_singleton] at this
      simp only [List.append_assoc] at this ⊢
      exact this
    · have r := hQ.2 _ _ _ z
      exact ⟨by omega, r.2⟩
theorem test_end (hT : TapeR V) {k a0 : Nat} {cs : List Int} (h1 : a ≤ tpN V) (h2 : skE V a = a) (hl : a0 + cs.length ≤ a) (hw : WFq V cs (24 + 2 * (6 - o)) true) (n7 : ¬ wrI V a j QW = 7) (n6 : ¬ wrI V a j QW = 6) : TLk V k a0 a j o cs := by
  refine ⟨.ok (a, j, cs), CLtest.out hT n6, ?_, ⟨fun kk pl z => (by cases z), fun a' j' cs' z => ?_⟩, fun a' j' cs' z => ?_⟩
  · intro B d Q C W hPB hWB hok ht ht' he hg cs1 s3 hm hs3
    exact hg _ _ _ rfl cs1 s3 hm hs3
  · obtain ⟨z1, z2, z3⟩ := ok_inj z
    subst z1 z2 z3
    exact ⟨Nat.le_refl _, h1, h2, hl, hw⟩
  · obtain ⟨z1, z2, z3⟩ := ok_inj z
    subst z1 z2
    exact ⟨n7, n6⟩
theorem test_loop (hT : TapeR V) {k a0 : Nat} (hkp : kpQ o + 15 = k + 5) (hP : ∀ (a' : Nat) (j' : Int), a0 < a' → a' ≤ tpN V → skE V a' = a' → BothOK V a' j' o) : ∀ (n a : Nat) (j : Int) (cs : List Int), tpN V - a ≤ n → a0 ≤ a → a ≤ tpN V → skE V a = a → a0 + cs.length ≤ a → WFq V cs (24 + 2 * (6 - o)) true → ¬ wrI V a j QW = 7 → TLk V k a0 a j o cs := by
  intro n
  induction n with
  | zero =>
    intro a j cs hn h0 h1 h2 hl hw n7
    refine test_end hT h1 h2 hl hw n7 (fun z => ?_)
    have := wr_gt hT h1 h2 z (by decide)
    have := (enE_rng h1).2.1
    omega
  | succ n ih =>
    intro a j cs hn h0 h1 h2 hl hw n7
    by_cases n6 : wrI V a j QW = 6
    · exact test_go hT hkp h0 h1 h2 hl hw (fun a' j' g => hP a' j' (Nat.lt_of_le_of_lt h0 g)) (fun a2 j2 cs2 g g1 g2 g3 g4 g5 => ih a2 j2 cs2 (by omega) (by omega) g1 g2 g3 g4 g5) n6
    · exact test_end hT h1 h2 hl hw n7 n6
theorem test_ok (hT : TapeR V) (hp : BothOK V a j o) (hP : ∀ (a' : Nat) (j' : Int), a < a' → a' ≤ tpN V → skE V a' = a' → BothOK V a' j' o) : TestOK V a j o := by
  obtain ⟨outp, hCp, hRp, hQp, hopp⟩ := hp
  obtain ⟨k, hkp⟩ : ∃ k, kpQ o + 15 = k + 5 := ⟨kpQ o + 10, by omega⟩
  have ek : kpQ o + 18 = k + 8 := by omega
  rw [hkp] at hCp
  unfold TestOK
  rw [ek]
  cases eo : outp with
  | error y =>
    have hE : ∀ x, outp = .error x → (.error y : QO) = .error x := fun x z => by rw [eo] at z; exact z
    have hN : ∀ {a' j' cs'}, ¬ outp = .ok (a', j', cs') := fun z => by rw [eo] at z; cases z
    refine ⟨.error y, c_test hT hCp hE (fun a' j' cs' z => absurd z hN), ?_, ⟨fun kk pl z => hQp.1 kk pl (eo.trans z), fun a' j' cs' z => by cases z⟩, fun a' j' cs' z => by cases z⟩
    intro B d Q C W hPB hWB hok ht ht' he hg
    exact hRp B d Q C W hPB hWB hok ht (tpN_mono ht' (fun x => an_ao)) (fun kk pl z => he kk pl (hE _ z)) (fun a' j' cs' z => absurd z hN)
  | ok t =>
    obtain ⟨a2, j2, cs2⟩ := t
    obtain ⟨l1, l2, l3, l4, l5⟩ := hQp.2 _ _ _ eo
    obtain ⟨out, hC, hR, hQ, hop⟩ := test_loop (k := k) (a0 := a) hT hkp hP (tpN V - a2) a2 j2 cs2 (Nat.le_refl _) (by omega) l2 l3 (by omega) (l5.up (by omega)) (hopp _ _ _ eo)
    have hN : ∀ {x}, ¬ outp = .error x := fun z => by rw [eo] at z; cases z
    refine ⟨out, c_test hT hCp (fun x z => absurd z hN) (fun a' j' cs' z => ?_), ?_, ⟨hQ.1, fun a' j' cs' z => ?_⟩, hop⟩
    · rw [eo] at z
      obtain ⟨z1, z2, z3⟩ := ok_inj z
      subst z1 z2 z3
      exact hC
    · intro B d Q C W hPB hWB hok ht ht' he hg
      refine hRp B d Q C W hPB hWB hok ht (tpN_mono ht' (fun x => an_ao)) (fun kk pl z => absurd z hN) (fun a' j' cs' z ca t2 hm2 ht2 => ?_)
      rw [eo] at z
      obtain ⟨z1, z2, z3⟩ := ok_inj z
      subst z1 z2 z3
      exact hR B d Q C W hPB hWB hok ht ht' he hg ca t2 hm2 (fun y hy => an_ao (ht2 y hy))
    · have r := hQ.2 _ _ _ z
      exact ⟨by omega, r.2⟩
/-- all facts, all tests -/
theorem tests_all (hT : TapeR V) (hB : BoatM V) : ∀ (n a : Nat) (j : Int) (o : Nat), tpN V - a ≤ n → a ≤ tpN V → skE V a = a → o ≤ 6 → FactOK V a j o ∧ TestOK V a j o := by
  intro n
  induction n with
  | zero =>
    intro a j o hn h1 h2 ho
    have np := fun (a' : Nat) (h : a < a') (h' : a' ≤ tpN V) => (by omega : False)
    have p1 : FactOK V a j o := fact_ok hT hB h2 h1 ho (fun _ a' j' g g1 _ => (np a' g g1).elim) (fun _ a' j' g g1 _ => (np a' g g1).elim)
    exact ⟨p1, test_ok hT (both_ok hT p1 (fun a' j' g g1 _ => (np a' g g1).elim)) (fun a' j' g g1 _ => (np a' g g1).elim)⟩
  | succ n ih =>
    intro a j o hn h1 h2 ho
    have p1 : FactOK V a j o := fact_ok hT hB h2 h1 ho (fun h a' j' g g1 g2 => (ih a' j' (o + 1) (by omega) g1 g2 h).1) (fun h a' j' g g1 g2 => (ih a' j' (o + 1) (by omega) g1 g2 h).2)
    have pr : ∀ (a' : Nat) (j' : Int), a < a' → a' ≤ tpN V → skE V a' = a' → BothOK V a' j' o := fun a' j' g g1 g2 => both_ok hT (ih a' j' o (by omega) g1 g2 ho).1 (fun a2 j2 h h3 h4 => (ih a2 j2 o (by omega) h3 h4 ho).1)
    exact ⟨p1, test_ok hT (both_ok hT p1 (fun a' j' g g1 g2 => (ih a' j' o (by omega) g1 g2 ho).1)) pr⟩
theorem test_all (hT : TapeR V) (hB : BoatM V) (h1 : a ≤ tpN V) (h2 : skE V a = a) (ho : o ≤ 6) : TestOK V a j o := (tests_all hT hB _ a j o (Nat.le_refl _) h1 h2 ho).2
end QU3
