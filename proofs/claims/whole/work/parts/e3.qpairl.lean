/-! QUESTIONS: min, max in lockstep: the faults before the pair -/
section QL5
variable {V : Hp} {a : Nat} {j : Int} {o : Nat}
theorem p_pair0 (hT : TapeR V) (hk : skE V a = a) (ho6 : o ≤ 6) {w : Int} (hw : wrI V a j QW = w) (h3 : w = 15 ∨ w = 16) (h40 : ¬ bz V (skE V (enE V a)) = 40) : PartOK V a j o := by
  refine ⟨.error (1, (skE V (enE V a) : Int)), (c_pair (k := kpQ o - 9) (outA := .error (1, 0)) hT hk hw h3 (fun _ => rfl) (fun z => absurd z h40) (fun z => absurd z h40) (fun z => absurd z h40) (fun z => absurd z h40) (fun z => absurd z h40)).up (by unfold kpQ; omega), ?_, qf_er (by decide)⟩
  intro B d K L E C W0 r o' b hPB hWB hc h1 h2 h3' h4 he hg
  rcases h3 with rfl | rfl
  · exact k_min hT hPB hWB hc hw ho6 (fun _ => he _ _ rfl) (fun z => absurd z h40) (fun z => absurd z h40)
  · exact k_max hT hPB hWB hc hw ho6 (fun _ => he _ _ rfl) (fun z => absurd z h40) (fun z => absurd z h40)
theorem p_pairN (hT : TapeR V) (hk : skE V a = a) (ho6 : o ≤ 6) {w : Int} (hw : wrI V a j QW = w) (h3 : w = 15 ∨ w = 16) (h40 : bz V (skE V (enE V a)) = 40) (ho : ¬ o < 6) : PartOK V a j o := by
  refine ⟨.error (4, (skE V (enE V a) : Int)), (c_pair (k := kpQ o - 9) (outA := .error (1, 0)) hT hk hw h3 (fun z => absurd h40 z) (fun _ _ => rfl) (fun _ z => absurd z ho) (fun _ z => absurd z ho) (fun _ z => absurd z ho) (fun _ z => absurd z ho)).up (by unfold kpQ; omega), ?_, qf_er (by decide)⟩
  intro B d K L E C W0 r o' b hPB hWB hc h1 h2 h3' h4 he hg
  rcases h3 with rfl | rfl
  · exact k_min hT hPB hWB hc hw ho6 (fun z => absurd h40 z) (fun _ _ => he _ _ rfl) (fun _ z => absurd z ho)
  · exact k_max hT hPB hWB hc hw ho6 (fun z => absurd h40 z) (fun _ _ => he _ _ rfl) (fun _ z => absurd z ho)
theorem p_pairE (hT : TapeR V) (hk : skE V a = a) (ho6 : o ≤ 6) {w : Int} (hw : wrI V a j QW = w) (h3 : w = 15 ∨ w = 16) (h40 : bz V (skE V (enE V a)) = 40) (ho : o < 6) {outA out : QO}
    (hCA : CQ V QU_sum (kpQ (o + 1) + 6) (skE V (skE V (enE V a) + 1)) (enE V a) (o + 1) outA) (hR : RSum V (skE V (skE V (enE V a) + 1)) (enE V a) (o + 1) outA)
    (hop : ∀ a' j' cs, outA = .ok (a', j', cs) → ¬ bz V a' = 42 ∧ ¬ bz V a' = 47 ∧ ¬ bz V a' = 43 ∧ ¬ bz V a' = 45)
    (hE : ∀ x, outA = .error x → out = .error x) (hC : ∀ a2 j2 cs1, outA = .ok (a2, j2, cs1) → out = .error (1, (a2 : Int))) (hC4 : ∀ a2 j2 cs1, outA = .ok (a2, j2, cs1) → ¬ bz V a2 = 44) : CQ V QU_part (kpQ o) a j o out ∧ RPart V a j o out := by
  have kp := kp_s ho
  refine ⟨(c_pair (k := kpQ (o + 1) + 1) hT hk hw h3 (fun z => absurd h40 z) (fun _ z => absurd ho z) (fun _ _ => hCA) (fun _ _ => hE) (fun _ _ a2 j2 cs1 z _ => hC a2 j2 cs1 z) (fun _ _ a2 j2 cs1 z y => absurd y (hC4 _ _ _ z))).up (by omega), ?_⟩
  intro B d K L E C W0 r o' b hPB hWB hc h1 h2 h3' h4 he hg
  have lw : ∀ n : Int, b ≤ ((W0 ++ r.reverse) ++ [n]).length := fun n => by rw [len_s, List.length_append]; omega
  have tw : ∀ n : Int, isBr n → (((W0 ++ r.reverse) ++ [n]).length = b → tpN' ((W0 ++ r.reverse) ++ [n]) isOp) → tpW ((W0 ++ r.reverse) ++ [n]) b isBr ∧ (((W0 ++ r.reverse) ++ [n]).length = b → tpN' ((W0 ++ r.reverse) ++ [n]) isOp) := fun n hn y => ⟨Or.inr ⟨_, n, rfl, hn⟩, y⟩
  have lz : ∀ n : Int, ((W0 ++ r.reverse) ++ [n]).length = b → tpN' ((W0 ++ r.reverse) ++ [n]) isOp := fun n z => by rw [len_s, List.length_append] at z; omega
  rcases h3 with rfl | rfl
  · exact k_min hT hPB hWB hc hw ho6 (fun z => absurd h40 z) (fun _ z => absurd ho z) (fun _ _ => hR B d K L E C _ b hPB hWB hc (lw 21) (tw 21 ⟨by decide, by decide⟩ (lz 21)) (fun kk pl z => he kk pl (hE _ z)) (fun a' j' cs z cs1 s hm hs' => by
      obtain ⟨n42, n47, n43, n45⟩ := hop _ _ _ z
      exact g_failC hT hPB hc (br := 21) (Or.inl rfl) (BrW.mk (by rw [List.length_append]; omega) (by unfold isBr; omega) (fun x hx => op_nb (hs' x hx))) n42 n47 n43 n45 (hC4 _ _ _ z) (he _ _ (hC _ _ _ z))))
  · exact k_max hT hPB hWB hc hw ho6 (fun z => absurd h40 z) (fun _ z => absurd ho z) (fun _ _ => hR B d K L E C _ b hPB hWB hc (lw 22) (tw 22 ⟨by decide, by decide⟩ (lz 22)) (fun kk pl z => he kk pl (hE _ z)) (fun a' j' cs z cs1 s hm hs' => by
      obtain ⟨n42, n47, n43, n45⟩ := hop _ _ _ z
      exact g_failC hT hPB hc (br := 22) (Or.inr rfl) (BrW.mk (by rw [List.length_append]; omega) (by unfold isBr; omega) (fun x hx => op_nb (hs' x hx))) n42 n47 n43 n45 (hC4 _ _ _ z) (he _ _ (hC _ _ _ z))))
theorem p_pairB (hT : TapeR V) (hk : skE V a = a) (ho6 : o ≤ 6) {w : Int} (hw : wrI V a j QW = w) (h3 : w = 15 ∨ w = 16) (h40 : bz V (skE V (enE V a)) = 40) (ho : o < 6) {outA outB out : QO} {a2 : Nat} {j2 : Int} {cs1 : List Int}
    (hCA : CQ V QU_sum (kpQ (o + 1) + 6) (skE V (skE V (enE V a) + 1)) (enE V a) (o + 1) outA) (hR : RSum V (skE V (skE V (enE V a) + 1)) (enE V a) (o + 1) outA) (eA : outA = .ok (a2, j2, cs1)) (c44 : bz V a2 = 44)
    (hCB : CQ V QU_sum (kpQ (o + 1) + 6) (skE V (a2 + 1)) j2 (o + 1) outB) (hRB : RSum V (skE V (a2 + 1)) j2 (o + 1) outB)
    (hopB : ∀ a' j' cs, outB = .ok (a', j', cs) → ¬ bz V a' = 42 ∧ ¬ bz V a' = 47 ∧ ¬ bz V a' = 43 ∧ ¬ bz V a' = 45)
    (hl : ∀ a3 j3 cs2, outB = .ok (a3, j3, cs2) → a + cs1.length + cs2.length ≤ a3) (eO : out = quS V 41 (fun c => cs1 ++ (c ++ [-1 - w])) outB) : CQ V QU_part (kpQ o) a j o out ∧ RPart V a j o out := by
  have kp := kp_s ho
  refine ⟨(c_pair (k := kpQ (o + 1) + 1) hT hk hw h3 (fun z => absurd h40 z) (fun _ z => absurd ho z) (fun _ _ => hCA) (fun _ _ x z => by rw [eA] at z; cases z) (fun _ _ a3 j3 cs3 z y => by
    rw [eA] at z
    have z := Except.ok.inj z
    obtain ⟨z1, z2⟩ := Prod.mk.inj z
    exact absurd (z1 ▸ c44) y) (fun _ _ a3 j3 cs3 z y => by
    rw [eA] at z
    have z := Except.ok.inj z
    obtain ⟨z1, z2⟩ := Prod.mk.inj z
    obtain ⟨z2, z3⟩ := Prod.mk.inj z2
    subst z1 z2 z3
    exact ⟨outB, hCB, eO, hl⟩)).up (by omega), ?_⟩
  intro B d K L E C W0 r o' b hPB hWB hc h1 h2 h3' h4 he hg
  have lw : ∀ n : Int, b ≤ ((W0 ++ r.reverse) ++ [n]).length := fun n => by rw [len_s, List.length_append]; omega
  have tw : ∀ n : Int, isBr n → (((W0 ++ r.reverse) ++ [n]).length = b → tpN' ((W0 ++ r.reverse) ++ [n]) isOp) → tpW ((W0 ++ r.reverse) ++ [n]) b isBr ∧ (((W0 ++ r.reverse) ++ [n]).length = b → tpN' ((W0 ++ r.reverse) ++ [n]) isOp) := fun n hn y => ⟨Or.inr ⟨_, n, rfl, hn⟩, y⟩
  have lz : ∀ n : Int, ((W0 ++ r.reverse) ++ [n]).length = b → tpN' ((W0 ++ r.reverse) ++ [n]) isOp := fun n z => by rw [len_s, List.length_append] at z; omega
  rcases h3 with rfl | rfl
  · exact k_min hT hPB hWB hc hw ho6 (fun z => absurd h40 z) (fun _ z => absurd ho z) (fun _ _ => hR B d K L E C _ b hPB hWB hc (lw 21) (tw 21 ⟨by decide, by decide⟩ (lz 21)) (fun kk pl z => by rw [eA] at z; cases z) (fun a' j' cs z ca s hm hs' => by
      rw [eA] at z
      have z := Except.ok.inj z
      obtain ⟨z1, z2⟩ := Prod.mk.inj z
      obtain ⟨z2, z3⟩ := Prod.mk.inj z2
      subst z1 z2 z3
      refine g_comma hT hPB hc (br := 21) (Or.inl rfl) (fun x hx => op_nb (hs' x hx)) (by rw [List.length_append]; omega) c44 ?_
      refine hRB B d K L E _ _ b hPB hWB hc (lw 23) (tw 23 ⟨by decide, by decide⟩ (lz 23)) (fun kk pl z => he kk pl (by rw [eO, z]; try rfl)) (fun a' j' cs z cb s2 hm2 hs2' => ?_)
      have nb : ∀ x ∈ s2, ¬ isBr x := fun x hx => op_nb (hs2' x hx)
      by_cases c : bz V a' = 41
      · refine g_close hT hPB (o' := o') (Or.inr (Or.inl ⟨rfl, rfl⟩)) nb h3' h4 h2 (by omega) (by omega) c ?_
        have := hg _ _ _ (by rw [eO, z]; exact if_pos c)
        have e1 : ((cs1 ++ (cs ++ [(-16 : Int)])).map rco) = (ca ++ s) ++ ((cb ++ s2) ++ [5]) := by rw [List.map_append, List.map_append, hm, hm2]; rfl
        rw [show (-1 - 15 : Int) = -16 from rfl] at this
        rw [e1] at this
        simp only [List.append_assoc] at this ⊢
        exact this
      · obtain ⟨q1, q2, q3, q4⟩ := hopB _ _ _ z
        exact g_failR hT hPB hc (br := 23) (by decide) (BrW.mk (by rw [List.length_append]; omega) ⟨by decide, by decide⟩ nb) q1 q2 q3 q4 c (he _ _ (by rw [eO, z]; exact if_neg c))))
  · exact k_max hT hPB hWB hc hw ho6 (fun z => absurd h40 z) (fun _ z => absurd ho z) (fun _ _ => hR B d K L E C _ b hPB hWB hc (lw 22) (tw 22 ⟨by decide, by decide⟩ (lz 22)) (fun kk pl z => by rw [eA] at z; cases z) (fun a' j' cs z ca s hm hs' => by
      rw [eA] at z
      have z := Except.ok.inj z
      obtain ⟨z1, z2⟩ := Prod.mk.inj z
      obtain ⟨z2, z3⟩ := Prod.mk.inj z2
      subst z1 z2 z3
      refine g_comma hT hPB hc (br := 22) (Or.inr rfl) (fun x hx => op_nb (hs' x hx)) (by rw [List.length_append]; omega) c44 ?_
      refine hRB B d K L E _ _ b hPB hWB hc (lw 24) (tw 24 ⟨by decide, by decide⟩ (lz 24)) (fun kk pl z => he kk pl (by rw [eO, z]; try rfl)) (fun a' j' cs z cb s2 hm2 hs2' => ?_)
      have nb : ∀ x ∈ s2, ¬ isBr x := fun x hx => op_nb (hs2' x hx)
      by_cases c : bz V a' = 41
      · refine g_close hT hPB (o' := o') (Or.inr (Or.inr ⟨rfl, rfl⟩)) nb h3' h4 h2 (by omega) (by omega) c ?_
        have := hg _ _ _ (by rw [eO, z]; exact if_pos c)
        have e1 : ((cs1 ++ (cs ++ [(-17 : Int)])).map rco) = (ca ++ s) ++ ((cb ++ s2) ++ [6]) := by rw [List.map_append, List.map_append, hm, hm2]; rfl
        rw [show (-1 - 16 : Int) = -17 from rfl] at this
        rw [e1] at this
        simp only [List.append_assoc] at this ⊢
        exact this
      · obtain ⟨q1, q2, q3, q4⟩ := hopB _ _ _ z
        exact g_failR hT hPB hc (br := 24) (by decide) (BrW.mk (by rw [List.length_append]; omega) ⟨by decide, by decide⟩ nb) q1 q2 q3 q4 c (he _ _ (by rw [eO, z]; exact if_neg c))))
end QL5
