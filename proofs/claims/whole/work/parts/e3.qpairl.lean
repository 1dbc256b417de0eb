/-! QUESTIONS: min, max in lockstep: the faults before the pair -/
section QL5
variable {V : Hp} {a : Nat} {j : Int} {o : Nat}
theorem p_pair0 (hT : TapeR V) (hk : skE V a = a) (ho6 : o ≤ 6) {w : Int} (hw : wrI V a j QW = w) (h3 : w = 15 ∨ w = 16) (h40 : ¬ bz V (skE V (enE V a)) = 40) : PartOK V a j o := by
  refine ⟨.error (1, (skE V (enE V a) : Int)), (c_pair (k := kpQ o - 9) (outA := .error (1, 0)) hT hk hw h3 (fun _ => rfl) (fun z => absurd z h40) (fun z => absurd z h40) (fun z => absurd z h40) (fun z => absurd z h40) (fun z => absurd z h40)).up (by unfold kpQ; omega), ?_, qf_er (by decide)⟩
  intro B d K L E C W0 r o' b hPB hWB hc h1 h2 h3' h4 he hg
  rcases h3 with rfl | rfl
  · exact k_min hT hPB hWB hc hw ho6 (fun _ => he _ _ rfl) (fun z => absurd z h40) (fun z => absurd z h40)
  · exact k_max hT hPB hWB hc hw ho6 (fun _ => he _ _ rfl) (fun z => absurd z h40) (fun z => absurd z h40)
theorem p_pairN (hT : TapeR V) (hk : skE V a = a) (ho6 : o ≤ 6) {w : Int} (hw : wrI V a j QW = w) (h3 : w = 15 ∨ w = 16) (h40 : bz V (skE V (enE V a)) = 40) (ho : ¬ o < 6) : PartOK V a j o := by
  refine ⟨.error (4, (skE V (enE V a) : Int)), (c_pair (k := kpQ o - 9) (outA := .error (1, 0)) hT hk hw h3 (fun z => absurd h40 z) (fun _ _ => rfl) (fun _ z => absurd z ho) (fun _ z => absurd z ho) (fun _ z => absurd z ho) (fun _ z => absurd z ho)).up (by unfold kpQ; omega), ?_, qf_er (by decide)⟩
  intro B d K L E C W0 r o' b hPB hWB hc h1 h2 h3' h4 he hg
  rcases h3 with rfl | rfl
  · exact k_min hT hPB hWB hc hw ho6 (fun z => absurd h40 z) (fun _ _ => he _ _ rfl) (fun _ z => absurd z ho)
  · exact k_max hT hPB hWB hc hw ho6 (fun z => absurd h40 z) (fun _ _ => he _ _ rfl) (fun _ z => absurd z ho)
theorem p_pairE (hT : TapeR V) (hk : skE V a = a) (ho6 : o ≤ 6) {w : Int} (hw : wrI V a j QW = w) (h3 : w = 15 ∨ w = 16) (h40 : bz V (skE V (enE V a)) = 40) (ho : o < 6) {outA out : QO}
    (hCA : CQ V QU_sum (kpQ (o + 1) + 6) (skE V (skE V (enE V a) + 1)) (enE V a) (o + 1) outA) (hR : RSum V (skE V (skE V (enE V a) + 1)) (enE V a) (o + 1) outA)
    (hop : ∀ a' j' cs, outA = .ok (a', j', cs) → ¬ bz V a' = 42 ∧ ¬ bz V a' = 47 ∧ ¬ bz V a' = 43 ∧ ¬ bz V a' = 45)
    (hE : ∀ x, outA = .error x → out = .error x) (hC : ∀ a2 j2 cs1, outA = .ok (a2, j2, cs1) → out = .error (1, (a2 : Int))) (hC4 : ∀ a2 j2 cs1, outA = .ok (a2, j2, cs1) → ¬ bz V a2 = 44) : CQ V QU_part (kpQ o) a j o out ∧ RPart V a j o out := by
  have kp := kp_s ho
  refine ⟨(c_pair (k := kpQ (o + 1) + 1) hT hk hw h3 (fun z => absurd h40 z) (fun _ z => absurd ho z) (fun _ _ => hCA) (fun _ _ => hE) (fun _ _ a2 j2 cs1 z _ => hC a2 j2 cs1 z) (fun _ _ a2 j2 cs1 z y => absurd y (hC4 _ _ _ z))).up (by omega), ?_⟩
  intro B d K L E C W0 r o' b hPB hWB hc h1 h2 h3' h4 he hg
  have lw : ∀ n : Int, b ≤ ((W0 ++ r.reverse) ++ [n]).length := fun n => by rw [len_s, List.length_append]; omega
  have tw : ∀ n : Int, isBr n → (((W0 ++ r.reverse) ++ [n]).length = b → tpN' ((W0 ++ r.reverse) ++ [n]) isOp) → tpW ((W0 ++ r.reverse) ++ [n]) b isBr ∧ (((W0 ++ r.reverse) ++ [n]).length = b → tpN' ((W0 ++ r.reverse) ++ [n]) isOp) := fun n hn y => ⟨Or.inr ⟨_, n, rfl, hn⟩, y⟩
  have lz : ∀ n : Int, ((W0 ++ r.reverse) ++ [n]).length = b → tpN' ((W0 ++ r.reverse) ++ [n]) isOp := fun n z => by rw [len_s, List.length_append] at z; omega
  rcases h3 with rfl | rfl
  · exact k_min hT hPB hWB hc hw ho6 (fun z => absurd h40 z) (fun _ z => absurd ho z) (fun _ _ => hR B d K L E C _ b hPB hWB hc (lw 21) (tw 21 ⟨by decide, by decide⟩ (lz 21)) (fun kk pl z => he kk pl (hE _ z)) (fun a' j' cs z cs1 s hm hs' => by
      obtain ⟨n42, n47, n43, n45⟩ := hop _ _ _ z
      exact g_failC hT hPB hc (br := 21) (Or.inl rfl) (BrW.mk (by rw [List.length_append]; omega) (by unfold isBr; omega) (fun x hx => op_nb (hs' x hx))) n42 n47 n43 n45 (hC4 _ _ _ z) (he _ _ (hC _ _ _ z))))
  · exact k_max hT hPB hWB hc hw ho6 (fun z => absurd h40 z) (fun _ z => absurd ho z) (fun _ _ => hR B d K L E C _ b hPB hWB hc (lw 22) (tw 22 ⟨by decide, by decide⟩ (lz 22)) (fun kk pl z => he kk pl (hE _ z)) (fun a' j' cs z cs1 s hm hs' => by
      obtain ⟨n42, n47, n43, n45⟩ := hop _ _ _ z
      exact g_failC hT hPB hc (br := 22) (Or.inr rfl) (BrW.mk (by rw [List.length_append]; omega) (by unfold isBr; omega) (fun x hx => op_nb (hs' x hx))) n42 n47 n43 n45 (hC4 _ _ _ z) (he _ _ (hC _ _ _ z))))
end QL5
