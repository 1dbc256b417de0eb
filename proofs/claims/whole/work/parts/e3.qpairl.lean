/-! QUESTIONS: min, max in lockstep: the faults before the pair -/
section QL5
variable {V : Hp} {a : Nat} {j : Int} {o : Nat}
theorem p_pair0 (hT : TapeR V) (hk : skE V a = a) (ho6 : o ≤ 6) {w : Int} (hw : wrI V a j QW = w) (h3 : w = 15 ∨ w = 16) (h40 : ¬ bz V (skE V (enE V a)) = 40) : PartOK V a j o := by
  refine ⟨.error (1, (skE V (enE V a) : Int)), (c_pair (k := kpQ o - 9) (outA := .error (1, 0)) hT hk hw h3 (fun _ => rfl) (fun z => absurd z h40) (fun z => absurd z h40) (fun z => absurd z h40) (fun z => absurd z h40) (fun z => absurd z h40)).up (by unfold kpQ; omega), ?_, qf_er (by decide)⟩
  intro B d K L E C W0 r o' b hPB hWB hc h1 h2 h3' h4 he hg
  rcases h3 with rfl | rfl
  · exact k_min hT hPB hWB hc hw ho6 (fun _ => he _ _ rfl) (fun z => absurd z h40) (fun z => absurd z h40)
  · exact k_max hT hPB hWB hc hw ho6 (fun _ => he _ _ rfl) (fun z => absurd z h40) (fun z => absurd z h40)
theorem p_pairN (hT : TapeR V) (hk : skE V a = a) (ho6 : o ≤ 6) {w : Int} (hw : wrI V a j QW = w) (h3 : w = 15 ∨ w = 16) (h40 : bz V (skE V (enE V a)) = 40) (ho : ¬ o < 6) : PartOK V a j o := by
  refine ⟨.error (4, (skE V (enE V a) : Int)), (c_pair (k := kpQ o - 9) (outA := .error (1, 0)) hT hk hw h3 (fun z => absurd h40 z) (fun _ _ => rfl) (fun _ z => absurd z ho) (fun _ z => absurd z ho) (fun _ z => absurd z ho) (fun _ z => absurd z ho)).up (by unfold kpQ; omega), ?_, qf_er (by decide)⟩
  intro B d K L E C W0 r o' b hPB hWB hc h1 h2 h3' h4 he hg
  rcases h3 with rfl | rfl
  · exact k_min hT hPB hWB hc hw ho6 (fun z => absurd h40 z) (fun _ _ => he _ _ rfl) (fun _ z => absurd z ho)
  · exact k_max hT hPB hWB hc hw ho6 (fun z => absurd h40 z) (fun _ _ => he _ _ rfl) (fun _ z => absurd z ho)
end QL5
