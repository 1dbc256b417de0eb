/-! the whole state between calls; it is read past scratch cells alone -/
section IV
variable {V H : Hp}
theorem Ptr.vw (h : Ptr V) (hH : Vw V H) : Ptr H := by
  have hs : ptL.all (fun q => !scr q.1 q.2.1) = true := by decide +kernel
  intro q hq
  have := List.all_eq_true.mp hs q hq
  rw [hH q.1 q.2.1 (by simpa using this)]
  exact h q hq
set_option maxRecDepth 20000 in
theorem BoatM.vw (h : BoatM V) (hH : Vw V H) (hP : Ptr V) : BoatM H := by
  have f := hH.f hP
  unfold BoatM eaV nS nR nU nY nN at h ⊢
  simp only [f]
  exact h
set_option maxRecDepth 20000 in
theorem CrewM.vw (h : CrewM V) (hH : Vw V H) (hP : Ptr V) : CrewM H := by
  have f := hH.f hP
  unfold CrewM sdV nS nR nN at h ⊢
  simp only [f]
  exact h
set_option maxRecDepth 20000 in
theorem PlanC.vw {p : Int} (hp : p = 5 ∨ p = 25) (h : PlanC V p) (hH : Vw V H) (hP : Ptr V) : PlanC H p := by
  have f := hH.f hP
  have g := pl_f hH hp hP
  unfold PlanC eaV nS nR nU nY nN at h ⊢
  simp only [f, g]
  exact h
set_option maxRecDepth 20000 in
theorem CrewC.vw (h : CrewC V) (hH : Vw V H) (hP : Ptr V) : CrewC H := by
  have f := hH.f hP
  unfold CrewC sdV nS nN at h ⊢
  simp only [f]
  exact h
set_option maxRecDepth 20000 in
theorem Inq.vw (h : Inq V) (hH : Vw V H) : Inq H := by
  have h4 : H 4 0 = V 4 0 := hH 4 0 rfl
  exact ⟨h.1.vw hH, h.2.1.vw hH h.1, h.2.2.1.vw hH h.1, by rw [h4]; exact h.2.2.2.1.vw h.pp hH h.1, h.2.2.2.2.vw hH h.1⟩
def TapeR (V : Hp) : Prop := (0 ≤ V 2 1 ∧ V 2 1 ≤ 1600) ∧ V 71 1 = V 2 1 ∧ ∀ k : Nat, (k : Int) < V 2 1 → (-128 ≤ V 3 k ∧ V 3 k ≤ 127) ∧ V 72 k = V 3 k % 256
def FltR (V : Hp) : Prop := V 1 11 = V 71 7 ∧ V 1 12 = V 71 8
def RefR (V : Hp) : Prop := ∀ k : Nat, k < 6 → V 70 k = V 73 k
def ImgR (V : Hp) : Prop := (0 ≤ V 71 98 ∧ V 71 98 ≤ 35) ∧ V 4 13 = V 71 98 ∧ ∀ k : Nat, (k : Int) < V 71 98 → (-128 ≤ V 24 k ∧ V 24 k ≤ 127) ∧ V 139 k = V 24 k % 256
set_option maxRecDepth 20000 in
theorem TapeR.vw (h : TapeR V) (hH : Vw V H) (hP : Ptr V) : TapeR H := by
  have f := hH.f hP
  unfold TapeR at h ⊢
  simp only [f]
  exact h
set_option maxRecDepth 20000 in
theorem FltR.vw (h : FltR V) (hH : Vw V H) (hP : Ptr V) : FltR H := by
  have f := hH.f hP
  unfold FltR at h ⊢
  simp only [f]
  exact h
set_option maxRecDepth 20000 in
theorem RefR.vw (h : RefR V) (hH : Vw V H) (hP : Ptr V) : RefR H := by
  have f := hH.f hP
  unfold RefR at h ⊢
  simp only [f]
  exact h
set_option maxRecDepth 20000 in
theorem ImgR.vw (h : ImgR V) (hH : Vw V H) (hP : Ptr V) : ImgR H := by
  have f := hH.f hP
  unfold ImgR at h ⊢
  simp only [f]
  exact h
set_option maxRecDepth 20000 in
theorem Wds.vw (h : Wds V) (hH : Vw V H) : Wds H := by
  have hs : wdL.all (fun q => !scr q.1 q.2.1) = true := by decide +kernel
  intro q hq
  have := List.all_eq_true.mp hs q hq
  rw [hH q.1 q.2.1 (by simpa using this)]
  exact h q hq
set_option maxRecDepth 20000 in
theorem HvOk.vw (h : HvOk V) (hH : Vw V H) (hP : Ptr V) : HvOk H := by
  have f := hH.f hP
  unfold HvOk at h ⊢
  simp only [f]
  exact h
end IV
