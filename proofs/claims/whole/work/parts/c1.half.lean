/-! THE BOAT'S TEXT: the state stands on the second halves alone -/
def S2h (V W : Hp) : Prop := ∀ a b, 91 ≤ a → a ≤ 106 → fh a b = false → W a b = V a b
section PX1
variable {V W : Hp} {p : Int}
theorem S2h.n (s : S2h V W) {j : Int} (hj : 4 ≤ j) : W 91 j = V 91 j := s 91 j (by decide) (by decide) (decide_eq_false (by omega))
theorem S2h.k (s : S2h V W) {a : Int} (ha : 92 ≤ a ∧ a ≤ 97 ∨ 105 ≤ a ∧ a ≤ 106) (k : Nat) : W a (12 + k) = V a (12 + k) := s a _ (by omega) (by omega) (decide_eq_false (by omega))
theorem S2h.q (s : S2h V W) {a : Int} (ha : 100 ≤ a ∧ a ≤ 101) (k : Nat) : W a (4 + k) = V a (4 + k) := s a _ (by omega) (by omega) (decide_eq_false (by omega))
theorem S2h.o (s : S2h V W) {a : Int} (ha : 98 ≤ a ∧ a ≤ 99) : W a 1 = V a 1 := s a _ (by omega) (by omega) (decide_eq_false (by omega))
theorem S2h.r (s : S2h V W) {a : Int} (ha : 103 ≤ a ∧ a ≤ 104) (k : Nat) : W a (8 + k) = V a (8 + k) := s a _ (by omega) (by omega) (decide_eq_false (by omega))
theorem S2h.d (s : S2h V W) (r k : Nat) : W 102 (96 + 12 * r + k) = V 102 (96 + 12 * r + k) := s 102 _ (by decide) (by decide) (decide_eq_false (by omega))
theorem S2h.t (s : S2h V W) : nS W = nS V ∧ nR W = nR V ∧ nU W = nU V ∧ nY W = nY V := by
  unfold nS nR nU nY nN
  rw [s.n (by decide), s.n (by decide), s.n (by decide), s.n (by decide)]
  exact ⟨rfl, rfl, rfl, rfl⟩
theorem S2h.ea (s : S2h V W) (e46 : W 71 46 = V 71 46) : eaV W = eaV V := by
  unfold eaV
  rw [e46, s.o (by decide)]
theorem BoatM.half (h : BoatM V) (s : S2h V W) (e46 : W 71 46 = V 71 46) : BoatM W := by
  obtain ⟨t0, t1, t2, t3⟩ := s.t
  unfold BoatM
  rw [t0, t1, t2, t3, s.ea e46, s.n (by decide), s.n (by decide), s.n (by decide), s.n (by decide), e46, s.o (by decide)]
  refine ⟨h.s, h.r, h.u, h.y, fun k hk => by rw [s.k (by decide)]; exact h.place k hk, fun k hk => by rw [s.k (by decide)]; exact h.arm k hk, fun k hk => by rw [s.k (by decide)]; exact h.fix k hk, fun k hk => by rw [s.k (by decide)]; exact h.str k hk, fun k hk => by rw [s.k (by decide)]; exact h.tire k hk, h.told, h.each, h.near, fun q hq => by rw [s.q (by decide)]; exact h.isw q hq, fun q hq h1 => by rw [s.q (by decide)] at h1 ⊢; exact h.want q hq h1, fun k hk => by rw [s.r (by decide)]; exact h.rpow k hk, fun k hk => by rw [s.r (by decide)]; exact h.rsw k hk, fun k hk => by rw [s.k (by decide)]; exact h.paid k hk, fun k hk => by rw [s.k (by decide)]; exact h.paidOn k hk⟩
theorem CrewM.half (h : CrewM V) (s : S2h V W) (e107 : W 107 = V 107) (e47 : W 71 47 = V 71 47) (e48 : W 71 48 = V 71 48) (e49 : W 71 49 = V 71 49) (e57 : W 71 57 = V 71 57) : CrewM W := by
  obtain ⟨t0, t1, t2, t3⟩ := s.t
  have e96 : W 96 12 = V 96 12 := s.k (a := 96) (by decide) 0
  have e97 : W 97 12 = V 97 12 := s.k (a := 97) (by decide) 0
  have ed : sdV W = sdV V := by unfold sdV; rw [e49]
  unfold CrewM at h ⊢
  rw [t0, t1, ed, e107, e47, e48, e49, e57, e96, e97]
  exact h
theorem PlanC.half (h : PlanC V p) (s : S2h V W) (e46 : W 71 46 = V 71 46) (ep : ∀ a, p ≤ a → a ≤ p + 12 → W a = V a) : PlanC W p := by
  obtain ⟨t0, t1, t2, t3⟩ := s.t
  have e0 := ep p (by omega) (by omega)
  have e1 := ep (p + 1) (by omega) (by omega)
  have e2 := ep (p + 2) (by omega) (by omega)
  have e3 := ep (p + 3) (by omega) (by omega)
  have e5 := ep (p + 5) (by omega) (by omega)
  have e6 := ep (p + 6) (by omega) (by omega)
  have e7 := ep (p + 7) (by omega) (by omega)
  have e8 := ep (p + 8) (by omega) (by omega)
  have e9 := ep (p + 9) (by omega) (by omega)
  have e10 := ep (p + 10) (by omega) (by omega)
  have e11 := ep (p + 11) (by omega) (by omega)
  have e12 := ep (p + 12) (by omega) (by omega)
  have k92 : ∀ k : Nat, W 92 (12 + k) = V 92 (12 + k) := s.k (by decide)
  have k93 : ∀ k : Nat, W 93 (12 + k) = V 93 (12 + k) := s.k (by decide)
  have k94 : ∀ k : Nat, W 94 (12 + k) = V 94 (12 + k) := s.k (by decide)
  have k96 : ∀ k : Nat, W 96 (12 + k) = V 96 (12 + k) := s.k (by decide)
  have k97 : ∀ k : Nat, W 97 (12 + k) = V 97 (12 + k) := s.k (by decide)
  have k105 : ∀ k : Nat, W 105 (12 + k) = V 105 (12 + k) := s.k (by decide)
  have k106 : ∀ k : Nat, W 106 (12 + k) = V 106 (12 + k) := s.k (by decide)
  have q100 : ∀ k : Nat, W 100 (4 + k) = V 100 (4 + k) := s.q (by decide)
  have q101 : ∀ k : Nat, W 101 (4 + k) = V 101 (4 + k) := s.q (by decide)
  have r103 : ∀ k : Nat, W 103 (8 + k) = V 103 (8 + k) := s.r (by decide)
  have r104 : ∀ k : Nat, W 104 (8 + k) = V 104 (8 + k) := s.r (by decide)
  have d102 : ∀ r k : Nat, W 102 (96 + 12 * r + k) = V 102 (96 + 12 * r + k) := s.d
  have o99 := s.o (a := 99) (by decide)
  unfold PlanC at h ⊢
  rw [t0, t1, t2, t3, s.ea e46, e0, e1, e2, e3, e5, e6, e7, e8, e9, e10, e11, e12, o99]
  simp only [k92, k93, k94, k96, k97, k105, k106, q100, q101, r103, r104, d102]
  exact h
theorem NamR.half (h : NamR V) (s : S2h V W) (e40 : W 4 0 = V 4 0) (ep : W (V 4 0 + 4) = V (V 4 0 + 4)) : NamR W := by
  obtain ⟨t0, t1, t2, t3⟩ := s.t
  have k95 : ∀ k : Nat, W 95 (12 + k) = V 95 (12 + k) := s.k (by decide)
  unfold NamR at h ⊢
  rw [t1, e40, ep]
  simp only [k95]
  exact h
theorem TriR.half (h : TriR V) (s : S2h V W) (e7 : W 58 7 = V 58 7) (e8 : W 58 8 = V 58 8) (e64 : W 64 = V 64) (e65 : W 65 = V 65) : TriR W := by
  obtain ⟨t0, t1, t2, t3⟩ := s.t
  have k92 : ∀ k : Nat, W 92 (12 + k) = V 92 (12 + k) := s.k (by decide)
  have k93 : ∀ k : Nat, W 93 (12 + k) = V 93 (12 + k) := s.k (by decide)
  have r103 : ∀ k : Nat, W 103 (8 + k) = V 103 (8 + k) := s.r (by decide)
  have r104 : ∀ k : Nat, W 104 (8 + k) = V 104 (8 + k) := s.r (by decide)
  have el : lvr W = lvr V := by funext q k; unfold lvr; rw [k92, k93]
  have ep : pwV W = pwV V := by funext r; unfold pwV; rw [r103]
  have es : sidV W = sidV V := by funext r k; unfold sidV; rw [s.d]
  have em : mnV W = mnV V := by unfold mnV; rw [t0, t1]
  have ea : aTr W = aTr V := by funext r k; unfold aTr; rw [em, es, el, ep]
  have et : totT W = totT V := by funext r t k; unfold totT; rw [ea, r104]
  have ef : fitT W = fitT V := by funext t; unfold fitT; rw [t2, et, t1, s.o (by decide)]
  have eS : SolV W = SolV V := by funext t; unfold SolV; rw [t1, ef]
  have ec : cntV W = cntV V := by unfold cntV; rw [ef, t1]
  unfold TriR LstOk MstOk at h ⊢
  rw [e7, e8, e64, e65, t1, ec, eS]
  exact h
theorem ActR.half (h : ActR V) (s : S2h V W) (e4 : ∀ b, b = 10 ∨ b = 11 → W 4 b = V 4 b) (e71 : ∀ b, 47 ≤ b → b ≤ 56 → W 71 b = V 71 b) (e107 : W 107 = V 107) (e20 : W 20 = V 20) (e21 : W 21 = V 21) (e22 : W 22 = V 22) (e23 : W 23 = V 23) (e108 : W 108 = V 108) (e109 : W 109 = V 109) (e110 : W 110 = V 110) (e111 : W 111 = V 111) : ActR W := by
  obtain ⟨t0, t1, t2, t3⟩ := s.t
  have k94 : ∀ k : Nat, W 94 (12 + k) = V 94 (12 + k) := s.k (by decide)
  have x56 := e71 56 (by decide) (by decide)
  have g1 : ∀ i, snK W i = snK V i := fun i => by cases i <;> simp only [snK, e71 47 (by decide) (by decide), x56, e108]
  have g2 : ∀ i, snH W i = snH V i := fun i => by cases i <;> simp only [snH, e71 48 (by decide) (by decide), x56, e109]
  have g3 : ∀ i, snD W i = snD V i := fun i => by cases i <;> simp only [snD, e71 49 (by decide) (by decide), x56, e110]
  have g4 : ∀ i, snS W i = snS V i := fun i => by funext k; cases i <;> simp only [snS, e107, x56, e111]
  unfold ActR ActI OkI at h ⊢
  simp only [t0, t1, e4 10 (Or.inl rfl), e4 11 (Or.inr rfl), x56, e71 55 (by decide) (by decide), e20, e21, e22, e23, k94, g1, g2, g3, g4]
  exact h
end PX1
