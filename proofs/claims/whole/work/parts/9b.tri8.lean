/-! strengths: the reference; the pair -/
theorem dg_ex : ∀ (n : Nat) (t : Nat → Int), (∀ k, k < n → 1 ≤ t k ∧ t k ≤ 9) → ∃ m, m < 9 ^ n ∧ ∀ k, k < n → dgT m k = t k
  | 0, t, _ => ⟨0, by decide, fun k hk => absurd hk (Nat.not_lt_zero k)⟩
  | n + 1, t, h => by
    obtain ⟨m, m1, m2⟩ := dg_ex n (fun k => t (k + 1)) (fun k hk => h (k + 1) (Nat.succ_lt_succ hk))
    have h0 := h 0 (Nat.succ_pos n)
    obtain ⟨x, hx⟩ := Int.eq_ofNat_of_zero_le (show 0 ≤ t 0 - 1 by omega)
    have hx9 : x < 9 := by omega
    refine ⟨9 * m + x, ?_, fun k hk => ?_⟩
    · rw [Nat.pow_succ]
      generalize 9 ^ n = y at m1 ⊢
      omega
    · cases k with
      | zero => rw [dgT_0 hx9]; omega
      | succ k => rw [dgT_s hx9]; exact m2 k (Nat.lt_of_succ_lt_succ hk)
theorem fitT_cg {V : Hp} {t t' : Nat → Int} (e : ∀ k, k < nR V → t k = t' k) : fitT V t = fitT V t' := by
  have ht : ∀ r, totT V r t (nR V) = totT V r t' (nR V) := fun r => by
    unfold totT
    rw [show sumI (fun j => aTr V r j * t j) (nR V) = sumI (fun j => aTr V r j * t' j) (nR V) from sumI_cg fun j hj => by rw [e j hj]]
  unfold fitT
  simp only [ht]
theorem lst_num {V : Hp} {q : Nat} (hq : q < nR V) {v : Int} : (∃ t, SolV V t ∧ t q ≤ v) ↔ ∃ m, m < 9 ^ nR V ∧ fitT V (dgT m) = true ∧ dgT m q ≤ v := by
  constructor
  · rintro ⟨t, ⟨t1, t2⟩, t3⟩
    obtain ⟨m, m1, m2⟩ := dg_ex (nR V) t t1
    exact ⟨m, m1, by rw [fitT_cg m2]; exact t2, by rw [m2 q hq]; exact t3⟩
  · rintro ⟨m, m1, m2, m3⟩
    exact ⟨dgT m, ⟨fun k _ => dgT_rng m k, m2⟩, m3⟩
theorem mst_num {V : Hp} {q : Nat} (hq : q < nR V) {v : Int} : (∃ t, SolV V t ∧ v ≤ t q) ↔ ∃ m, m < 9 ^ nR V ∧ fitT V (dgT m) = true ∧ v ≤ dgT m q := by
  constructor
  · rintro ⟨t, ⟨t1, t2⟩, t3⟩
    obtain ⟨m, m1, m2⟩ := dg_ex (nR V) t t1
    exact ⟨m, m1, by rw [fitT_cg m2]; exact t2, by rw [m2 q hq]; exact t3⟩
  · rintro ⟨m, m1, m2, m3⟩
    exact ⟨dgT m, ⟨fun k _ => dgT_rng m k, m2⟩, m3⟩
theorem tot_rng {V : Hp} (hM : Inm V) {r : Nat} (hr : r < nU V) {t : Nat → Int} (ht : ∀ k, 1 ≤ t k ∧ t k ≤ 9) : ∀ n : Nat, -(9 * bX * n) ≤ sumI (fun j => aTr V r j * t j) n ∧ sumI (fun j => aTr V r j * t j) n ≤ 9 * bX * n := by
  intro n
  induction n with
  | zero => exact ⟨by show -(9 * bX * 0) ≤ (0 : Int); decide, by show (0 : Int) ≤ 9 * bX * 0; decide⟩
  | succ n ih =>
    have ha := aTr_rng hM (k := n) hr
    have hm := mul_bnd (a := aTr V r n) (ht n).1 (ht n).2
    have e : 9 * bX * ((n + 1 : Nat) : Int) = 9 * bX * n + 9 * bX := by push_cast; grind
    rw [e]
    show _ ≤ sumI (fun j => aTr V r j * t j) n + aTr V r n * t n ∧ sumI (fun j => aTr V r j * t j) n + aTr V r n * t n ≤ _
    generalize 9 * bX * (n : Int) = y at ih ⊢
    generalize aTr V r n * t n = z at hm ⊢
    unfold bX at ha ⊢
    omega
theorem unf_fit {V : Hp} (hM : Inm V) (hnR : nR V ≤ 6) {t : Nat → Int} (ht : ∀ k, 1 ≤ t k ∧ t k ≤ 9) : (unfO V t (taV V) = none) ↔ fitT V t = true := by
  rw [unf_none]
  unfold fitT
  rw [decide_eq_true_eq]
  have key : ∀ r, r < nU V → (abL (fitG V t (taV V) r) ≤ V 99 1 ↔ (-V 99 1 ≤ totT V r t (nR V) ∧ totT V r t (nR V) ≤ V 99 1)) := fun r hr => by
    have es : sumI (fitW V t (taV V) r) (mnV V) = sumI (fun j => aTr V r j * t j) (nR V) := by
      rw [sumI_ext (f := fun j => aTr V r j * t j) (n := mnV V) (m := nR V) (Nat.min_le_right _ _) (fun k h1 _ => by
        show aTr V r k * t k = 0
        unfold aTr
        rw [if_neg (Nat.not_lt.mpr h1), Int.zero_mul])]
      refine sumI_cg fun k hk => ?_
      unfold fitW aTr taV lvr
      rw [if_pos hk]
      generalize sidV V r k = a
      generalize V 93 (12 + (k : Int)) = b
      generalize V 92 (12 + (k : Int)) ^ pwV V r = c
      generalize t k = e
      grind
    have hb := tot_rng hM hr ht (nR V)
    have h6 : 9 * bX * (nR V : Int) ≤ 9 * bX * 6 := Int.mul_le_mul_of_nonneg_left (Int.ofNat_le.mpr hnR) (by decide)
    have hw := hM.boat.rsw r hr
    have eg : fitG V t (taV V) r = totT V r t (nR V) := by
      unfold fitG totT
      rw [es]
      generalize sumI (fun j => aTr V r j * t j) (nR V) = x at hb ⊢
      unfold bX at hb h6
      exact w64_id (by omega) (by omega)
    rw [eg]
    have htr : -10000000000 ≤ totT V r t (nR V) ∧ totT V r t (nR V) ≤ 10000000000 := by
      unfold totT
      generalize sumI (fun j => aTr V r j * t j) (nR V) = x at hb ⊢
      unfold bX at hb h6
      omega
    generalize totT V r t (nR V) = x at htr ⊢
    unfold abL
    by_cases c : x < 0
    · rw [if_pos c, w64_id (by omega) (by omega)]
      have := hM.boat.near
      omega
    · rw [if_neg c]
      have := hM.boat.near
      omega
  exact ⟨fun h r hr => (key r hr).mp (h r hr), fun h r hr => (key r hr).mpr (h r hr)⟩
theorem lst_uq {V : Hp} {q : Nat} {L L' : Int} (h : LstOk V q L) (h' : LstOk V q L') : L = L' := Int.le_antisymm ((h L').mpr ((h' L').mp (Int.le_refl _))) ((h' L).mpr ((h L).mp (Int.le_refl _)))
theorem mst_uq {V : Hp} {q : Nat} {L L' : Int} (h : MstOk V q L) (h' : MstOk V q L') : L = L' := Int.le_antisymm ((h' L).mpr ((h L).mp (Int.le_refl _))) ((h L').mpr ((h' L').mp (Int.le_refl _)))
def cnN (V : Hp) (m : Nat) : Int := sumI (fun m => if fitT V (dgT m) = true then 1 else 0) m
theorem cnN_rng (V : Hp) (m : Nat) : 0 ≤ cnN V m ∧ cnN V m ≤ m := by
  induction m with
  | zero => exact ⟨Int.le_refl _, Int.le_refl _⟩
  | succ m ih =>
    show 0 ≤ cnN V m + (if fitT V (dgT m) = true then 1 else 0) ∧ cnN V m + (if fitT V (dgT m) = true then 1 else 0) ≤ _
    split <;> omega
def lmS (V H : Hp) (m : Nat) : Prop := cnN V m ≠ 0 → ∀ q : Nat, q < nR V → (∀ v : Int, H 117 q ≤ v ↔ ∃ m', m' < m ∧ fitT V (dgT m') = true ∧ dgT m' q ≤ v) ∧ ∀ v : Int, v ≤ H 118 q ↔ ∃ m', m' < m ∧ fitT V (dgT m') = true ∧ v ≤ dgT m' q
theorem cnN_0 {V : Hp} {m : Nat} (h : cnN V m = 0) : ∀ m', m' < m → ¬ fitT V (dgT m') = true := by
  induction m with
  | zero => intro m' hm; exact absurd hm (Nat.not_lt_zero m')
  | succ m ih =>
    have hr := cnN_rng V m
    have h : cnN V m + (if fitT V (dgT m) = true then 1 else 0) = 0 := h
    intro m' hm hf
    by_cases e : m' = m
    · subst e; rw [if_pos hf] at h; omega
    · refine ih ?_ m' (Nat.lt_of_le_of_ne (Nat.le_of_lt_succ hm) e) hf
      split at h <;> omega
