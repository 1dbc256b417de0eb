/-! strengths: the count by numbers, by rowers; bounds -/
def bX : Int := 96059601
theorem aTr_rng {V : Hp} (hM : Inm V) {r k : Nat} (hr : r < nU V) : -bX ≤ aTr V r k ∧ aTr V r k ≤ bX := by
  unfold aTr bX
  by_cases h : k < mnV V
  · rw [if_pos h]
    have hl := lvr_rng hM (pw_lt hM hr).2 (Nat.lt_of_lt_of_le h (Nat.min_le_left _ _))
    generalize lvr V (pwV V r) k = x at hl ⊢
    rcases sid_rng V r k with e | e | e <;> rw [e] <;> omega
  · rw [if_neg h]; decide
theorem sumI_front {f : Nat → Int} : ∀ {n : Nat}, sumI f (n + 1) = f 0 + sumI (fun i => f (i + 1)) n
  | 0 => by show 0 + f 0 = f 0 + 0; omega
  | n + 1 => by
    show sumI f (n + 1) + f (n + 1) = f 0 + (sumI (fun i => f (i + 1)) n + f (n + 1))
    rw [sumI_front]; omega
theorem sumI_add {f g : Nat → Int} : ∀ {n : Nat}, sumI (fun i => f i + g i) n = sumI f n + sumI g n
  | 0 => rfl
  | n + 1 => by
    show sumI (fun i => f i + g i) n + (f n + g n) = sumI f n + f n + (sumI g n + g n)
    rw [sumI_add]; omega
theorem sumI_9 {g : Nat → Int} : ∀ {M : Nat}, sumI g (9 * M) = sumI (fun x => sumI (fun m => g (9 * m + x)) M) 9
  | 0 => by
    show (0 : Int) = sumI (fun x => 0) 9
    rfl
  | M + 1 => by
    have h := sumI_9 (g := g) (M := M)
    have e : sumI (fun x => sumI (fun m => g (9 * m + x)) (M + 1)) 9 = sumI (fun x => sumI (fun m => g (9 * m + x)) M) 9 + sumI (fun x => g (9 * M + x)) 9 := sumI_add
    rw [e, ← h, show 9 * (M + 1) = 9 * M + 1 + 1 + 1 + 1 + 1 + 1 + 1 + 1 + 1 by omega]
    simp only [sumI, Nat.add_zero]
    have a1 : 9 * M + 1 + 1 = 9 * M + 2 := by omega
    have a2 : 9 * M + 2 + 1 = 9 * M + 3 := by omega
    have a3 : 9 * M + 3 + 1 = 9 * M + 4 := by omega
    have a4 : 9 * M + 4 + 1 = 9 * M + 5 := by omega
    have a5 : 9 * M + 5 + 1 = 9 * M + 6 := by omega
    have a6 : 9 * M + 6 + 1 = 9 * M + 7 := by omega
    have a7 : 9 * M + 7 + 1 = 9 * M + 8 := by omega
    rw [a1, a2, a3, a4, a5, a6, a7]
    omega
def okG (V : Hp) (gp : Nat → Int) : Bool := decide (∀ r : Nat, r < nU V → -V 99 1 ≤ gp r ∧ gp r ≤ V 99 1)
def stG2 (V : Hp) (gp : Nat → Int) (k : Nat) (x : Int) : Nat → Int := fun r => gp r + aTr V r k * x
def cntG (V : Hp) : Nat → Nat → (Nat → Int) → Int
  | 0, _, gp => if okG V gp = true then 1 else 0
  | j + 1, k, gp => sumI (fun x => cntG V j (k + 1) (stG2 V gp k ((x : Int) + 1))) 9
def addG (V : Hp) (gp t : Nat → Int) (k j : Nat) : Nat → Int := fun r => gp r + sumI (fun i => aTr V r (k + i) * t (k + i)) j
def SolG (V : Hp) (j k : Nat) (gp t : Nat → Int) : Prop := (∀ i, i < j → 1 ≤ t (k + i) ∧ t (k + i) ≤ 9) ∧ okG V (addG V gp t k j) = true
theorem addG_s {V : Hp} {gp t : Nat → Int} {k j : Nat} : addG V gp t k (j + 1) = addG V (stG2 V gp k (t k)) t (k + 1) j := by
  funext r
  unfold addG stG2
  rw [sumI_front, Nat.add_zero, Int.add_assoc]
  refine congrArg (fun z => gp r + (aTr V r k * t k + z)) (sumI_cg fun i _ => ?_)
  rw [show k + (i + 1) = k + 1 + i by omega]
theorem SolG_s {V : Hp} {gp t : Nat → Int} {k j : Nat} : SolG V (j + 1) k gp t ↔ (1 ≤ t k ∧ t k ≤ 9) ∧ SolG V j (k + 1) (stG2 V gp k (t k)) t := by
  unfold SolG
  rw [addG_s]
  constructor
  · rintro ⟨h1, h2⟩
    exact ⟨h1 0 (Nat.succ_pos j), fun i hi => by have := h1 (i + 1) (Nat.succ_lt_succ hi); rwa [show k + (i + 1) = k + 1 + i by omega] at this, h2⟩
  · rintro ⟨h0, h1, h2⟩
    refine ⟨fun i hi => ?_, h2⟩
    cases i with
    | zero => exact h0
    | succ i => have := h1 i (Nat.lt_of_succ_lt_succ hi); rwa [show k + 1 + i = k + (i + 1) by omega] at this
theorem SolG_cg {V : Hp} {gp t t' : Nat → Int} {k j : Nat} (e : ∀ i, i < j → t (k + i) = t' (k + i)) : SolG V j k gp t ↔ SolG V j k gp t' := by
  have ea : addG V gp t k j = addG V gp t' k j := by
    funext r
    unfold addG
    exact congrArg (fun z => gp r + z) (sumI_cg fun i hi => by rw [e i hi])
  unfold SolG
  rw [ea]
  exact ⟨fun ⟨h1, h2⟩ => ⟨fun i hi => by rw [← e i hi]; exact h1 i hi, h2⟩, fun ⟨h1, h2⟩ => ⟨fun i hi => by rw [e i hi]; exact h1 i hi, h2⟩⟩
/-- one more strength ahead -/
theorem SolG_ex {V : Hp} {gp : Nat → Int} {k j : Nat} (P : (Nat → Int) → Prop) (hP : ∀ t t' : Nat → Int, (∀ q, k ≤ q → q < k + (j + 1) → t q = t' q) → P t → P t') : (∃ t, SolG V (j + 1) k gp t ∧ P t) ↔ ∃ x : Nat, x < 9 ∧ ∃ t, SolG V j (k + 1) (stG2 V gp k ((x : Int) + 1)) t ∧ P (fun q => if q = k then (x : Int) + 1 else t q) := by
  constructor
  · rintro ⟨t, h1, h2⟩
    obtain ⟨h3, h4⟩ := SolG_s.mp h1
    obtain ⟨x, hx⟩ := Int.eq_ofNat_of_zero_le (show 0 ≤ t k - 1 by omega)
    have hx' : t k = (x : Int) + 1 := by omega
    refine ⟨x, by omega, t, by rw [← hx']; exact h4, hP t _ (fun q _ _ => ?_) h2⟩
    by_cases e : q = k
    · subst e; rw [if_pos rfl]; exact hx'
    · rw [if_neg e]
  · rintro ⟨x, hx, t, h1, h2⟩
    refine ⟨fun q => if q = k then (x : Int) + 1 else t q, SolG_s.mpr ⟨?_, ?_⟩, h2⟩
    · simp only [if_true]; omega
    · simp only [if_true]
      refine (SolG_cg fun i hi => ?_).mp h1
      rw [if_neg (by omega)]
theorem cntG_rng {V : Hp} : ∀ {j k : Nat} {gp : Nat → Int}, 0 ≤ cntG V j k gp ∧ cntG V j k gp ≤ ((9 ^ j : Nat) : Int)
  | 0, k, gp => by
    unfold cntG
    split <;> decide
  | j + 1, k, gp => by
    have h : ∀ n : Nat, 0 ≤ sumI (fun x => cntG V j (k + 1) (stG2 V gp k ((x : Int) + 1))) n ∧ sumI (fun x => cntG V j (k + 1) (stG2 V gp k ((x : Int) + 1))) n ≤ n * ((9 ^ j : Nat) : Int) := by
      intro n
      induction n with
      | zero => show (0 : Int) ≤ 0 ∧ (0 : Int) ≤ ((0 : Nat) : Int) * _; rw [show ((0 : Nat) : Int) = 0 from rfl, Int.zero_mul]; decide
      | succ n ih =>
        have hc := cntG_rng (V := V) (j := j) (k := k + 1) (gp := stG2 V gp k ((n : Int) + 1))
        show 0 ≤ sumI (fun x => cntG V j (k + 1) (stG2 V gp k ((x : Int) + 1))) n + cntG V j (k + 1) (stG2 V gp k ((n : Int) + 1)) ∧ sumI (fun x => cntG V j (k + 1) (stG2 V gp k ((x : Int) + 1))) n + cntG V j (k + 1) (stG2 V gp k ((n : Int) + 1)) ≤ _
        have e : ((n + 1 : Nat) : Int) * ((9 ^ j : Nat) : Int) = n * ((9 ^ j : Nat) : Int) + ((9 ^ j : Nat) : Int) := by push_cast; grind
        rw [e]
        generalize (n : Int) * ((9 ^ j : Nat) : Int) = y at ih ⊢
        omega
    have h9 := h 9
    have e : ((9 ^ (j + 1) : Nat) : Int) = ((9 : Nat) : Int) * ((9 ^ j : Nat) : Int) := by rw [Nat.pow_succ, Nat.mul_comm]; push_cast; rfl
    rw [e]
    exact h9
theorem sum_pos {f : Nat → Int} (h0 : ∀ x, 0 ≤ f x) : ∀ {n : Nat}, 0 < sumI f n ↔ ∃ x, x < n ∧ 0 < f x
  | 0 => ⟨fun h => absurd h (Int.lt_irrefl 0), fun ⟨x, hx, _⟩ => absurd hx (Nat.not_lt_zero x)⟩
  | n + 1 => by
    have hs : 0 ≤ sumI f n := by
      induction n with
      | zero => exact Int.le_refl _
      | succ n ih => exact Int.add_nonneg ih (h0 n)
    show 0 < sumI f n + f n ↔ _
    constructor
    · intro h
      by_cases c : 0 < f n
      · exact ⟨n, Nat.lt_succ_self n, c⟩
      · obtain ⟨x, x1, x2⟩ := (sum_pos h0).mp (show 0 < sumI f n by have := h0 n; omega)
        exact ⟨x, Nat.lt_succ_of_lt x1, x2⟩
    · rintro ⟨x, x1, x2⟩
      have := h0 n
      by_cases e : x = n
      · subst e; omega
      · have := (sum_pos h0 (n := n)).mpr ⟨x, Nat.lt_of_le_of_ne (Nat.le_of_lt_succ x1) e, x2⟩
        omega
theorem cntG_pos {V : Hp} : ∀ {j k : Nat} {gp : Nat → Int}, 0 < cntG V j k gp ↔ ∃ t, SolG V j k gp t
  | 0, k, gp => by
    have e : ∀ t, addG V gp t k 0 = gp := fun t => by funext r; show gp r + 0 = gp r; omega
    unfold cntG SolG
    by_cases h : okG V gp = true
    · rw [if_pos h]
      exact ⟨fun _ => ⟨fun _ => 1, fun i hi => absurd hi (Nat.not_lt_zero i), by rw [e]; exact h⟩, fun _ => by decide⟩
    · rw [if_neg h]
      exact ⟨fun z => absurd z (by decide), fun ⟨t, _, h2⟩ => absurd (by rw [e] at h2; exact h2) h⟩
  | j + 1, k, gp => by
    show 0 < sumI (fun x => cntG V j (k + 1) (stG2 V gp k ((x : Int) + 1))) 9 ↔ _
    rw [sum_pos (fun x => cntG_rng.1)]
    have := SolG_ex (V := V) (gp := gp) (k := k) (j := j) (fun _ => True) (fun _ _ _ _ => trivial)
    constructor
    · rintro ⟨x, x1, x2⟩
      obtain ⟨t, ht⟩ := cntG_pos.mp x2
      obtain ⟨t', h1, -⟩ := this.mpr ⟨x, x1, t, ht, trivial⟩
      exact ⟨t', h1⟩
    · rintro ⟨t, ht⟩
      obtain ⟨x, x1, t', h1, -⟩ := this.mp ⟨t, ht, trivial⟩
      exact ⟨x, x1, cntG_pos.mpr ⟨t', h1⟩⟩
theorem dgT_0 {m x : Nat} (hx : x < 9) : dgT (9 * m + x) 0 = (x : Int) + 1 := by
  unfold dgT
  rw [Nat.pow_zero, Nat.div_one, Nat.mul_add_mod, Nat.mod_eq_of_lt hx]
  omega
theorem dgT_s {m x i : Nat} (hx : x < 9) : dgT (9 * m + x) (i + 1) = dgT m i := by
  unfold dgT
  rw [Nat.pow_succ, Nat.mul_comm (9 ^ i) 9, ← Nat.div_div_eq_div_mul, Nat.mul_add_div (by decide), Nat.div_eq_of_lt hx, Nat.add_zero]
theorem cntG_num {V : Hp} : ∀ {j k : Nat} {gp : Nat → Int}, cntG V j k gp = sumI (fun m => if okG V (fun r => gp r + sumI (fun i => aTr V r (k + i) * dgT m i) j) = true then 1 else 0) (9 ^ j)
  | 0, k, gp => by
    have e : (fun r => gp r + sumI (fun i => aTr V r (k + i) * dgT 0 i) 0) = gp := by funext r; show gp r + 0 = gp r; omega
    show (if okG V gp = true then 1 else 0) = 0 + (if okG V (fun r => gp r + sumI (fun i => aTr V r (k + i) * dgT 0 i) 0) = true then 1 else 0)
    rw [e, Int.zero_add]
  | j + 1, k, gp => by
    rw [Nat.pow_succ, Nat.mul_comm (9 ^ j) 9, sumI_9]
    show sumI (fun x => cntG V j (k + 1) (stG2 V gp k ((x : Int) + 1))) 9 = _
    refine sumI_cg fun x hx => ?_
    rw [cntG_num]
    refine sumI_cg fun m _ => ?_
    have e : (fun r => stG2 V gp k ((x : Int) + 1) r + sumI (fun i => aTr V r (k + 1 + i) * dgT m i) j) = (fun r => gp r + sumI (fun i => aTr V r (k + i) * dgT (9 * m + x) i) (j + 1)) := by
      funext r
      unfold stG2
      rw [sumI_front, Nat.add_zero, dgT_0 hx, Int.add_assoc]
      refine congrArg (fun z => gp r + (aTr V r k * ((x : Int) + 1) + z)) (sumI_cg fun i _ => ?_)
      rw [dgT_s hx, show k + (i + 1) = k + 1 + i by omega]
    rw [e]
def gp0 (V : Hp) : Nat → Int := fun r => -V 104 (8 + r)
theorem okG_tot {V : Hp} {t : Nat → Int} : okG V (fun r => gp0 V r + sumI (fun i => aTr V r (0 + i) * t i) (nR V)) = fitT V t := by
  have e : (fun r : Nat => gp0 V r + sumI (fun i => aTr V r (0 + i) * t i) (nR V)) = fun r => totT V r t (nR V) := by
    funext r
    unfold gp0 totT
    rw [show sumI (fun i => aTr V r (0 + i) * t i) (nR V) = sumI (fun j => aTr V r j * t j) (nR V) from sumI_cg fun i _ => by rw [Nat.zero_add]]
    omega
  rw [e]
  rfl
theorem cnt_all (V : Hp) : cntG V (nR V) 0 (gp0 V) = cntV V := by
  rw [cntG_num]
  unfold cntV
  refine sumI_cg fun m _ => ?_
  rw [okG_tot]
theorem sol_all {V : Hp} {t : Nat → Int} : SolG V (nR V) 0 (gp0 V) t ↔ SolV V t := by
  unfold SolG SolV
  have e : addG V (gp0 V) t 0 (nR V) = fun r => gp0 V r + sumI (fun i => aTr V r (0 + i) * t i) (nR V) := by
    funext r
    unfold addG
    exact congrArg (fun z => gp0 V r + z) (sumI_cg fun i _ => by rw [Nat.zero_add i])
  rw [e, okG_tot]
  exact ⟨fun ⟨h1, h2⟩ => ⟨fun k hk => by have := h1 k hk; rwa [Nat.zero_add] at this, h2⟩, fun ⟨h1, h2⟩ => ⟨fun k hk => by rw [Nat.zero_add]; exact h1 k hk, h2⟩⟩

/-! noted strengths; what bounds tell -/
def NoL (V : Hp) (j k : Nat) (gp : Nat → Int) (q : Nat) (L L' : Int) : Prop := ∀ v : Int, L' ≤ v ↔ L ≤ v ∨ ∃ t, SolG V j k gp t ∧ t q ≤ v
def NoM (V : Hp) (j k : Nat) (gp : Nat → Int) (q : Nat) (G G' : Int) : Prop := ∀ v : Int, v ≤ G' ↔ v ≤ G ∨ ∃ t, SolG V j k gp t ∧ v ≤ t q
def loB (V : Hp) (r k j : Nat) : Int := sumI (fun i => min (aTr V r (k + i) * 1) (aTr V r (k + i) * 9)) j
def hiB (V : Hp) (r k j : Nat) : Int := sumI (fun i => max (aTr V r (k + i) * 1) (aTr V r (k + i) * 9)) j
theorem mul_bnd {a x : Int} (h1 : 1 ≤ x) (h2 : x ≤ 9) : min (a * 1) (a * 9) ≤ a * x ∧ a * x ≤ max (a * 1) (a * 9) := by
  by_cases h : 0 ≤ a
  · have e1 := Int.mul_le_mul_of_nonneg_left h1 h
    have e2 := Int.mul_le_mul_of_nonneg_left h2 h
    generalize a * x = y at *
    omega
  · have e1 := Int.mul_le_mul_of_nonpos_left (a := a) (by omega) h1
    have e2 := Int.mul_le_mul_of_nonpos_left (a := a) (by omega) h2
    generalize a * x = y at *
    omega
theorem sum_bnd {V : Hp} {r k : Nat} {t : Nat → Int} : ∀ {j : Nat}, (∀ i, i < j → 1 ≤ t (k + i) ∧ t (k + i) ≤ 9) → loB V r k j ≤ sumI (fun i => aTr V r (k + i) * t (k + i)) j ∧ sumI (fun i => aTr V r (k + i) * t (k + i)) j ≤ hiB V r k j
  | 0, _ => ⟨Int.le_refl _, Int.le_refl _⟩
  | j + 1, h => by
    have ih := sum_bnd (V := V) (r := r) (k := k) (t := t) (j := j) (fun i hi => h i (Nat.lt_succ_of_lt hi))
    have hj := h j (Nat.lt_succ_self j)
    have hm := mul_bnd (a := aTr V r (k + j)) hj.1 hj.2
    exact ⟨Int.add_le_add ih.1 hm.1, Int.add_le_add ih.2 hm.2⟩
theorem sol_never {V : Hp} {j k r : Nat} {gp : Nat → Int} (hr : r < nU V) (h : gp r + hiB V r k j < -V 99 1 ∨ V 99 1 < gp r + loB V r k j) : ∀ t, ¬ SolG V j k gp t := fun t ht => by
  have hb := sum_bnd (V := V) (r := r) (k := k) (t := t) ht.1
  have ho : -V 99 1 ≤ addG V gp t k j r ∧ addG V gp t k j r ≤ V 99 1 := of_decide_eq_true ht.2 r hr
  unfold addG at ho
  omega
theorem sol_always {V : Hp} {j k : Nat} {gp t : Nat → Int} (h : ∀ r, r < nU V → -V 99 1 ≤ gp r + loB V r k j ∧ gp r + hiB V r k j ≤ V 99 1) (ht : ∀ i, i < j → 1 ≤ t (k + i) ∧ t (k + i) ≤ 9) : SolG V j k gp t := by
  refine ⟨ht, decide_eq_true fun r hr => ?_⟩
  have hb := sum_bnd (V := V) (r := r) (k := k) (t := t) ht
  have := h r hr
  unfold addG
  omega
theorem sum_one {f : Nat → Int} : ∀ {n : Nat}, (∀ m, m < n → f m = 1) → sumI f n = n
  | 0, _ => rfl
  | n + 1, h => by
    show sumI f n + f n = _
    rw [sum_one (fun m hm => h m (Nat.lt_succ_of_lt hm)), h n (Nat.lt_succ_self n)]
    omega
theorem dgT_rng (m i : Nat) : 1 ≤ dgT m i ∧ dgT m i ≤ 9 := by
  unfold dgT
  have := Nat.mod_lt (m / 9 ^ i) (show 0 < 9 by decide)
  generalize m / 9 ^ i % 9 = y at *
  omega
theorem cnt_always {V : Hp} {j k : Nat} {gp : Nat → Int} (h : ∀ r, r < nU V → -V 99 1 ≤ gp r + loB V r k j ∧ gp r + hiB V r k j ≤ V 99 1) : cntG V j k gp = ((9 ^ j : Nat) : Int) := by
  rw [cntG_num]
  refine sum_one fun m _ => if_pos ?_
  have hs := sol_always (V := V) (t := fun q => dgT m (q - k)) h (fun i _ => dgT_rng m (k + i - k))
  have e : addG V gp (fun q => dgT m (q - k)) k j = fun r => gp r + sumI (fun i => aTr V r (k + i) * dgT m i) j := by
    funext r
    unfold addG
    refine congrArg (fun z => gp r + z) (sumI_cg fun i _ => ?_)
    show aTr V r (k + i) * dgT m (k + i - k) = _
    rw [Nat.add_sub_cancel_left]
  rw [← e]
  exact hs.2
theorem cnt_none {V : Hp} {j k : Nat} {gp : Nat → Int} (h : ∀ t, ¬ SolG V j k gp t) : cntG V j k gp = 0 := by
  have h1 := cntG_rng (V := V) (j := j) (k := k) (gp := gp)
  have h2 : ¬ 0 < cntG V j k gp := fun z => by
    obtain ⟨t, ht⟩ := cntG_pos.mp z
    exact h t ht
  omega
theorem NoL_none {V : Hp} {j k q : Nat} {gp : Nat → Int} {L : Int} (h : ∀ t, ¬ SolG V j k gp t) : NoL V j k gp q L L := fun _ => ⟨fun z => Or.inl z, fun z => z.elim id (fun ⟨t, ht, _⟩ => absurd ht (h t))⟩
theorem NoM_none {V : Hp} {j k q : Nat} {gp : Nat → Int} {G : Int} (h : ∀ t, ¬ SolG V j k gp t) : NoM V j k gp q G G := fun _ => ⟨fun z => Or.inl z, fun z => z.elim id (fun ⟨t, ht, _⟩ => absurd ht (h t))⟩
theorem NoL_all {V : Hp} {j k i : Nat} {gp : Nat → Int} {L : Int} (hi : i < j) (h : ∀ r, r < nU V → -V 99 1 ≤ gp r + loB V r k j ∧ gp r + hiB V r k j ≤ V 99 1) : NoL V j k gp (k + i) L (min L 1) := fun v => by
  constructor
  · intro z
    by_cases c : L ≤ v
    · exact Or.inl c
    · exact Or.inr ⟨fun _ => 1, sol_always h (fun _ _ => by decide), by show (1 : Int) ≤ v; omega⟩
  · rintro (z | ⟨t, ht, z⟩)
    · omega
    · have := (ht.1 i hi).1; omega
theorem NoM_all {V : Hp} {j k i : Nat} {gp : Nat → Int} {G : Int} (hi : i < j) (h : ∀ r, r < nU V → -V 99 1 ≤ gp r + loB V r k j ∧ gp r + hiB V r k j ≤ V 99 1) : NoM V j k gp (k + i) G (max G 9) := fun v => by
  constructor
  · intro z
    by_cases c : v ≤ G
    · exact Or.inl c
    · exact Or.inr ⟨fun _ => 9, sol_always h (fun _ _ => by decide), by show v ≤ (9 : Int); omega⟩
  · rintro (z | ⟨t, ht, z⟩)
    · omega
    · have := (ht.1 i hi).2; omega
/-- one rower left: his strengths are those between two bounds -/
theorem sol_last {V : Hp} {k : Nat} {gp t : Nat → Int} : SolG V 1 k gp t ↔ (1 ≤ t k ∧ t k ≤ 9) ∧ ∀ r, r < nU V → -V 99 1 ≤ gp r + aTr V r k * t k ∧ gp r + aTr V r k * t k ≤ V 99 1 := by
  have e : addG V gp t k 1 = fun r => gp r + aTr V r k * t k := by
    funext r
    show gp r + (0 + aTr V r (k + 0) * t (k + 0)) = _
    rw [Int.zero_add, Nat.add_zero]
  unfold SolG
  rw [e]
  constructor
  · rintro ⟨h1, h2⟩
    exact ⟨h1 0 (by decide), of_decide_eq_true h2⟩
  · rintro ⟨h1, h2⟩
    refine ⟨fun i hi => ?_, decide_eq_true h2⟩
    obtain rfl : i = 0 := by omega
    exact h1
theorem fl_bnd {N s z x : Int} (hz : 0 < z) : (-N ≤ s + z * x ∧ s + z * x ≤ N) ↔ (-((N + s) / z) ≤ x ∧ x ≤ (N - s) / z) := by
  have h1 : x ≤ (N - s) / z ↔ x * z ≤ N - s := Int.le_ediv_iff_mul_le hz
  have h2 : -x ≤ (N + s) / z ↔ -x * z ≤ N + s := Int.le_ediv_iff_mul_le hz
  have e1 : z * x = x * z := Int.mul_comm z x
  have e2 : -x * z = -(x * z) := Int.neg_mul x z
  rw [e1]
  rw [e2] at h2
  generalize x * z = y at *
  constructor
  · rintro ⟨a, b⟩
    have := h1.mpr (by omega)
    have := h2.mpr (by omega)
    omega
  · rintro ⟨a, b⟩
    have := h1.mp b
    have := h2.mp (by omega)
    omega
def frB (V : Hp) (k : Nat) (gp : Nat → Int) : Nat → Int
  | 0 => 1
  | r + 1 => if aTr V r k = 0 then frB V k gp r else max (frB V k gp r) (-((V 99 1 + (if aTr V r k < 0 then -gp r else gp r)) / (if aTr V r k < 0 then -aTr V r k else aTr V r k)))
def toB (V : Hp) (k : Nat) (gp : Nat → Int) : Nat → Int
  | 0 => 9
  | r + 1 => if aTr V r k = 0 then toB V k gp r else min (toB V k gp r) ((V 99 1 - (if aTr V r k < 0 then -gp r else gp r)) / (if aTr V r k < 0 then -aTr V r k else aTr V r k))
theorem frB_s {V : Hp} {k n : Nat} {gp : Nat → Int} : frB V k gp (n + 1) = if aTr V n k = 0 then frB V k gp n else max (frB V k gp n) (-((V 99 1 + (if aTr V n k < 0 then -gp n else gp n)) / (if aTr V n k < 0 then -aTr V n k else aTr V n k))) := rfl
theorem toB_s {V : Hp} {k n : Nat} {gp : Nat → Int} : toB V k gp (n + 1) = if aTr V n k = 0 then toB V k gp n else min (toB V k gp n) ((V 99 1 - (if aTr V n k < 0 then -gp n else gp n)) / (if aTr V n k < 0 then -aTr V n k else aTr V n k)) := rfl
theorem ft_iff {V : Hp} {k : Nat} {gp : Nat → Int} {x : Int} : ∀ {n : Nat}, (∀ r, r < n → aTr V r k = 0 → -V 99 1 ≤ gp r ∧ gp r ≤ V 99 1) → ((frB V k gp n ≤ x ∧ x ≤ toB V k gp n) ↔ (1 ≤ x ∧ x ≤ 9) ∧ ∀ r, r < n → -V 99 1 ≤ gp r + aTr V r k * x ∧ gp r + aTr V r k * x ≤ V 99 1)
  | 0, _ => ⟨fun h => ⟨h, fun r hr => absurd hr (Nat.not_lt_zero r)⟩, fun h => h.1⟩
  | n + 1, h0 => by
    have ih := ft_iff (V := V) (k := k) (gp := gp) (x := x) (n := n) (fun r hr => h0 r (Nat.lt_succ_of_lt hr))
    have hs : ∀ P : Nat → Prop, (∀ r, r < n + 1 → P r) ↔ (∀ r, r < n → P r) ∧ P n := fun P => ⟨fun h => ⟨fun r hr => h r (Nat.lt_succ_of_lt hr), h n (Nat.lt_succ_self n)⟩, fun h r hr => by
      by_cases e : r = n
      · subst e; exact h.2
      · exact h.1 r (Nat.lt_of_le_of_ne (Nat.le_of_lt_succ hr) e)⟩
    rw [hs, ← and_assoc, ← ih, frB_s, toB_s]
    by_cases c : aTr V n k = 0
    · rw [if_pos c, if_pos c]
      have := h0 n (Nat.lt_succ_self n) c
      rw [c, Int.zero_mul, Int.add_zero]
      exact ⟨fun z => ⟨z, this⟩, fun z => z.1⟩
    · rw [if_neg c, if_neg c]
      by_cases c2 : aTr V n k < 0
      · simp only [if_pos c2]
        have hf := fl_bnd (N := V 99 1) (s := -gp n) (z := -aTr V n k) (x := x) (by omega)
        rw [Int.neg_mul] at hf
        generalize aTr V n k * x = y at *
        generalize (V 99 1 + -gp n) / -aTr V n k = u at *
        generalize (V 99 1 - -gp n) / -aTr V n k = w at *
        constructor
        · rintro ⟨a, b⟩
          have := hf.mpr ⟨by omega, by omega⟩
          omega
        · rintro ⟨a, b⟩
          have := hf.mp ⟨by omega, by omega⟩
          omega
      · simp only [if_neg c2]
        have hf := fl_bnd (N := V 99 1) (s := gp n) (z := aTr V n k) (x := x) (by omega)
        generalize aTr V n k * x = y at *
        generalize (V 99 1 + gp n) / aTr V n k = u at *
        generalize (V 99 1 - gp n) / aTr V n k = w at *
        constructor
        · rintro ⟨a, b⟩
          have := hf.mpr ⟨by omega, by omega⟩
          omega
        · rintro ⟨a, b⟩
          have := hf.mp ⟨by omega, by omega⟩
          omega
theorem ft_rng {V : Hp} {k : Nat} {gp : Nat → Int} : ∀ n : Nat, 1 ≤ frB V k gp n ∧ toB V k gp n ≤ 9
  | 0 => by unfold frB toB; decide
  | n + 1 => by
    have := ft_rng (V := V) (k := k) (gp := gp) n
    rw [frB_s, toB_s]
    by_cases c : aTr V n k = 0
    · rw [if_pos c, if_pos c]; exact this
    · rw [if_neg c, if_neg c]; omega
