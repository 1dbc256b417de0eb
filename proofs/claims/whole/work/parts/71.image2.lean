/-! images: the reference; the pair -/
theorem hs_ne' {X : Hp} {c j v a b : Int} (h : a ≠ c) : hs X c j v a b = X a b := by rw [hs_ne h]
section IR
variable {d : Nat} {V X : Hp} {Q : AV → Hp → Prop}
def wrM (V X : Hp) (n : Nat) : Prop := Fx imM V X ∧ ∀ k : Nat, k < n → X 139 k = imF V k
theorem wrM.put {n : Nat} {x : Int} (h : wrM V X n) (e : x = imF V n) : wrM V (hs X 139 n x) (n + 1) := by
  refine ⟨h.1.hs (c := 139) rfl, fun k hk => ?_⟩
  rw [hs_at]
  by_cases h1 : k = n
  · subst h1; rw [if_pos rfl, e]
  · rw [if_neg (fun z => h1 (Int.ofNat_inj.mp z))]
    exact h.2 k (Nat.lt_of_le_of_ne (Nat.le_of_lt_succ hk) h1)
theorem wrM.n {n : Nat} {v : Int} (h : wrM V X n) : wrM V (hs X 71 98 v) n := ⟨h.1.hs (c := 71) (j := 98) rfl, fun k hk => by rw [hs_ne (by decide)]; exact h.2 k hk⟩
set_option maxRecDepth 20000 in
theorem q_checked {a : Int} {n L : Nat} {g : Nat → Int} (e1 : sht a = 1) (e2 : shl a = L) (hL : n ≤ L) (hL2 : L ≤ 1600) (hg : ∀ k : Nat, k < n → X a k = g k ∧ 0 ≤ g k ∧ g k < 256) : CC d MO_checked [va a, vi n] X Q = Q (vi (ckS g n)) X := by
  refine CC_dt fun Q hQ => ?_
  simp only [en_MO_checked, e_MO_checked_0, k_MO_checked_0, rr, sh, Nat.reduceLT, Nat.reduceMul, Int.reduceToNat, Int.reduceGT, Int.reduceGE, Int.reduceNe, true_and, and_true, true_or, or_true, false_or, or_false, and_self, or_self, if_true, if_false, reduceIte, not_true_eq_false, not_false_eq_true, Int.reduceEq, Int.reduceNe, Int.reduceLT, Int.reduceLE, Int.reduceAdd, Int.reduceSub, Int.reduceMul, Int.reduceNeg, Nat.reduceAdd, Nat.reduceLeDiff, Nat.reduceEqDiff, ne_eq, List.length_cons, List.length_nil, Nat.reduceSub]
  refine up_nat (P := fun k => R d MO_checked (blk MO_checked 1) [va a, vi n, vi (ckS g k), vi k] [] X Q) ?_ ?_ 0 (Nat.zero_le n)
  · rw [e_MO_checked_1]
    simp only [k_MO_checked_1, e_MO_checked_2, k_MO_checked_2, rr, sh, Nat.reduceLT, Nat.reduceMul, Int.reduceToNat, Int.reduceGT, Int.reduceGE, Int.reduceNe, true_and, and_true, true_or, or_true, false_or, or_false, and_self, or_self, if_true, if_false, reduceIte, not_true_eq_false, not_false_eq_true, Int.reduceEq, Int.reduceNe, Int.reduceLT, Int.reduceLE, Int.reduceAdd, Int.reduceSub, Int.reduceMul, Int.reduceNeg, Nat.reduceAdd, Nat.reduceLeDiff, Nat.reduceEqDiff, ne_eq, List.length_cons, List.length_nil, Nat.reduceSub, Int.le_refl]
    exact hQ
  · intro k hk ih
    have c1 : ¬ (n : Int) ≤ k := by clear ih hQ e1 e2 hg; omega
    have j1 : 0 ≤ (k : Int) ∧ (k : Int) < (L : Int) := by clear ih hQ e1 e2 hg; omega
    have kw := w32_s (n := k) (by clear ih hQ e1 e2 hg; omega)
    obtain ⟨g1, g2⟩ := hg k hk
    have hc := ckS_rng g k
    have w5 : w32 ((w32 (w32 (5 * ckS g k) + g k)).tmod 251) = ckS g (k + 1) := by
      show _ = (5 * ckS g k + g k) % 251
      generalize ckS g k = y at hc ⊢
      generalize g k = x at g2 ⊢
      clear ih hQ e1 e2 hg kw g1
      rw [w32_id (x := 5 * y) (by omega) (by omega), w32_id (x := 5 * y + x) (by omega) (by omega), Int.tmod_eq_emod_of_nonneg (by omega), w32_id (by omega) (by omega)]
    rw [e_MO_checked_1]
    simp only [k_MO_checked_1, rr, sh, Nat.reduceLT, Nat.reduceMul, Int.reduceToNat, Int.reduceGT, Int.reduceGE, Int.reduceNe, true_and, and_true, true_or, or_true, false_or, or_false, and_self, or_self, if_true, if_false, reduceIte, not_true_eq_false, not_false_eq_true, Int.reduceEq, Int.reduceNe, Int.reduceLT, Int.reduceLE, Int.reduceAdd, Int.reduceSub, Int.reduceMul, Int.reduceNeg, Nat.reduceAdd, Nat.reduceLeDiff, Nat.reduceEqDiff, ne_eq, List.length_cons, List.length_nil, Nat.reduceSub, c1, e1, e2, j1, g1, w5, kw]
    exact ih
set_option maxRecDepth 20000 in
theorem c_imageM (hM : Inm V) (hQ : ∀ H', wrM V H' (11 + 2 * nS V) → H' 71 98 = ((11 + 2 * nS V : Nat) : Int) → Q (vi ((11 + 2 * nS V : Nat) : Int)) H') : CC (d + 1) MO_image [va 71] V Q := by
  have hn := hM.boat.s
  have hn2 := hn.2
  have ht := hM.crew.stroke
  have p97 : ∀ {H n}, wrM V H n → H 71 97 = 139 := fun {H n} h => (h.1 71 97 rfl).trans (hM.ptr (71, 97, 139) (by decide +kernel))
  have p29 : ∀ {H n}, wrM V H n → H 71 29 = 91 := fun {H n} h => (h.1 71 29 rfl).trans (hM.ptr (71, 29, 91) (by decide +kernel))
  have c91 : ∀ {H n}, wrM V H n → H 91 = V 91 := fun {H n} h => h.1.cell 91 (fun _ => rfl)
  have c48 : ∀ {H n}, wrM V H n → H 71 48 = V 71 48 := fun {H n} h => h.1 71 48 rfl
  have i0 : imF V 0 = V 71 47 / 256 := by rw [imF_e (by omega)]; rfl
  have i1 : imF V 1 = V 71 47 % 256 := by rw [imF_e (by omega)]; rfl
  have w1 : w32 ((V 71 47).tdiv 256) = V 71 47 / 256 := by rw [Int.tdiv_eq_ediv_of_nonneg ht.1, w32_id (by omega) (by omega)]
  have w2 : w32 ((V 71 47).tmod 256) = V 71 47 % 256 := by rw [Int.tmod_eq_emod_of_nonneg ht.1, w32_id (by omega) (by omega)]
  have h0 : wrM V V 0 := ⟨Fx.rf, fun k hk => absurd hk (Nat.not_lt_zero k)⟩
  have h1 := h0.put i0.symm
  have h2 := h1.put i1.symm
  have q1 := p97 h0
  have q2 : ∀ v, hs V 139 0 v 71 97 = 139 := fun v => (hs_ne' (by decide)).trans (p97 h0)
  have q3 : ∀ v, hs V 139 0 v 71 47 = V 71 47 := fun v => (hs_ne' (by decide))
  simp only [en_MO_image, e_MO_image_0, k_MO_image_0, rr, sh, Nat.reduceLT, Nat.reduceMul, Int.reduceToNat, Int.reduceGT, Int.reduceGE, Int.reduceNe, true_and, and_true, true_or, or_true, false_or, or_false, and_self, or_self, if_true, if_false, reduceIte, not_true_eq_false, not_false_eq_true, Int.reduceEq, Int.reduceNe, Int.reduceLT, Int.reduceLE, Int.reduceAdd, Int.reduceSub, Int.reduceMul, Int.reduceNeg, Nat.reduceAdd, Nat.reduceLeDiff, Nat.reduceEqDiff, ne_eq, List.length_cons, List.length_nil, Nat.reduceSub, q1, q2, q3, w1, w2]
  refine up_nat (P := fun k => ∀ H', wrM V H' (2 + k) → R (d + 1) MO_image (blk MO_image 1) [va 71, vi k] [] H' Q) ?_ ?_ 0 (Nat.zero_le 8) _ h2
  · intro H' hw
    have z29 : ∀ v, hs H' 71 98 v 71 29 = 91 := fun v => (hs2 (by decide)).trans (p29 hw)
    rw [e_MO_image_1]
    simp only [k_MO_image_1, e_MO_image_2, k_MO_image_2, rr, sh, Nat.reduceLT, Nat.reduceMul, Int.reduceToNat, Int.reduceGT, Int.reduceGE, Int.reduceNe, true_and, and_true, true_or, or_true, false_or, or_false, and_self, or_self, if_true, if_false, reduceIte, not_true_eq_false, not_false_eq_true, Int.reduceEq, Int.reduceNe, Int.reduceLT, Int.reduceLE, Int.reduceAdd, Int.reduceSub, Int.reduceMul, Int.reduceNeg, Nat.reduceAdd, Nat.reduceLeDiff, Nat.reduceEqDiff, ne_eq, List.length_cons, List.length_nil, Nat.reduceSub, Int.le_refl]
    refine up_nat (P := fun k => ∀ H', wrM V H' (10 + 2 * k) → H' 71 98 = ((10 + 2 * k : Nat) : Int) → R (d + 1) MO_image (blk MO_image 3) [va 71, vi k] [] H' Q) ?_ ?_ 0 (Nat.zero_le (nS V)) _ hw.n hs_same
    · intro H' hw h98
      have kw := w32_s (n := 10 + 2 * nS V) (by clear h98 hw i0 i1 w1 w2; omega)
      have j1 : 0 ≤ ((10 + 2 * nS V : Nat) : Int) ∧ ((10 + 2 * nS V : Nat) : Int) < 36 := by clear h98 hw i0 i1 w1 w2 kw; omega
      have hc : ∀ {Q : AV → Hp → Prop}, CC d MO_checked [va 139, vi ((10 + 2 * nS V : Nat) : Int)] H' Q = Q (vi (ckS (imE V) (10 + 2 * nS V))) H' := fun {Q} => q_checked (L := 36) rfl rfl (by clear h98 hw i0 i1 w1 w2 kw; omega) (by decide) (fun k hk => ⟨by rw [hw.2 k hk, imF_e hk], imE_rng hM hk⟩)
      have hf : wrM V (hs H' 139 ((10 + 2 * nS V : Nat) : Int) (ckS (imE V) (10 + 2 * nS V))) (10 + 2 * nS V + 1) := hw.put (by unfold imF; rw [if_pos rfl])
      have z98 : ∀ v, hs H' 139 ((10 + 2 * nS V : Nat) : Int) v 71 98 = ((10 + 2 * nS V : Nat) : Int) := fun v => (hs_ne' (by decide)).trans h98
      have e11 : 10 + 2 * nS V + 1 = 11 + 2 * nS V := by clear h98 hw i0 i1 w1 w2 kw hf; omega
      have hfn := hf.n (v := ((11 + 2 * nS V : Nat) : Int))
      rw [e11] at hfn
      have fin := hQ _ hfn hs_same
      have ee : ((10 + 2 * nS V + 1 : Nat) : Int) = ((11 + 2 * nS V : Nat) : Int) := by clear h98 hw i0 i1 w1 w2 kw hf fin; omega
      rw [ee] at kw
      rw [e_MO_image_3]
      simp only [k_MO_image_3, e_MO_image_4, k_MO_image_4, en_MO_seats, e_MO_seats_0, k_MO_seats_0, rr, sh, Nat.reduceLT, Nat.reduceMul, Int.reduceToNat, Int.reduceGT, Int.reduceGE, Int.reduceNe, true_and, and_true, true_or, or_true, false_or, or_false, and_self, or_self, if_true, if_false, reduceIte, not_true_eq_false, not_false_eq_true, Int.reduceEq, Int.reduceNe, Int.reduceLT, Int.reduceLE, Int.reduceAdd, Int.reduceSub, Int.reduceMul, Int.reduceNeg, Nat.reduceAdd, Nat.reduceLeDiff, Nat.reduceEqDiff, ne_eq, List.length_cons, List.length_nil, Nat.reduceSub, p29 hw, c91 hw, hn.1, Int.le_refl, p97 hw, h98, hc, j1, z98, kw, hs_same]
      exact fin
    · intro k hk ih H' hw h98
      have c1 : ¬ (nS V : Int) ≤ k := by clear ih h98 hw i0 i1 w1 w2; omega
      have j1 : 0 ≤ (k : Int) ∧ (k : Int) < 12 := by clear ih h98 hw i0 i1 w1 w2; omega
      have k12 : k < 12 := by clear ih h98 hw i0 i1 w1 w2; omega
      have kw := w32_s (n := k) (by clear ih h98 hw i0 i1 w1 w2; omega)
      have hs1 := hM.crew.sits k hk
      have hr := hM.boat.r
      have w9 : w32 (V 107 k + 1) = V 107 k + 1 := w32_id (by clear ih h98 hw i0 i1 w1 w2 kw; omega) (by clear ih h98 hw i0 i1 w1 w2 kw; omega)
      have j2 : 0 ≤ ((10 + 2 * k : Nat) : Int) ∧ ((10 + 2 * k : Nat) : Int) < 36 := by clear ih h98 hw i0 i1 w1 w2 kw w9; omega
      have j3 : 0 ≤ ((10 + 2 * k + 1 : Nat) : Int) ∧ ((10 + 2 * k + 1 : Nat) : Int) < 36 := by clear ih h98 hw i0 i1 w1 w2 kw w9; omega
      have w8 := w32_s (n := 10 + 2 * k) (by clear ih h98 hw i0 i1 w1 w2 kw w9; omega)
      have w7 : w32 (((10 + 2 * k : Nat) : Int) + 2) = ((10 + 2 * (k + 1) : Nat) : Int) := by
        rw [w32_id (by clear ih h98 hw i0 i1 w1 w2 kw w9 w8; omega) (by clear ih h98 hw i0 i1 w1 w2 kw w9 w8; omega)]
        clear ih h98 hw i0 i1 w1 w2 kw w9 w8; omega
      have p50 : H' 71 50 = 107 := (hw.1 71 50 rfl).trans (hM.ptr (71, 50, 107) (by decide +kernel))
      have c107 : H' 107 = V 107 := hw.1.cell 107 (fun _ => rfl)
      have bb := b_bit (a := sdV V) (k := k) (Nat.lt_trans (sdV_lt hM) (by decide)) (by clear ih h98 hw i0 i1 w1 w2 kw w9 w8 w7; omega)
      have y97 : ∀ v, hs H' 139 ((10 + 2 * k : Nat) : Int) v 71 97 = 139 := fun v => (hs_ne' (by decide)).trans (p97 hw)
      have y98 : ∀ v, hs H' 139 ((10 + 2 * k : Nat) : Int) v 71 98 = ((10 + 2 * k : Nat) : Int) := fun v => (hs_ne' (by decide)).trans h98
      have y49 : ∀ v, hs H' 139 ((10 + 2 * k : Nat) : Int) v 71 49 = sdV V := fun v => (hs_ne' (by decide)).trans ((hw.1 71 49 rfl).trans hM.crew.sides.1)
      have x98 : ∀ u v, hs (hs H' 139 ((10 + 2 * k : Nat) : Int) v) 139 ((10 + 2 * k + 1 : Nat) : Int) u 71 98 = ((10 + 2 * k : Nat) : Int) := fun u v => (hs_ne' (by decide)).trans (y98 v)
      have hf1 := hw.put (x := V 107 k + 1) (by rw [imF_e (by clear ih h98 hw i0 i1 w1 w2 kw w9 w8 w7 bb; omega), imE_s.1])
      have hf2 := hf1.put (x := if (sdV V).testBit k = true then 1 else 0) (by rw [imF_e (by clear ih h98 hw i0 i1 w1 w2 kw w9 w8 w7 bb hf1; omega), imE_s.2])
      rw [e_MO_image_3]
      simp only [k_MO_image_3, en_MO_seats, e_MO_seats_0, k_MO_seats_0, rr, sh, Nat.reduceLT, Nat.reduceMul, Int.reduceToNat, Int.reduceGT, Int.reduceGE, Int.reduceNe, true_and, and_true, true_or, or_true, false_or, or_false, and_self, or_self, if_true, if_false, reduceIte, not_true_eq_false, not_false_eq_true, Int.reduceEq, Int.reduceNe, Int.reduceLT, Int.reduceLE, Int.reduceAdd, Int.reduceSub, Int.reduceMul, Int.reduceNeg, Nat.reduceAdd, Nat.reduceLeDiff, Nat.reduceEqDiff, ne_eq, List.length_cons, List.length_nil, Nat.reduceSub, p29 hw, c91 hw, hn.1, c1, p97 hw, h98, p50, c107, j1, j2, w9, y97, y98, w8, j3, y49, bb, x98, w7, kw]
      exact ih _ hf2.n hs_same
  · intro k hk ih H' hw
    have c1 : ¬ (8 : Int) ≤ k := by clear ih hw i0 i1 w1 w2; omega
    have kw := w32_s (n := k) (by clear ih hw i0 i1 w1 w2; omega)
    have w3 : w32 (2 + (k : Int)) = ((2 + k : Nat) : Int) := by rw [w32_id (by clear ih hw i0 i1 w1 w2 kw; omega) (by clear ih hw i0 i1 w1 w2 kw; omega)]; clear ih hw i0 i1 w1 w2 kw; omega
    have j1 : 0 ≤ ((2 + k : Nat) : Int) ∧ ((2 + k : Nat) : Int) < 36 := by clear ih hw i0 i1 w1 w2 kw w3; omega
    have w4 : w32 (56 - w32 (8 * (k : Int))) = 56 - 8 * (k : Int) := by rw [w32_id (x := 8 * (k : Int)) (by clear ih hw i0 i1 w1 w2 kw w3; omega) (by clear ih hw i0 i1 w1 w2 kw w3; omega), w32_id (by clear ih hw i0 i1 w1 w2 kw w3; omega) (by clear ih hw i0 i1 w1 w2 kw w3; omega)]
    have e5 := imE_h (V := V) hk
    have w5 : w32 (l_shr (V 71 48) (56 - 8 * (k : Int)) % 256) = imF V (2 + k) := by
      rw [imF_e (by clear ih hw i0 i1 w1 w2 kw w3 w4 e5; omega), e5]
      have a1 := Int.emod_nonneg (l_shr (V 71 48) (56 - 8 * (k : Int))) (show (256 : Int) ≠ 0 by decide)
      have a2 := Int.emod_lt_of_pos (l_shr (V 71 48) (56 - 8 * (k : Int))) (show (0 : Int) < 256 by decide)
      exact w32_id (Int.le_trans (by decide) a1) (Int.lt_trans a2 (by decide))
    rw [e_MO_image_1]
    simp only [k_MO_image_1, rr, sh, Nat.reduceLT, Nat.reduceMul, Int.reduceToNat, Int.reduceGT, Int.reduceGE, Int.reduceNe, true_and, and_true, true_or, or_true, false_or, or_false, and_self, or_self, if_true, if_false, reduceIte, not_true_eq_false, not_false_eq_true, Int.reduceEq, Int.reduceNe, Int.reduceLT, Int.reduceLE, Int.reduceAdd, Int.reduceSub, Int.reduceMul, Int.reduceNeg, Nat.reduceAdd, Nat.reduceLeDiff, Nat.reduceEqDiff, ne_eq, List.length_cons, List.length_nil, Nat.reduceSub, c1, p97 hw, w3, j1, c48 hw, w4, l_and255, w5, kw]
    exact ih _ (hw.put rfl)
end IR
/-- an image: what else stays -/
def ieS (a b : Int) : Bool := if a = 24 then true else if a = 139 then true else if a = 4 then decide (b = 13) else if a = 71 then decide (b = 98) else false
theorem ieS_nq (a b : Int) (h : ieS a b = true) : nq a b = true := by
  unfold ieS at h
  by_cases h1 : a = 24
  · subst h1; rfl
  · by_cases h2 : a = 139
    · subst h2; rfl
    · by_cases h3 : a = 4
      · subst h3
        have : b = 13 := by simpa using h
        subst this; rfl
      · by_cases h4 : a = 71
        · subst h4
          have : b = 98 := by simpa using h
          subst this; rfl
        · simp [h1, h2, h3, h4] at h
theorem imC_ie (a b : Int) (h : imC a b = true) : ieS a b = true := by
  unfold imC at h
  by_cases h1 : a = 24
  · subst h1; rfl
  · by_cases h3 : a = 4
    · subst h3; simpa [ieS] using h
    · simp [h1, h3] at h
theorem imM_ie (a b : Int) (h : imM a b = true) : ieS a b = true := by
  unfold imM at h
  by_cases h1 : a = 139
  · subst h1; rfl
  · by_cases h3 : a = 71
    · subst h3; simpa [ieS] using h
    · simp [h1, h3] at h
theorem ActR.eq {V H : Hp} (h6 : ActR V) (e10 : H 4 10 = V 4 10) (e11 : H 4 11 = V 4 11) (d47 : H 71 47 = V 71 47) (d48 : H 71 48 = V 71 48) (d49 : H 71 49 = V 71 49) (d55 : H 71 55 = V 71 55) (d56 : H 71 56 = V 71 56) (e20 : H 20 = V 20) (e21 : H 21 = V 21) (e22 : H 22 = V 22) (e23 : H 23 = V 23) (e91 : H 91 = V 91) (e94 : H 94 = V 94) (e107 : H 107 = V 107) (e108 : H 108 = V 108) (e109 : H 109 = V 109) (e110 : H 110 = V 110) (e111 : H 111 = V 111) : ActR H := by
  have g1 : ∀ i, snK H i = snK V i := fun i => by cases i <;> simp only [snK, d47, d56, e108]
  have g2 : ∀ i, snH H i = snH V i := fun i => by cases i <;> simp only [snH, d48, d56, e109]
  have g3 : ∀ i, snD H i = snD V i := fun i => by cases i <;> simp only [snD, d49, d56, e110]
  have g4 : ∀ i k, snS H i k = snS V i k := fun i k => by cases i <;> simp only [snS, d56, e107, e111]
  unfold ActR ActI OkI nS nR nN at h6 ⊢
  simp only [e10, e11, d55, d56, e20, e21, e22, e23, e91, e94, g1, g2, g3, g4]
  exact h6
theorem Inv0.img {V H : Hp} (h : Inv0 V) (hS : Fx ieS V H) (hT : ImgR H) : Inv0 H := by
  obtain ⟨h1, h2, h3, h4, -, h6, h7, h8, h9, h10⟩ := h
  have hq : Vq V H := fun a b q => hS a b (by
    cases e : ieS a b with
    | false => rfl
    | true => rw [ieS_nq a b e] at q; cases q)
  have c : ∀ a, (a ≠ 24 ∧ a ≠ 139 ∧ a ≠ 4 ∧ a ≠ 71) → H a = V a := fun a ha => hS.cell a (fun b => by unfold ieS; rw [if_neg ha.1, if_neg ha.2.1, if_neg ha.2.2.1, if_neg ha.2.2.2])
  have d : ∀ j, j ≠ 98 → H 71 j = V 71 j := fun j hj => hS 71 j (by show decide (j = 98) = false; exact decide_eq_false hj)
  have d4 : ∀ j, j ≠ 13 → H 4 j = V 4 j := fun j hj => hS 4 j (by show decide (j = 13) = false; exact decide_eq_false hj)
  have ep : H (V 4 0 + 4) = V (V 4 0 + 4) := by rcases h1.pp with e | e <;> rw [e] <;> exact c _ (by decide)
  refine ⟨h1.vq hq, ?_, ?_, ?_, hT, ?_, ?_, ?_, h9.cg (c 91 (by decide)) (c 95 (by decide)) (d4 0 (by decide)) ep, h10.cg (by rw [c 58 (by decide)]) (by rw [c 58 (by decide)]) (c 64 (by decide)) (c 65 (by decide)) (c 91 (by decide)) (c 92 (by decide)) (c 93 (by decide)) (c 99 (by decide)) (c 102 (by decide)) (c 103 (by decide)) (c 104 (by decide))⟩
  · unfold TapeR at h2 ⊢; simp only [c 2 (by decide), c 3 (by decide), c 72 (by decide), d 1 (by decide)]; exact h2
  · unfold FltR at h3 ⊢; simp only [c 1 (by decide), d 7 (by decide), d 8 (by decide)]; exact h3
  · unfold RefR at h4 ⊢; simp only [c 70 (by decide), c 73 (by decide)]; exact h4
  · exact h6.eq (d4 10 (by decide)) (d4 11 (by decide)) (d 47 (by decide)) (d 48 (by decide)) (d 49 (by decide)) (d 55 (by decide)) (d 56 (by decide)) (c 20 (by decide)) (c 21 (by decide)) (c 22 (by decide)) (c 23 (by decide)) (c 91 (by decide)) (c 94 (by decide)) (c 107 (by decide)) (c 108 (by decide)) (c 109 (by decide)) (c 110 (by decide)) (c 111 (by decide))
  · unfold HvOk at h7 ⊢; simp only [c 66 (by decide), c 67 (by decide), c 68 (by decide)]; exact h7
  · have hs : wdL.all (fun q => !ieS q.1 q.2.1) = true := by decide +kernel
    intro q hq
    have := List.all_eq_true.mp hs q hq
    rw [hS q.1 q.2.1 (by simpa using this)]
    exact h8 q hq
theorem p_image {d : Nat} {V : Hp} (h : Inv0 V) : Pair V (d + 10) EO_image MO_image [va 1] [va 71] := by
  have hI := h.1
  have hn := hI.boat.s
  refine c_imageC (d := d + 8) hI fun H1 h1 => ?_
  have hS1 : Fx ieS V H1 := h1.1.up imC_ie
  have hq : Vq V H1 := fun a b q => hS1 a b (by
    cases e : ieS a b with
    | false => rfl
    | true => rw [ieS_nq a b e] at q; cases q)
  have hI1 : Inq H1 := hI.vq hq
  have eS : nS H1 = nS V := by unfold nS nN; rw [h1.1.cell 91 (fun _ => rfl)]
  have eE : imE H1 = imE V := by
    funext k
    unfold imE sdV
    rw [h1.1 71 47 rfl, h1.1 71 48 rfl, h1.1 71 49 rfl, h1.1.cell 107 (fun _ => rfl)]
  have eF : imF H1 = imF V := by funext k; unfold imF; rw [eE, eS]
  refine c_imageM (d := d + 9) hI1.m fun H2 h2 h98 => ?_
  rw [eS] at h2 h98 ⊢
  refine ⟨rfl, h.img (hS1.tr (h2.1.up imM_ie)) ⟨?_, ?_, fun k hk => ?_⟩⟩
  · rw [h98]; omega
  · rw [h98, h2.1 4 13 rfl]; exact h1.2.1
  · rw [h98] at hk
    have hk' : k < 11 + 2 * nS V := Int.ofNat_lt.mp hk
    have hr := imF_rng hI.m hk'
    have w := w8_mod (imF V k)
    rw [h2.2 k hk', h2.1.cell 24 (fun _ => rfl), h1.2.2 k hk', eF]
    exact ⟨w.2, by rw [w.1]; exact (Int.emod_eq_of_lt hr.1 hr.2).symm⟩
