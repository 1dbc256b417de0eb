/-! THE SIMULATION, last part: a run of the abstract machine is a run of the machine -/
section S14
theorem opc_s {m pc : Nat} {i : AI} {is : List AI} (h : chk m pc (i :: is) = true) (h17 : i.1 ≠ 17) : ∃ o len pc', decode (bM m) pc = .ok (o, len) ∧ ck1 m pc i o len = some pc' ∧ chk m pc' is = true := by
  unfold chk at h
  rw [if_neg h17] at h
  split at h
  · cases h
  · rename_i o len hd
    split at h
    · cases h
    · rename_i pc' hc
      exact ⟨o, len, pc', hd, hc, h⟩
/-- how many cells there are never falls -/
theorem am1_n {m pc pc' len : Nat} {i : AI} {o : JI} {ls st ls' st' : List AV} {H H' : Hp} (h : am1 i ls st H = some (ls', st', H')) (hc : ck1 m pc i o len = some pc') : H 0 0 ≤ H' 0 0 := by
  obtain ⟨op, k, z, tb⟩ := i
  have put : ∀ {c j x : Int}, 0 ≤ shc c ∨ sht c ≠ 0 → hs H c j x 0 0 = H 0 0 := fun {c j x} q => by
    have := (sh_all c).2.2.2.2.1 q
    rw [hs_app, if_neg (by omega)]
  unfold am1 at h
  dsimp only at h
  split at h
  all_goals first
    | (cases h; exact Int.le_refl _)
    | (cases h; done)
    | (split at h <;> first
        | (cases h; exact Int.le_refl _)
        | (cases h; done)
        | (cases h; rw [hs_same]; omega)
        | (split at h <;> first
            | (cases h; exact Int.le_refl _)
            | (cases h; done)
            | (rename_i hg
               cases h
               first
                 | (rw [hs_same]; omega)
                 | (rw [put (Or.inr (by have := hg.1; omega))]; exact Int.le_refl _)
                 | (refine Int.le_of_eq (put (Or.inl ?_)).symm
                    have hz : 0 ≤ z := by
                      first
                        | (have hc : ck_21 m pc (21, k, z, tb) o len = some pc' := hc
                           unfold ck_21 at hc; split at hc
                           · obtain ⟨q, -⟩ := opg_s hc
                             simp only [Bool.and_eq_true, decide_eq_true_eq] at q
                             exact q.2.2.1
                           · cases hc)
                        | (have hc : ck_22 m pc (22, k, z, tb) o len = some pc' := hc
                           unfold ck_22 at hc; split at hc
                           · obtain ⟨q, -⟩ := opg_s hc
                             simp only [Bool.and_eq_true, decide_eq_true_eq] at q
                             exact q.2.2.1
                           · cases hc)
                        | (have hc : ck_23 m pc (23, k, z, tb) o len = some pc' := hc
                           unfold ck_23 at hc; split at hc
                           · obtain ⟨q, -⟩ := opg_s hc
                             simp only [Bool.and_eq_true, decide_eq_true_eq] at q
                             exact q.2.2.1
                           · cases hc)
                        | (have hc : ck_24 m pc (24, k, z, tb) o len = some pc' := hc
                           unfold ck_24 at hc; split at hc
                           · obtain ⟨q, -⟩ := opg_s hc
                             simp only [Bool.and_eq_true, decide_eq_true_eq] at q
                             exact q.2.2.1
                           · cases hc)
                    first | (rw [hg]; exact hz) | (rw [hg.1]; exact hz))
                 | (have q := (sh_all _).2.2.2.2.1 (Or.inr (show sht _ ≠ 0 by rw [hg.2.2.1]; omega))
                    show _ ≤ (if (0 : Int) = _ ∧ _ ∧ _ then _ else _)
                    rw [if_neg (by omega)]
                    exact Int.le_refl _))))
theorem ex_n : ∀ (n : Nat) {d m pc : Nat} {is : List AI} {ls st : List AV} {H : Hp} {r : AV} {H' : Hp}, m < 374 → chk m pc is = true → ex n d m is ls st H = some (r, H') → H 0 0 ≤ H' 0 0
  | 0, _, _, _, _, _, _, _, _, _, _, _, h => by cases h
  | n + 1, d, m, pc, is, ls, st, H, r, H', hm, hk, h => by
    have jmp : ∀ {k : Nat} {ls st : List AV} {H : Hp}, ex n d m (blk m k) ls st H = some (r, H') → H 0 0 ≤ H' 0 0 := fun {k ls st H} h => ex_n n hm (chk_all hm k) h
    have cal : ∀ {c d' : Nat} {l : List AV} {kk : AV → List AV} {is' : List AI} {pc' : Nat}, c < 374 → chk m pc' is' = true → (match ex n d' c (blk c 0) l [] H with
        | some (r1, H1) => ex n d m is' ls (kk r1) H1
        | none => none) = some (r, H') → H 0 0 ≤ H' 0 0 := by
      intro c d' l kk is' pc' hc hk2 h
      cases hx : ex n d' c (blk c 0) l [] H with
      | none => rw [hx] at h; cases h
      | some q =>
        obtain ⟨r1, H1⟩ := q
        rw [hx] at h
        exact Int.le_trans (ex_n n hc (chk_all hc 0) hx) (ex_n n hm hk2 h)
    have h : stp (ex n) d m is ls st H = some (r, H') := h
    cases is with
    | nil => cases h
    | cons i is' =>
      obtain ⟨op, k, z, tb⟩ := i
      by_cases h17 : op = 17
      · subst h17; exact jmp h
      · obtain ⟨o, len, pc', hd, hc, hk'⟩ := opc_s hk h17
        unfold stp at h
        dsimp only at h
        split at h
        · split at h
          · split at h
            · exact jmp h
            · exact ex_n n hm hk' h
          · cases h
        · split at h
          · split at h
            · exact jmp h
            · exact ex_n n hm hk' h
          · cases h
        · exact jmp h
        · exact jmp h
        · split at h
          · cases h
          · split at h
            · refine cal (kk := fun r1 => r1 :: _) ?_ hk' h
              have hc : ck_35 m pc (35, k, z, tb) o len = some pc' := hc
              unfold ck_35 at hc; split at hc
              · obtain ⟨q, -⟩ := opg_s hc
                simp only [Bool.and_eq_true, decide_eq_true_eq] at q
                omega
              · cases hc
            · cases h
        · split at h
          · cases h
          · split at h
            · refine cal (kk := fun r1 => r1 :: _) ?_ hk' h
              have hc : ck_36 m pc (36, k, z, tb) o len = some pc' := hc
              unfold ck_36 at hc; split at hc
              · obtain ⟨q, -⟩ := opg_s hc
                simp only [Bool.and_eq_true, decide_eq_true_eq] at q
                omega
              · cases hc
            · cases h
        · split at h
          · cases h
          · split at h
            · refine cal (kk := fun _ => _) ?_ hk' h
              have hc : ck_37 m pc (37, k, z, tb) o len = some pc' := hc
              unfold ck_37 at hc; split at hc
              · obtain ⟨q, -⟩ := opg_s hc
                simp only [Bool.and_eq_true, decide_eq_true_eq] at q
                omega
              · cases hc
            · cases h
        · split at h
          · cases h
          · split at h
            · refine cal (kk := fun _ => _) ?_ hk' h
              have hc : ck_38 m pc (38, k, z, tb) o len = some pc' := hc
              unfold ck_38 at hc; split at hc
              · obtain ⟨q, -⟩ := opg_s hc
                simp only [Bool.and_eq_true, decide_eq_true_eq] at q
                omega
              · obtain ⟨q, -⟩ := opg_s hc
                simp only [Bool.and_eq_true, decide_eq_true_eq] at q
                omega
              · cases hc
            · cases h
        · split at h
          · cases h; exact Int.le_refl _
          · cases h
        · split at h
          · cases h; exact Int.le_refl _
          · cases h
        · split at h
          · cases h; exact Int.le_refl _
          · cases h
        · split at h
          · split at h
            · cases h; exact Int.le_refl _
            · cases h
          · cases h
        · split at h
          · exact jmp h
          · cases h
        · split at h
          · rename_i ha
            exact Int.le_trans (am1_n ha hc) (ex_n n hm hk' h)
          · cases h
end S14
