/-! THE SIMULATION, second part: heaps -/
def ftg (ci j : Nat) : Nat := if tyD ci j = .long then 1 else if isReferenceType (tyD ci j) = true then 2 else 0
def aq (base : Nat) : Nat → Prop := fun q => base ≤ q
def tys4 (cy : Nat → ClassId) : List (ClassId × FieldType) := [(cy 1, .int), (cy 2, .long), (cy 3, .byte), (cy 4, .char)]
def cellR (f : Int → Nat) (n : Int) (cy : Nat → ClassId) (k : Int) (h : Int → Int) (e : va_E) : Prop :=
  (0 ≤ shc k ∧ ∃ fs : List Value, e = .inr ((shc k).toNat, fs) ∧ fs.length = (clD (shc k).toNat).2.2 ∧ ∀ j : Nat, j < fs.length → ∃ v, fs[j]? = some v ∧ vrel f n (ftg (shc k).toNat j, h j) v) ∨
  ((sht k = 1 ∨ sht k = 3 ∨ sht k = 4) ∧ ∃ g : Nat → Int32, e = .inl (cy (sht k).toNat, (shl k).toNat, .inl g) ∧ ∀ j : Nat, (j : Int) < shl k → (g j).toInt = h j) ∨
  (sht k = 2 ∧ ∃ g : Nat → Int64, e = .inl (cy 2, (shl k).toNat, .inr (.inl g)) ∧ ∀ j : Nat, (j : Int) < shl k → (g j).toInt = h j)
def wrl (D : va_G) (cy : Nat → ClassId) (base : Nat) (f : Int → Nat) (H : Hp) (Hm : Heap) : Prop := ∃ (N : Nat) (ws : va_W), H 0 0 = N ∧ N ≤ 139 ∧ ws.length = N ∧ (∀ k : Nat, k < N → ∃ e, ws[k]? = some (f (k + 1), e) ∧ cellR f N cy (k + 1) (H (k + 1)) e) ∧ va_P D vwCl ws Hm ∧ va_D (aq base) ws ∧ ∀ k : Int, N < k → k ≤ 139 → ∀ j, H k j = 0
theorem sh_tab : (List.range 140).all (fun n => decide ((tb_c.getD n (-1) < 12) ∧ ¬ (0 ≤ tb_c.getD n (-1) ∧ tb_t.getD n 0 ≠ 0) ∧ (0 ≤ tb_l.getD n 0 ∧ tb_l.getD n 0 < 10000) ∧ (0 ≤ tb_t.getD n 0 ∧ tb_t.getD n 0 ≤ 4) ∧ (n = 0 → tb_c.getD n (-1) = -1 ∧ tb_t.getD n 0 = 0) ∧ (n ≠ 0 → 0 ≤ tb_c.getD n (-1) ∨ tb_t.getD n 0 ≠ 0))) = true := by decide +kernel
theorem sh_out (n : Nat) (h : 140 ≤ n) : tb_c.getD n (-1) = -1 ∧ tb_t.getD n 0 = 0 ∧ tb_l.getD n 0 = 0 := by
  have h1 : tb_c.length = 140 := by decide +kernel
  have h2 : tb_t.length = 140 := by decide +kernel
  have h3 : tb_l.length = 140 := by decide +kernel
  simp only [List.getD_eq_getElem?_getD]
  rw [List.getElem?_eq_none (by omega), List.getElem?_eq_none (by omega), List.getElem?_eq_none (by omega)]
  exact ⟨rfl, rfl, rfl⟩
theorem sh_all (k : Int) : (shc k < 12) ∧ ¬ (0 ≤ shc k ∧ sht k ≠ 0) ∧ (0 ≤ shl k ∧ shl k < 10000) ∧ (0 ≤ sht k ∧ sht k ≤ 4) ∧ (0 ≤ shc k ∨ sht k ≠ 0 → 1 ≤ k ∧ k ≤ 139) ∧ (1 ≤ k → k ≤ 139 → 0 ≤ shc k ∨ sht k ≠ 0) := by
  cases k with
  | negSucc n => exact ⟨by show (-1 : Int) < 12; omega, by show ¬ ((0 : Int) ≤ -1 ∧ _); omega, by show (0 : Int) ≤ 0 ∧ (0 : Int) < 10000; omega, by show (0 : Int) ≤ 0 ∧ (0 : Int) ≤ 4; omega, fun h => by rcases h with h | h; exact absurd h (by show ¬ (0 : Int) ≤ -1; omega); exact absurd rfl h, fun h => by omega⟩
  | ofNat n =>
    show (tb_c.getD n (-1) < 12) ∧ ¬ (0 ≤ tb_c.getD n (-1) ∧ tb_t.getD n 0 ≠ 0) ∧ (0 ≤ tb_l.getD n 0 ∧ tb_l.getD n 0 < 10000) ∧ (0 ≤ tb_t.getD n 0 ∧ tb_t.getD n 0 ≤ 4) ∧ (0 ≤ tb_c.getD n (-1) ∨ tb_t.getD n 0 ≠ 0 → 1 ≤ Int.ofNat n ∧ Int.ofNat n ≤ 139) ∧ (1 ≤ Int.ofNat n → Int.ofNat n ≤ 139 → 0 ≤ tb_c.getD n (-1) ∨ tb_t.getD n 0 ≠ 0)
    by_cases hn : n < 140
    · have h := of_decide_eq_true (List.all_eq_true.mp sh_tab n (List.mem_range.mpr hn))
      obtain ⟨a1, a2, a3, a4, a5, a6⟩ := h
      refine ⟨a1, a2, a3, a4, fun h => ?_, fun h _ => a6 (by simp at h; omega)⟩
      have : n ≠ 0 := fun q => by
        obtain ⟨b1, b2⟩ := a5 q
        rw [b1, b2] at h
        omega
      simp; omega
    · obtain ⟨b1, b2, b3⟩ := sh_out n (by omega)
      rw [b1, b2, b3]
      refine ⟨by omega, by omega, by omega, by omega, fun h => by omega, fun _ h => by simp at h; omega⟩
section W
variable {D : va_G} {cy : Nat → ClassId} {base : Nat} {f f' : Int → Nat} {n n' : Int}
theorem cellR.mono {k : Int} {h : Int → Int} {e : va_E} (hc : cellR f n cy k h e) (hn : n ≤ n') (hf : ∀ k, okr n k → f' k = f k) : cellR f' n' cy k h e := by
  rcases hc with ⟨h1, fs, h2, h3, h4⟩ | h | h
  · exact Or.inl ⟨h1, fs, h2, h3, fun j hj => by obtain ⟨v, h5, h6⟩ := h4 j hj; exact ⟨v, h5, h6.mono hn hf⟩⟩
  · exact Or.inr (Or.inl h)
  · exact Or.inr (Or.inr h)
/-- a reference to a cell of a known shape is a place of the world -/
theorem wrl.cell {H : Hp} {Hm : Heap} {c : Int} (hw : wrl D cy base f H Hm) (ho : okr (H 0 0) c) (hs : 0 ≤ shc c ∨ sht c ≠ 0) :
    ∃ (N : Nat) (ws : va_W) (e : va_E), H 0 0 = N ∧ ws[c.toNat - 1]? = some (f c, e) ∧ cellR f (H 0 0) cy c (H c) e ∧ va_P D vwCl ws Hm ∧ va_D (aq base) ws ∧
      (∀ (e' : va_E) (g : Int → Int) (Hm' : Heap), cellR f (H 0 0) cy c g e' → va_P D vwCl (ws.set (c.toNat - 1) (f c, e')) Hm' → va_D (aq base) (ws.set (c.toNat - 1) (f c, e')) → wrl D cy base f (fun a => if a = c then g else H a) Hm') := by
  obtain ⟨N, ws, h1, h2, h3, h4, h5, h6, h7⟩ := hw
  have hr := (sh_all c).2.2.2.2.1 hs
  have hN : c ≤ N := by
    rw [h1] at ho
    unfold okr at ho
    omega
  obtain ⟨e, q1, q2⟩ := h4 (c.toNat - 1) (by omega)
  have ec : ((c.toNat - 1 : Nat) : Int) + 1 = c := by omega
  rw [ec] at q1 q2
  refine ⟨N, ws, e, h1, q1, by rw [h1]; exact q2, h5, h6, fun e' g Hm' hc hP hD => ?_⟩
  refine ⟨N, _, ?_, h2, by rw [List.length_set]; exact h3, fun k hk => ?_, hP, hD, fun k hk hk2 j => ?_⟩
  · show (if (0 : Int) = c then g else H 0) 0 = _
    rw [if_neg (by omega)]
    exact h1
  · by_cases e2 : k = c.toNat - 1
    · subst e2
      refine ⟨e', ?_, ?_⟩
      · rw [List.getElem?_set_self (by omega), ec]
      · show cellR f N cy (((c.toNat - 1 : Nat) : Int) + 1) (if (((c.toNat - 1 : Nat) : Int) + 1) = c then g else _) e'
        rw [ec, if_pos rfl, ← h1]
        exact hc
    · obtain ⟨e3, q3, q4⟩ := h4 k hk
      refine ⟨e3, ?_, ?_⟩
      · rw [List.getElem?_set_ne (by omega)]; exact q3
      · show cellR f N cy ((k : Int) + 1) (if ((k : Int) + 1) = c then g else _) e3
        rw [if_neg (by omega)]
        exact q4
  · show (if k = c then g else H k) j = 0
    rw [if_neg (by omega)]
    exact h7 k hk hk2 j
theorem hs_eq (H : Hp) (c j v : Int) : hs H c j v = fun a => if a = c then (fun b => if b = j then v else H c b) else H a := by
  funext a b
  unfold hs
  by_cases h1 : a = c
  · subst h1; simp
  · simp [h1]
theorem wrl.obj {H : Hp} {Hm : Heap} {c : Int} {ci : Nat} (hw : wrl D cy base f H Hm) (ho : okr (H 0 0) c) (hsc : shc c = ci) :
    ∃ (ws : va_W) (fs : List Value), ws[c.toNat - 1]? = some (f c, .inr (ci, fs)) ∧ fs.length = (clD ci).2.2 ∧ (∀ j : Nat, j < fs.length → ∃ v, fs[j]? = some v ∧ vrel f (H 0 0) (ftg ci j, H c j) v) ∧ va_P D vwCl ws Hm ∧ va_D (aq base) ws ∧
      (∀ (j : Nat) (x : Int) (v : Value) (Hm' : Heap), j < fs.length → vrel f (H 0 0) (ftg ci j, x) v → va_P D vwCl (ws.set (c.toNat - 1) (f c, .inr (ci, fs.set j v))) Hm' → va_D (aq base) (ws.set (c.toNat - 1) (f c, .inr (ci, fs.set j v))) → wrl D cy base f (hs H c j x) Hm') := by
  obtain ⟨N, ws, e, h1, h2, h3, h4, h5, h6⟩ := hw.cell ho (Or.inl (by omega))
  have hx := (sh_all c).2.1
  rcases h3 with ⟨g1, fs, rfl, g2, g3⟩ | ⟨g1, -⟩ | ⟨g1, -⟩
  · have e1 : (shc c).toNat = ci := by omega
    rw [e1] at h2 g2 g3
    refine ⟨ws, fs, h2, g2, g3, h4, h5, fun j x v Hm' hj hv hP hD => ?_⟩
    rw [hs_eq]
    refine h6 _ _ _ (Or.inl ⟨g1, fs.set j v, by rw [e1], by rw [List.length_set, e1]; exact g2, fun j2 hj2 => ?_⟩) hP hD
    rw [e1]
    rw [List.length_set] at hj2
    by_cases e2 : j2 = j
    · subst e2
      exact ⟨v, by rw [List.getElem?_set_self hj], by simpa using hv⟩
    · obtain ⟨w, q1, q2⟩ := g3 j2 hj2
      refine ⟨w, by rw [List.getElem?_set_ne (Ne.symm e2)]; exact q1, ?_⟩
      have e3 : ¬ (j2 : Int) = (j : Int) := by omega
      simpa [e3] using q2
  · omega
  · omega
theorem wrl.arr {H : Hp} {Hm : Heap} {c : Int} {t : Nat} (hw : wrl D cy base f H Hm) (ho : okr (H 0 0) c) (hs : sht c = t) (ht : t = 1 ∨ t = 3 ∨ t = 4) :
    ∃ (ws : va_W) (g : Nat → Int32), ws[c.toNat - 1]? = some (f c, .inl (cy t, (shl c).toNat, .inl g)) ∧ (∀ j : Nat, (j : Int) < shl c → (g j).toInt = H c j) ∧ va_P D vwCl ws Hm ∧ va_D (aq base) ws ∧
      (∀ (g' : Nat → Int32) (h' : Int → Int) (Hm' : Heap), (∀ j : Nat, (j : Int) < shl c → (g' j).toInt = h' j) → va_P D vwCl (ws.set (c.toNat - 1) (f c, .inl (cy t, (shl c).toNat, .inl g'))) Hm' → va_D (aq base) (ws.set (c.toNat - 1) (f c, .inl (cy t, (shl c).toNat, .inl g'))) → wrl D cy base f (fun a => if a = c then h' else H a) Hm') := by
  obtain ⟨N, ws, e, h1, h2, h3, h4, h5, h6⟩ := hw.cell ho (Or.inr (by omega))
  have hx := (sh_all c).2.1
  rcases h3 with ⟨g1, -⟩ | ⟨g1, g, rfl, g2⟩ | ⟨g1, -⟩
  · exact absurd ⟨g1, by omega⟩ hx
  · have e1 : (sht c).toNat = t := by omega
    rw [e1] at h2
    exact ⟨ws, g, h2, g2, h4, h5, fun g' h' Hm' hg hP hD => h6 _ _ _ (Or.inr (Or.inl ⟨g1, g', by rw [e1], hg⟩)) hP hD⟩
  · omega
theorem wrl.arrL {H : Hp} {Hm : Heap} {c : Int} (hw : wrl D cy base f H Hm) (ho : okr (H 0 0) c) (hs : sht c = 2) :
    ∃ (ws : va_W) (g : Nat → Int64), ws[c.toNat - 1]? = some (f c, .inl (cy 2, (shl c).toNat, .inr (.inl g))) ∧ (∀ j : Nat, (j : Int) < shl c → (g j).toInt = H c j) ∧ va_P D vwCl ws Hm ∧ va_D (aq base) ws ∧
      (∀ (g' : Nat → Int64) (h' : Int → Int) (Hm' : Heap), (∀ j : Nat, (j : Int) < shl c → (g' j).toInt = h' j) → va_P D vwCl (ws.set (c.toNat - 1) (f c, .inl (cy 2, (shl c).toNat, .inr (.inl g')))) Hm' → va_D (aq base) (ws.set (c.toNat - 1) (f c, .inl (cy 2, (shl c).toNat, .inr (.inl g')))) → wrl D cy base f (fun a => if a = c then h' else H a) Hm') := by
  obtain ⟨N, ws, e, h1, h2, h3, h4, h5, h6⟩ := hw.cell ho (Or.inr (by omega))
  have hx := (sh_all c).2.1
  rcases h3 with ⟨g1, -⟩ | ⟨g1, -⟩ | ⟨g1, g, rfl, g2⟩
  · exact absurd ⟨g1, by omega⟩ hx
  · omega
  · exact ⟨ws, g, h2, g2, h4, h5, fun g' h' Hm' hg hP hD => h6 _ _ _ (Or.inr (Or.inr ⟨g1, g', rfl, hg⟩)) hP hD⟩
/-- a cell is made -/
theorem wrl.push {H : Hp} {Hm Hm' : Heap} {q : Nat} {e : va_E} (hw : ∃ (N : Nat) (ws : va_W), H 0 0 = N ∧ N + 1 ≤ 139 ∧ ws.length = N ∧ (∀ k : Nat, k < N → ∃ e, ws[k]? = some (f (k + 1), e) ∧ cellR f N cy (k + 1) (H (k + 1)) e) ∧ va_P D vwCl (ws ++ [(q, e)]) Hm' ∧ va_D (aq base) (ws ++ [(q, e)]) ∧ ∀ k : Int, N < k → k ≤ 139 → ∀ j, H k j = 0)
    (he : ∀ g, cellR g (H 0 0 + 1) cy (H 0 0 + 1) (fun _ => 0) e) :
    ∃ f' : Int → Nat, (∀ k, okr (H 0 0) k → f' k = f k) ∧ f' (H 0 0 + 1) = q ∧ wrl D cy base f' (hs H 0 0 (H 0 0 + 1)) Hm' := by
  obtain ⟨N, ws, h1, h2, h3, h4, h5, h6, h7⟩ := hw
  have hag : ∀ k, okr (H 0 0) k → (fun k => if k = H 0 0 + 1 then q else f k) k = f k := fun k hk => by
    show (if k = H 0 0 + 1 then q else f k) = f k
    rw [if_neg]
    unfold okr at hk
    omega
  refine ⟨fun k => if k = H 0 0 + 1 then q else f k, hag, if_pos rfl, N + 1, ws ++ [(q, e)], ?_, h2, by simp [h3], fun k hk => ?_, h5, h6, fun k hk hk2 j => ?_⟩
  · rw [hs_same, h1]; simp
  · have hH : hs H 0 0 (H 0 0 + 1) ((k : Int) + 1) = H ((k : Int) + 1) := by
      funext j
      rw [hs_app, if_neg (by omega)]
    rw [hH]
    by_cases e2 : k < N
    · obtain ⟨e3, q3, q4⟩ := h4 k e2
      refine ⟨e3, ?_, ?_⟩
      · rw [List.getElem?_append_left (by omega), q3]
        have : ¬ ((k : Int) + 1 = H 0 0 + 1) := by omega
        simp [this]
      · exact q4.mono (by omega) (fun k hk => hag k (by rw [h1]; exact hk))
    · have e4 : k = N := by omega
      subst e4
      refine ⟨e, ?_, ?_⟩
      · rw [List.getElem?_append_right (by omega), h3, Nat.sub_self]
        simp [h1]
      · have hz : H ((k : Int) + 1) = fun _ => 0 := by
          funext j
          exact h7 _ (by omega) (by omega) j
        rw [hz]
        have := he (fun k => if k = H 0 0 + 1 then q else f k)
        rw [h1] at this ⊢
        simpa using this
  · rw [hs_app, if_neg (by omega)]
    exact h7 k (by omega) hk2 j
end W
