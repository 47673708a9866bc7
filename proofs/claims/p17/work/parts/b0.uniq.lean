/-! KEYS and NAMES are there once: the first is the last -/
theorem sIfs_ok {f : Nat → Nat} {n b : Nat} : ∀ (k i a : Nat), sIfs f n b k i = .inr a → ∀ j, i ≤ j → j < i + k → sDup f (sNam f n b) j = false
  | 0, i, a, _, j, h1, h2 => by omega
  | k + 1, i, a, h, j, h1, h2 => by
    unfold sIfs at h
    split at h
    · cases h
    · split at h
      · cases h
      · rename_i hd
        split at h
        · cases h
        · rcases Nat.lt_or_ge i j with y | y
          · exact sIfs_ok k (i + 1) a h j (by omega) (by omega)
          · have : j = i := by omega
            subst this
            exact Bool.eq_false_iff.mpr hd
theorem sIsB_alk {f : Nat → Nat} {p q m : Nat} {w : Nat → Nat} (h1 : sIsB f p w m = true) (h2 : sIsB f q w m = true) : sAlk f p q := by
  obtain ⟨a1, a2⟩ := sIsB_iff.mp h1
  obtain ⟨b1, b2⟩ := sIsB_iff.mp h2
  intro i hi
  match i, hi with
  | 0, _ => exact a1.trans b1.symm
  | i + 1, hi =>
    have e1 := a2 i (by omega)
    have e2 := b2 i (by omega)
    rw [show p + (i + 1) = p + 1 + i by omega, show q + (i + 1) = q + 1 + i by omega, e1, e2]
theorem sUq {f K : Nat → Nat} {t m : Nat} {w : Nat → Nat} (hd : ∀ j, j < t → sDup f K j = false) {i j : Nat} (hij : i < j) (hj : j < t) (h1 : sIsB f (K i) w m = true) : sIsB f (K j) w m = false := by
  cases h2 : sIsB f (K j) w m with
  | false => rfl
  | true =>
    have e := hd j hj
    rw [sDup_iff.mpr ⟨i, hij, sIsB_alk h1 h2⟩] at e
    cases e
theorem sNf_o {f : Nat → Nat} {n b m : Nat} {w : Nat → Nat} : ∀ (u i : Nat) (o : Option Nat), (∀ j, i ≤ j → j < i + u → sIsB f (sNam f n b j) w m = false) → sNf f n b w m u i o = o
  | 0, _, _, _ => rfl
  | u + 1, i, o, h => by
    show sNf f n b w m u (i + 1) (bif sIsB f (sNam f n b i) w m then some i else o) = o
    rw [h i (Nat.le_refl _) (by omega), cond_false]
    exact sNf_o u (i + 1) o (fun j h1 h2 => h j (by omega) (by omega))
theorem sNg_Nf {f : Nat → Nat} {n b m t : Nat} {w : Nat → Nat} (hd : ∀ j, j < t → sDup f (sNam f n b) j = false) : ∀ (u i : Nat), i + u = t → sNg f n b w m u i = sNf f n b w m u i none
  | 0, _, _ => rfl
  | u + 1, i, h => by
    show (bif sIsB f (sNam f n b i) w m then some i else sNg f n b w m u (i + 1)) = sNf f n b w m u (i + 1) (bif sIsB f (sNam f n b i) w m then some i else none)
    cases e : sIsB f (sNam f n b i) w m with
    | true =>
      rw [cond_true, cond_true, sNf_o u (i + 1) (some i) (fun j h1 h2 => sUq hd (by omega) (by omega) e)]
    | false =>
      rw [cond_false, cond_false]
      exact sNg_Nf hd u (i + 1) (by omega)
theorem sOg_Oq {f : Nat → Nat} {n b t q : Nat} (hd : ∀ j, j < t → sDup f (sNam f n b) j = false) : sOg f n b t q = sOq f n b t q := sNg_Nf hd t 0 (Nat.zero_add _)
/-- ALIGN -/
theorem sAlF_o {f : Nat → Nat} {n : Nat} : ∀ (u i acc : Nat), (∀ j, i ≤ j → j < i + u → sIsB f (sKey f n j) (sWd sWa) 5 = false) → sAlF f n u i acc = some acc
  | 0, _, _, _ => rfl
  | u + 1, i, acc, h => by
    show (bif sIsB f (sKey f n i) (sWd sWa) 5 then (if 1 ≤ (sAv f n i) ∧ (sAv f n i) ≤ 64 then sAlF f n u (i + 1) (sAv f n i) else none) else sAlF f n u (i + 1) acc) = some acc
    rw [h i (Nat.le_refl _) (by omega), cond_false]
    exact sAlF_o u (i + 1) acc (fun j h1 h2 => h j (by omega) (by omega))
theorem sAlF_f {f : Nat → Nat} {n k : Nat} (hd : ∀ j, j < k → sDup f (sKey f n) j = false) {acc : Nat} : ∀ (u i : Nat), i + u = k → sAlF f n u i acc = (match sKf f n (sWd sWa) 5 u i with | none => some acc | some j => if 1 ≤ sAv f n j ∧ sAv f n j ≤ 64 then some (sAv f n j) else none)
  | 0, _, _ => rfl
  | u + 1, i, h => by
    show (bif sIsB f (sKey f n i) (sWd sWa) 5 then (if 1 ≤ (sAv f n i) ∧ (sAv f n i) ≤ 64 then sAlF f n u (i + 1) (sAv f n i) else none) else sAlF f n u (i + 1) acc) = (match (bif sIsB f (sKey f n i) (sWd sWa) 5 then some i else sKf f n (sWd sWa) 5 u (i + 1)) with | none => some acc | some j => if 1 ≤ sAv f n j ∧ sAv f n j ≤ 64 then some (sAv f n j) else none)
    cases e : sIsB f (sKey f n i) (sWd sWa) 5 with
    | true =>
      rw [cond_true, cond_true, sAlF_o u (i + 1) _ (fun j h1 h2 => sUq hd (by omega) (by omega) e)]
    | false =>
      rw [cond_false, cond_false]
      exact sAlF_f hd u (i + 1) (by omega)
theorem sAlF_ok {f : Nat → Nat} {n k : Nat} (hd : ∀ j, j < k → sDup f (sKey f n) j = false) (h : sAok f n k) : sAlF f n k 0 8 = sAl1 f n k := by
  rw [sAlF_f hd k 0 (Nat.zero_add _)]
  unfold sAl1
  unfold sAok at h
  cases e : sKf f n (sWd sWa) 5 k 0 with
  | none => rfl
  | some i =>
    have h0 := h i e
    have ea : sAv f n i = sNum f (sVa f n i) 4 := if_pos h0
    show (if 1 ≤ sAv f n i ∧ sAv f n i ≤ 64 then some (sAv f n i) else none) = _
    rw [ea]
theorem sAlF_no {f : Nat → Nat} {n k A : Nat} (hd : ∀ j, j < k → sDup f (sKey f n) j = false) (h : sAlF f n k 0 8 = some A) : sAok f n k := by
  intro i e
  rw [sAlF_f hd k 0 (Nat.zero_add _), e] at h
  have h : (if 1 ≤ sAv f n i ∧ sAv f n i ≤ 64 then some (sAv f n i) else none) = some A := h
  rcases Nat.eq_zero_or_pos (sTy f n i) with y | y
  · exact y
  · have ea : sAv f n i = 0 := if_neg (by omega)
    rw [ea, if_neg (by decide)] at h
    cases h
theorem sPts_b {f : Nat → Nat} {n t k b a : Nat} (h : sPts f n = .inr (t, k, b, a)) : sIfs f n b t 0 = .inr a := by
  unfold sPts at h
  split at h
  · cases h
  · split at h
    · cases h
    · split at h
      · cases h
      · split at h
        · cases h
        · split at h
          · cases h
          · split at h
            · cases h
            · split at h
              · cases h
              · split at h
                · cases h
                · rename_i he
                  injection h with h
                  injection h with h1 h
                  injection h with h2 h
                  injection h with h3 h4
                  subst h1
                  subst h3
                  subst h4
                  exact he
