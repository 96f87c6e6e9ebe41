-- pages: what the class notes of them, and where elements begin
section CP
variable {S : t_Script} {n L : Nat}
theorem must_x (hS : SOK S n L) {i q b w : Nat} (hi : i < n) {G : t_Pages} (hGL : G.2.2.2.1 = nI L) (hGq : G.2.2.2.2.1 = nI q) (hq1 : 1 ≤ q) (hqL : q ≤ L) (hb : X5_blanksAhead S (nI i) = nI b) (hb2 : b ≤ 2) (hw : G.2.2.2.2.2.1 i = nI w) (hw2 : w ≤ 2000) :
    X1_mustTurn G S (nI i) = if S.2.2.2.2.2.1 i = -1 ∧ b + w ≤ L - q then 0 else 1 := by
  have hL := hS.2.2.2.2.1
  have hi60 := hS.lt hi
  unfold X1_mustTurn
  simp only [zlet_e]
  rw [hGq, if_neg (nI_ne0 (by omega) (by omega)), rAt_nI (by decide) _ hi60, rAt_nI (by decide) _ hi60, hb, hw, nI_add, hGL, pk_sub hqL]
  by_cases hm : S.2.2.2.2.2.1 i = -1
  · rw [if_pos hm]
    by_cases hc : b + w ≤ L - q
    · rw [if_pos (nI_le hc (by omega)), if_pos ⟨hm, hc⟩]
    · rw [if_neg (nI_ge (by omega) (by omega)), if_neg (fun h => hc h.2)]
  · rw [if_neg hm, if_neg (fun h => hm h.1)]
def mkN (S : t_Script) (n : Nat) : Nat := ctN (fun i => decide (S.2.2.2.2.2.1 i ≠ -1)) n
theorem countMarks_x (hS : SOK S n L) (G : t_Pages) : X1_countMarks G S = some (G.1, nI (mkN S n), G.2.2.1, G.2.2.2.1, G.2.2.2.2.1, G.2.2.2.2.2.1, G.2.2.2.2.2.2.1, G.2.2.2.2.2.2.2.1, G.2.2.2.2.2.2.2.2.1, G.2.2.2.2.2.2.2.2.2.1, G.2.2.2.2.2.2.2.2.2.2.1, G.2.2.2.2.2.2.2.2.2.2.2.1, G.2.2.2.2.2.2.2.2.2.2.2.2.1, G.2.2.2.2.2.2.2.2.2.2.2.2.2) := by
  have hn := hS.2.2.1
  obtain ⟨X, h1, h2⟩ := zl_up (body := b_X1_countMarks_7 S) (fun j v => v = ((G.1, nI (mkN S j), G.2.2.1, G.2.2.2.1, G.2.2.2.2.1, G.2.2.2.2.2.1, G.2.2.2.2.2.2.1, G.2.2.2.2.2.2.2.1, G.2.2.2.2.2.2.2.2.1, G.2.2.2.2.2.2.2.2.2.1, G.2.2.2.2.2.2.2.2.2.2.1, G.2.2.2.2.2.2.2.2.2.2.2.1, G.2.2.2.2.2.2.2.2.2.2.2.2.1, G.2.2.2.2.2.2.2.2.2.2.2.2.2), nI j)) (fun X => X = (G.1, nI (mkN S n), G.2.2.1, G.2.2.2.1, G.2.2.2.2.1, G.2.2.2.2.2.1, G.2.2.2.2.2.2.1, G.2.2.2.2.2.2.2.1, G.2.2.2.2.2.2.2.2.1, G.2.2.2.2.2.2.2.2.2.1, G.2.2.2.2.2.2.2.2.2.2.1, G.2.2.2.2.2.2.2.2.2.2.2.1, G.2.2.2.2.2.2.2.2.2.2.2.2.1, G.2.2.2.2.2.2.2.2.2.2.2.2.2)) n
    (fun rec v h => by
      subst h
      unfold b_X1_countMarks_7
      rw [if_pos (show S.1 ≤ nI n by rw [hS.1]; exact nI_le (Nat.le_refl _) (by omega))]
      exact ⟨_, rfl, rfl⟩)
    (fun rec j v hj h k => by
      subst h
      unfold b_X1_countMarks_7
      simp only [zlet_e, nI_1]
      rw [if_neg (show ¬ S.1 ≤ nI j by rw [hS.1]; exact nI_ge hj (by omega)), rAt_nI (by decide) _ (hS.lt hj)]
      by_cases h0 : S.2.2.2.2.2.1 j = -1
      · rw [if_pos h0]
        refine k _ ?_
        have e : mkN S (j + 1) = mkN S j := by simp [mkN, ctN, h0]
        rw [e]
      · rw [if_neg h0]
        refine k _ ?_
        have e : mkN S (j + 1) = mkN S j + 1 := by simp [mkN, ctN, h0]
        rw [e])
    FU 0 ((G.1, 0, G.2.2.1, G.2.2.2.1, G.2.2.2.2.1, G.2.2.2.2.2.1, G.2.2.2.2.2.2.1, G.2.2.2.2.2.2.2.1, G.2.2.2.2.2.2.2.2.1, G.2.2.2.2.2.2.2.2.2.1, G.2.2.2.2.2.2.2.2.2.2.1, G.2.2.2.2.2.2.2.2.2.2.2.1, G.2.2.2.2.2.2.2.2.2.2.2.2.1, G.2.2.2.2.2.2.2.2.2.2.2.2.2), 0) (Nat.zero_le _) rfl (show n - 0 < 3000 by omega)
  unfold X1_countMarks
  rw [h1, Option.bind_some, h2]
def plS (S : t_Script) (fs : Rw) (r : Nat) : Int32 := rAt 60 S.2.2.2.2.2.1 (fs r)
def nuN (S : t_Script) (fs : Rw) : Nat → Int32
  | 0 => 0
  | r + 1 => if plS S fs r = -1 then nuN S fs r else plS S fs r
def exN (S : t_Script) (fs : Rw) : Nat → Int32
  | 0 => -1
  | r + 1 => if plS S fs r = -1 then exN S fs r + 1 else 0
def lnuN (S : t_Script) (fs : Rw) (n r : Nat) : Int32 := if mkN S n = 0 then nI (r + 1) else nuN S fs (r + 1)
def lexN (S : t_Script) (fs : Rw) (n r : Nat) : Int32 := if mkN S n = 0 then 0 else exN S fs (r + 1)
theorem plabel_x (hS : SOK S n L) {G : t_Pages} {c : Nat} (hc : c ≤ n) (hN : G.1 = nI c) (hm : G.2.1 = nI (mkN S n)) : ∃ nu ex, X1_label G S = some (G.1, G.2.1, G.2.2.1, G.2.2.2.1, G.2.2.2.2.1, G.2.2.2.2.2.1, G.2.2.2.2.2.2.1, G.2.2.2.2.2.2.2.1, G.2.2.2.2.2.2.2.2.1, nu, ex, G.2.2.2.2.2.2.2.2.2.2.2.1, G.2.2.2.2.2.2.2.2.2.2.2.2.1, G.2.2.2.2.2.2.2.2.2.2.2.2.2) ∧ ∀ r, r < c → nu r = lnuN S G.2.2.2.2.2.2.2.2.2.2.2.2.1 n r ∧ ex r = lexN S G.2.2.2.2.2.2.2.2.2.2.2.2.1 n r := by
  have hn := hS.2.2.1
  have hmk : mkN S n ≤ n := ct_le _ _
  obtain ⟨X, h1, nu, ex, h2, h3⟩ := zl_up (body := b_X1_label_7 S) (fun j v => ∃ nu ex a b, v = ((G.1, G.2.1, G.2.2.1, G.2.2.2.1, G.2.2.2.2.1, G.2.2.2.2.2.1, G.2.2.2.2.2.2.1, G.2.2.2.2.2.2.2.1, G.2.2.2.2.2.2.2.2.1, nu, ex, G.2.2.2.2.2.2.2.2.2.2.2.1, G.2.2.2.2.2.2.2.2.2.2.2.2.1, G.2.2.2.2.2.2.2.2.2.2.2.2.2), a, b, nI j) ∧ (mkN S n ≠ 0 → a = nuN S G.2.2.2.2.2.2.2.2.2.2.2.2.1 j ∧ b = exN S G.2.2.2.2.2.2.2.2.2.2.2.2.1 j) ∧ ∀ r, r < j → nu r = lnuN S G.2.2.2.2.2.2.2.2.2.2.2.2.1 n r ∧ ex r = lexN S G.2.2.2.2.2.2.2.2.2.2.2.2.1 n r) (fun X => ∃ nu ex, X = (G.1, G.2.1, G.2.2.1, G.2.2.2.1, G.2.2.2.2.1, G.2.2.2.2.2.1, G.2.2.2.2.2.2.1, G.2.2.2.2.2.2.2.1, G.2.2.2.2.2.2.2.2.1, nu, ex, G.2.2.2.2.2.2.2.2.2.2.2.1, G.2.2.2.2.2.2.2.2.2.2.2.2.1, G.2.2.2.2.2.2.2.2.2.2.2.2.2) ∧ ∀ r, r < c → nu r = lnuN S G.2.2.2.2.2.2.2.2.2.2.2.2.1 n r ∧ ex r = lexN S G.2.2.2.2.2.2.2.2.2.2.2.2.1 n r) c
    (fun rec v h => by
      obtain ⟨nu, ex, a, b, rfl, -, h⟩ := h
      unfold b_X1_label_7
      rw [if_pos (show G.1 ≤ nI c by rw [hN]; exact nI_le (Nat.le_refl _) (by omega))]
      exact ⟨_, rfl, nu, ex, rfl, h⟩)
    (fun rec j v hj h k => by
      obtain ⟨nu, ex, a, b, rfl, hab, h⟩ := h
      have hj60 : j < 60 := by omega
      have rj : ∀ (f : Rw) (x : Int32), rPut 60 f (nI j) x = upd f j x := fun f x => rPut_nI (by decide) f hj60 x
      have up : ∀ x y : Int32, x = lnuN S G.2.2.2.2.2.2.2.2.2.2.2.2.1 n j → y = lexN S G.2.2.2.2.2.2.2.2.2.2.2.2.1 n j → ∀ r, r < j + 1 → upd nu j x r = lnuN S G.2.2.2.2.2.2.2.2.2.2.2.2.1 n r ∧ upd ex j y r = lexN S G.2.2.2.2.2.2.2.2.2.2.2.2.1 n r := by
        intro x y hx hy r hr
        by_cases e : r = j
        · subst e; rw [pk_us, pk_us]; exact ⟨hx, hy⟩
        · rw [pk_un e, pk_un e]; exact h r (by omega)
      unfold b_X1_label_7 j_X1_label_68
      simp only [zlet_e, nI_1, rj]
      rw [if_neg (show ¬ G.1 ≤ nI j by rw [hN]; exact nI_ge hj (by omega)), rAt_nI (by decide) _ hj60]
      by_cases h0 : mkN S n = 0
      · rw [if_pos (show G.2.1 = 0 by rw [hm, h0]; exact nI_0)]
        exact k _ ⟨_, _, _, _, rfl, fun z => absurd h0 z, up _ _ (by unfold lnuN; rw [if_pos h0]) (by unfold lexN; rw [if_pos h0])⟩
      · rw [if_neg (show ¬ G.2.1 = 0 by rw [hm]; exact nI_ne0 (by omega) (by omega))]
        obtain ⟨ha, hb⟩ := hab h0
        by_cases h1 : rAt 60 S.2.2.2.2.2.1 (G.2.2.2.2.2.2.2.2.2.2.2.2.1 j) = -1
        · rw [if_pos h1]
          have e1 : nuN S G.2.2.2.2.2.2.2.2.2.2.2.2.1 (j + 1) = a := by
            show (if rAt 60 S.2.2.2.2.2.1 (G.2.2.2.2.2.2.2.2.2.2.2.2.1 j) = -1 then nuN S G.2.2.2.2.2.2.2.2.2.2.2.2.1 j else _) = a
            rw [if_pos h1, ha]
          have e2 : exN S G.2.2.2.2.2.2.2.2.2.2.2.2.1 (j + 1) = b + 1 := by
            show (if rAt 60 S.2.2.2.2.2.1 (G.2.2.2.2.2.2.2.2.2.2.2.2.1 j) = -1 then exN S G.2.2.2.2.2.2.2.2.2.2.2.2.1 j + 1 else _) = b + 1
            rw [if_pos h1, hb]
          exact k _ ⟨_, _, _, _, rfl, fun _ => ⟨e1.symm, e2.symm⟩, up _ _ (by unfold lnuN; rw [if_neg h0, e1]) (by unfold lexN; rw [if_neg h0, e2])⟩
        · rw [if_neg h1]
          have e1 : nuN S G.2.2.2.2.2.2.2.2.2.2.2.2.1 (j + 1) = rAt 60 S.2.2.2.2.2.1 (G.2.2.2.2.2.2.2.2.2.2.2.2.1 j) := by
            show (if rAt 60 S.2.2.2.2.2.1 (G.2.2.2.2.2.2.2.2.2.2.2.2.1 j) = -1 then nuN S G.2.2.2.2.2.2.2.2.2.2.2.2.1 j else rAt 60 S.2.2.2.2.2.1 (G.2.2.2.2.2.2.2.2.2.2.2.2.1 j)) = _
            rw [if_neg h1]
          have e2 : exN S G.2.2.2.2.2.2.2.2.2.2.2.2.1 (j + 1) = 0 := by
            show (if rAt 60 S.2.2.2.2.2.1 (G.2.2.2.2.2.2.2.2.2.2.2.2.1 j) = -1 then exN S G.2.2.2.2.2.2.2.2.2.2.2.2.1 j + 1 else _) = 0
            rw [if_neg h1]
          exact k _ ⟨_, _, _, _, rfl, fun _ => ⟨e1.symm, e2.symm⟩, up _ _ (by unfold lnuN; rw [if_neg h0, e1]) (by unfold lexN; rw [if_neg h0, e2])⟩)
    FU 0 (G, 0, -1, 0) (Nat.zero_le _) ⟨G.2.2.2.2.2.2.2.2.2.1, G.2.2.2.2.2.2.2.2.2.2.1, 0, -1, rfl, fun _ => ⟨rfl, rfl⟩, fun r h => absurd h (Nat.not_lt_zero _)⟩ (show c - 0 < 3000 by omega)
  refine ⟨nu, ex, ?_, h3⟩
  unfold X1_label
  rw [h1, Option.bind_some, h2]
/-- where the elements ahead of i begin: pl tells the page of each, fs the first of each page -/
def BG (i c : Nat) (pN : Nat → Nat) (pl fs : Rw) : Prop :=
  (∀ e, e < i → pl e = nI (pN e) ∧ pN e < c) ∧ (∀ e e', e < e' → e' < i → pN e ≤ pN e') ∧
  (∀ r, r < c → (fs r = -1 ∧ ∀ e, e < i → pN e ≠ r) ∨ ∃ e, e < i ∧ fs r = nI e ∧ pN e = r ∧ ∀ e', e' < e → pN e' ≠ r)
def pUp (pN : Nat → Nat) (i p : Nat) : Nat → Nat := fun e => if e = i then p else pN e
theorem pUp_s (pN : Nat → Nat) (i p : Nat) : pUp pN i p i = p := if_pos rfl
theorem pUp_n {pN : Nat → Nat} {i p e : Nat} (h : e ≠ i) : pUp pN i p e = pN e := if_neg h
/-- a page turned -/
theorem BG_turn {i p : Nat} {pN : Nat → Nat} {pl fs : Rw} (h : BG i p pN pl fs) : BG i (p + 1) pN pl (upd fs p (-1)) := by
  obtain ⟨h1, h2, h3⟩ := h
  refine ⟨fun e he => ⟨(h1 e he).1, by have := (h1 e he).2; omega⟩, h2, fun r hr => ?_⟩
  by_cases k : r = p
  · subst k
    rw [pk_us]
    exact Or.inl ⟨rfl, fun e he => by have := (h1 e he).2; omega⟩
  · rw [pk_un k]
    exact h3 r (by omega)
/-- an element begins on the last page -/
theorem BG_page {i p : Nat} {pN : Nat → Nat} {pl fs : Rw} (hi : i < 60) (h : BG i (p + 1) pN pl fs) : BG (i + 1) (p + 1) (pUp pN i p) (upd pl i (nI p)) (if fs p = -1 then upd fs p (nI i) else fs) := by
  obtain ⟨h1, h2, h3⟩ := h
  have lt : ∀ e, e < i → pN e ≤ p := fun e he => by have := (h1 e he).2; omega
  refine ⟨fun e he => ?_, fun e e' a b => ?_, fun r hr => ?_⟩
  · by_cases k : e = i
    · subst k; rw [pk_us, pUp_s]; exact ⟨rfl, by omega⟩
    · rw [pk_un k, pUp_n k]; exact h1 e (by omega)
  · by_cases k : e' = i
    · subst k; rw [pUp_s, pUp_n (by omega)]; exact lt e a
    · rw [pUp_n k, pUp_n (by omega)]; exact h2 e e' a (by omega)
  · have old : ∀ e, e < i → pUp pN i p e = pN e := fun e he => pUp_n (by omega)
    by_cases k : r = p
    · subst k
      rcases h3 r (by omega) with ⟨a1, a2⟩ | ⟨e, a1, a2, a3, a4⟩
      · rw [if_pos a1, pk_us]
        exact Or.inr ⟨i, by omega, rfl, pUp_s _ _ _, fun e' he' => by rw [old e' he']; exact a2 e' he'⟩
      · have hn1 : ¬ fs r = -1 := by
          rw [a2]
          exact fun x => nI_pos (n := e) (by omega) (by rw [x]; decide)
        rw [if_neg hn1]
        exact Or.inr ⟨e, by omega, a2, by rw [old e a1]; exact a3, fun e' he' => by rw [old e' (by omega)]; exact a4 e' he'⟩
    · have ef : (if fs p = -1 then upd fs p (nI i) else fs) r = fs r := by
        by_cases z : fs p = -1
        · rw [if_pos z, pk_un k]
        · rw [if_neg z]
      rw [ef]
      rcases h3 r hr with ⟨a1, a2⟩ | ⟨e, a1, a2, a3, a4⟩
      · refine Or.inl ⟨a1, fun e he => ?_⟩
        by_cases k2 : e = i
        · subst k2; rw [pUp_s]; exact fun x => k x.symm
        · rw [pUp_n k2]; exact a2 e (by omega)
      · exact Or.inr ⟨e, by omega, a2, by rw [old e a1]; exact a3, fun e' he' => by rw [old e' (by omega)]; exact a4 e' he'⟩
end CP
