-- locked scenes, locked pages, omitted scenes
theorem ct_s1 {p : Nat → Bool} {j : Nat} (h : p j = true) : ctN p (j + 1) = ctN p j + 1 := by
  show ctN p j + (if p j then 1 else 0) = _
  rw [if_pos h]
theorem ct_s0 {p : Nat → Bool} {j : Nat} (h : ¬ p j = true) : ctN p (j + 1) = ctN p j := by
  show ctN p j + (if p j then 1 else 0) = _
  rw [if_neg h]; rfl
/-- the headings that are not locked -/
def unB (S : t_Script) (i : Nat) : Bool := decide (S.2.2.1 i = 0 ∧ S.2.2.2.2.2.2.1 i = 0)
theorem un_same {S : t_Script} {i : Nat} : ∀ {j : Nat}, i ≤ j → hcN S.2.2.1 i = hcN S.2.2.1 j → ctN (unB S) j = ctN (unB S) i := by
  intro j
  induction j with
  | zero => intro h _; rw [show i = 0 by omega]
  | succ j ih =>
    intro h1 h2
    by_cases c : i = j + 1
    · rw [c]
    · have hk := hc_same h1 h2 j (by omega) (by omega)
      have nb : ¬ unB S j = true := by
        unfold unB
        simp [hk]
      rw [ct_s0 nb, ih (by omega) (by rw [h2, hc_s1 hk])]
section PQ
variable {x : t_SP} {n L : Nat} {g k ln pr lb mk : Rw}
theorem op_lock (hI : IX x n L) (hR : LR x.2.1 n L g k ln pr lb mk) {to lb' : Rw} (ht : ∀ h, h < n → x.2.1.2.2.1 h = 0 → ENC x.2.1 n h (to h)) (hb : ∀ i, i < n → lb' i = if x.2.1.2.2.1 i = 0 then to i else -1) :
    ∃ x', P_lockScenes x = some (nI (ctN (unB x.2.1) n), x') ∧ IX x' n L ∧ LR x'.2.1 n L g k ln pr lb' mk := by
  obtain ⟨tl, S, D, C, E, G, F, Hs, tx⟩ := x
  obtain ⟨hS, hC, hG, hH, hd⟩ := hI
  have hS : SOK S n L := hS
  have hC : CSok C S n := hC
  have hR : LR S n L g k ln pr lb mk := hR
  have hd : ¬ DUP S n := hd
  have hH : HO Hs := hH
  have ht : ∀ h, h < n → S.2.2.1 h = 0 → ENC S n h (to h) := ht
  have hb : ∀ i, i < n → lb' i = if S.2.2.1 i = 0 then to i else -1 := hb
  have hn := hS.2.2.1
  have hcl := hc_le S.2.2.1 n
  have cp := copy_eq (S := S) (D := D) hS.2.2.1
  obtain ⟨T0, hT0⟩ : ∃ T0, T0 = X5_copyFrom D S := ⟨_, rfl⟩
  rw [← hT0] at cp
  have st : ∀ i, i < n → S.2.2.2.2.2.2.1 i = 0 ∨ S.2.2.2.2.2.2.1 i = 1 ∨ S.2.2.2.2.2.2.1 i = 2 := fun i hi => (hS.e hi).2.2.2.2.1
  -- a row of the script on its way
  obtain ⟨X, h1, T, r, e1, e2, e3, e4, e5, e6, e7⟩ := zl_up (body := b_X6_lockScenes_15 tl E F tx)
    (fun s (v : t_Script × t_Script × t_Scenes × t_Pages × t_Hist × Int32 × Int32) => ∃ T r, v = (S, T, C, G, Hs, nI r, nI s) ∧ T.1 = nI n ∧ T.2.1 = nI L ∧
      (∀ i, i < n → T.2.2.1 i = S.2.2.1 i ∧ T.2.2.2.1 i = S.2.2.2.1 i ∧ T.2.2.2.2.1 i = S.2.2.2.2.1 i ∧ T.2.2.2.2.2.1 i = S.2.2.2.2.2.1 i) ∧
      (∀ i, i < n → S.2.2.1 i = 0 → hcN S.2.2.1 i < s → T.2.2.2.2.2.2.1 i = (if S.2.2.2.2.2.2.1 i = 0 then 1 else S.2.2.2.2.2.2.1 i) ∧ T.2.2.2.2.2.2.2.1 i = lbA S n i ∧ T.2.2.2.2.2.2.2.2.1 i = lbB S n i ∧ T.2.2.2.2.2.2.2.2.2 i = lbC S n i) ∧
      (∀ i, i < n → ¬ (S.2.2.1 i = 0 ∧ hcN S.2.2.1 i < s) → T.2.2.2.2.2.2.1 i = S.2.2.2.2.2.2.1 i ∧ T.2.2.2.2.2.2.2.1 i = S.2.2.2.2.2.2.2.1 i ∧ T.2.2.2.2.2.2.2.2.1 i = S.2.2.2.2.2.2.2.2.1 i ∧ T.2.2.2.2.2.2.2.2.2 i = S.2.2.2.2.2.2.2.2.2 i) ∧ ∀ j, j ≤ n → hcN S.2.2.1 j = s → r = ctN (unB S) j)
    (fun X => ∃ T r, X = (S, T, C, G, Hs, nI r) ∧ T.1 = nI n ∧ T.2.1 = nI L ∧
      (∀ i, i < n → T.2.2.1 i = S.2.2.1 i ∧ T.2.2.2.1 i = S.2.2.2.1 i ∧ T.2.2.2.2.1 i = S.2.2.2.2.1 i ∧ T.2.2.2.2.2.1 i = S.2.2.2.2.2.1 i) ∧
      (∀ i, i < n → S.2.2.1 i = 0 → T.2.2.2.2.2.2.1 i = (if S.2.2.2.2.2.2.1 i = 0 then 1 else S.2.2.2.2.2.2.1 i) ∧ T.2.2.2.2.2.2.2.1 i = lbA S n i ∧ T.2.2.2.2.2.2.2.2.1 i = lbB S n i ∧ T.2.2.2.2.2.2.2.2.2 i = lbC S n i) ∧
      (∀ i, i < n → ¬ S.2.2.1 i = 0 → T.2.2.2.2.2.2.1 i = 0) ∧ r = ctN (unB S) n) (hcN S.2.2.1 n)
    (fun rec v hv => by
      obtain ⟨T, r, rfl, a1, a2, a3, a4, a5, a6⟩ := hv
      unfold b_X6_lockScenes_15
      simp only []
      rw [show C.1 = nI (hcN S.2.2.1 n) from hC.1, if_pos (nI_le (Nat.le_refl _) (by omega))]
      exact ⟨_, rfl, T, r, rfl, a1, a2, a3, fun i hi hk => a4 i hi hk (hc_lt hi hk), fun i hi hk => (a5 i hi (fun z => hk z.1)).1.trans (hS.un hi hk), a6 n (Nat.le_refl _) rfl⟩)
    (fun rec s v hs hv kk => by
      obtain ⟨T, r, rfl, a1, a2, a3, a4, a5, a6⟩ := hv
      obtain ⟨h, hh1, hh2, hh3⟩ := hc_ex hs
      obtain ⟨c1, c2, c3, c4⟩ := hC.2.2.2.1 h hh1 hh2
      rw [hh3] at c1 c2 c3 c4
      have as : ∀ (f : Rw), rAt 60 f (nI s) = f s := fun f => rAt_nI (by decide) f (by omega)
      have r9 : r = ctN (unB S) h := a6 h (by omega) hh3
      unfold b_X6_lockScenes_15
      simp only [zlet_e, nI_1]
      rw [show C.1 = nI (hcN S.2.2.1 n) from hC.1, if_neg (nI_ge hs (by omega)), as, as, as, as, c1, c2, c3, c4, lock_x hS hh1]
      have only : ∀ i, i < n → S.2.2.1 i = 0 → hcN S.2.2.1 i < s + 1 → i = h ∨ hcN S.2.2.1 i < s := by
        intro i hi hk hl
        by_cases c : hcN S.2.2.1 i = s
        · exact Or.inl (hc_inj hk hh2 (by omega))
        · exact Or.inr (by omega)
      have cnt : ∀ j, j ≤ n → hcN S.2.2.1 j = s + 1 → ctN (unB S) j = ctN (unB S) (h + 1) := by
        intro j hj hj2
        have : h < j := by
          by_cases c : h < j
          · exact c
          · have := hc_mono S.2.2.1 (i := j) (j := h) (by omega)
            omega
        exact un_same (by omega) (by rw [hc_s0 hh2]; omega)
      by_cases hl : S.2.2.2.2.2.2.1 h = 0
      · rw [if_pos hl, if_pos rfl]
        have up : unB S h = true := by unfold unB; simp [hh2, hl]
        have ev : X5_lock T (nI h) (lbA S n h) (lbB S n h) (lbC S n h) = (T.1, T.2.1, T.2.2.1, T.2.2.2.1, T.2.2.2.2.1, T.2.2.2.2.2.1, upd T.2.2.2.2.2.2.1 h 1, upd T.2.2.2.2.2.2.2.1 h (lbA S n h), upd T.2.2.2.2.2.2.2.2.1 h (lbB S n h), upd T.2.2.2.2.2.2.2.2.2 h (lbC S n h)) := by
          unfold X5_lock
          simp only [zlet_e]
          rw [rPut_nI (by decide) _ (by omega), rPut_nI (by decide) _ (by omega), rPut_nI (by decide) _ (by omega), rPut_nI (by decide) _ (by omega)]
        rw [ev]
        refine kk _ ⟨_, r + 1, rfl, a1, a2, a3, fun i hi hk hlt => ?_, fun i hi hk => ?_, fun j hj hj2 => by rw [cnt j hj hj2, ct_s1 up, r9]⟩
        · show upd _ _ _ i = _ ∧ upd _ _ _ i = _ ∧ upd _ _ _ i = _ ∧ upd _ _ _ i = _
          by_cases c : i = h
          · subst c
            rw [pk_us, pk_us, pk_us, pk_us, if_pos hl]
            exact ⟨rfl, rfl, rfl, rfl⟩
          · rw [pk_un c, pk_un c, pk_un c, pk_un c]
            exact a4 i hi hk ((only i hi hk hlt).resolve_left c)
        · show upd _ _ _ i = _ ∧ upd _ _ _ i = _ ∧ upd _ _ _ i = _ ∧ upd _ _ _ i = _
          have c : i ≠ h := fun e => hk (by rw [e]; exact ⟨hh2, by omega⟩)
          rw [pk_un c, pk_un c, pk_un c, pk_un c]
          exact a5 i hi (fun z => hk ⟨z.1, by omega⟩)
      · rw [if_neg hl, if_neg (by decide)]
        have up : ¬ unB S h = true := by unfold unB; simp [hl]
        refine kk _ ⟨T, r, rfl, a1, a2, a3, fun i hi hk hlt => ?_, fun i hi hk => a5 i hi (fun z => hk ⟨z.1, by omega⟩), fun j hj hj2 => by rw [cnt j hj hj2, ct_s0 up, r9]⟩
        by_cases c : i = h
        · subst c
          obtain ⟨q1, q2, q3, q4⟩ := a5 i hi (fun z => by have := z.2; omega)
          refine ⟨by rw [if_neg hl]; exact q1, ?_, ?_, ?_⟩
          · unfold lbA; rw [if_neg hl]; exact q2
          · unfold lbB; rw [if_neg hl]; exact q3
          · unfold lbC; rw [if_neg hl]; exact q4
        · exact a4 i hi hk ((only i hi hk hlt).resolve_left c))
    FU 0 (S, T0, C, G, Hs, 0, 0) (Nat.zero_le _) ⟨T0, 0, rfl, cp.1.trans hS.1, cp.2.1.trans hS.2.1, fun i hi => by
      obtain ⟨⟨r1, r2, r3, r4, r5, r6, r7⟩, r8⟩ := cp.2.2 i hi
      exact ⟨r1, r2, r3, r8⟩, fun i hi hk hl => absurd hl (Nat.not_lt_zero _), fun i hi _ => (cp.2.2 i hi).1.2.2.2, fun j hj hj2 => by
      rw [un_same (Nat.zero_le j) (by rw [hj2]; rfl)]; rfl⟩ (show hcN S.2.2.1 n - 0 < 3000 by omega)
  have enc : ∀ i, i < n → S.2.2.1 i = 0 → ∃ A B C, T.2.2.2.2.2.2.2.1 i = nI A ∧ T.2.2.2.2.2.2.2.2.1 i = nI B ∧ T.2.2.2.2.2.2.2.2.2 i = nI C ∧ A ≤ hcN S.2.2.1 i + 1 ∧ B ≤ hcN S.2.2.1 i + 1 ∧ C ≤ hcN S.2.2.1 i + 1 ∧ to i = nI (10000 * A + 100 * B + C) := by
    intro i hi hk
    obtain ⟨q1, q2, q3, q4⟩ := e5 i hi hk
    obtain ⟨A, B, C, a1, a2, a3, b⟩ := ht i hi hk
    exact ⟨A, B, C, q2.trans a1, q3.trans a2, q4.trans a3, b⟩
  have lk1 : ∀ i, i < n → S.2.2.1 i = 0 → T.2.2.2.2.2.2.1 i = 1 ∨ T.2.2.2.2.2.2.1 i = 2 := by
    intro i hi hk
    rw [(e5 i hi hk).1]
    rcases st i hi with z | z | z <;> rw [z] <;> decide
  have lkne : ∀ i, i < n → S.2.2.1 i = 0 → T.2.2.2.2.2.2.1 i ≠ 0 := by
    intro i hi hk
    rcases lk1 i hi hk with z | z <;> rw [z] <;> decide
  have sT : SOK T n L := by
    refine ⟨e2, e3, hn, hS.2.2.2.1, hS.2.2.2.2.1, fun i hi => ?_⟩
    obtain ⟨r1, r2, r3, r4⟩ := e4 i hi
    obtain ⟨f1, f2, f3, f4, f5, f6, f7⟩ := hS.e hi
    unfold EOK
    rw [r1, r2, r3]
    refine ⟨f1, f2, f3, f4, ?_, fun h => ?_, fun h => ?_⟩
    · by_cases c : S.2.2.1 i = 0
      · rcases lk1 i hi c with z | z
        · exact Or.inr (Or.inl z)
        · exact Or.inr (Or.inr z)
      · exact Or.inl (e6 i hi c)
    · by_cases c : S.2.2.1 i = 0
      · exact c
      · exact absurd (e6 i hi c) h
    · by_cases c : S.2.2.1 i = 0
      · obtain ⟨A, B, C, a1, -, -, b1, -⟩ := enc i hi c
        rw [a1]
        intro z
        have := hc_le S.2.2.1 i
        have := hR.2.2.1
        exact nI_pos (n := A) (by omega) (by rw [z]; decide)
      · exact absurd (e6 i hi c) h
  have lkh : ∀ j, j ≤ n → lkN T.2.2.2.2.2.2.1 j = hcN S.2.2.1 j := by
    intro j
    induction j with
    | zero => intro _; rfl
    | succ j ih =>
      intro hj
      by_cases c : S.2.2.1 j = 0
      · rw [lk_s1 (lkne j (by omega) c), hc_s0 c, ih (by omega)]
      · rw [lk_s0 (e6 j (by omega) c), hc_s1 c, ih (by omega)]
  have rT : LR T n L g k ln pr lb' mk := by
    refine ⟨hR.1, hR.2.1, hR.2.2.1, fun i hi => ?_⟩
    obtain ⟨r1, r2, r3, r4⟩ := e4 i hi
    obtain ⟨f1, f2, f3, f4, f5⟩ := hR.le hi
    refine ⟨?_, by rw [r2]; exact f2, by rw [r3]; exact f3, ?_, by rw [r4]; exact f5⟩
    · rw [f1, r1]
      by_cases c : S.2.2.1 i = 0
      · rw [(e5 i hi c).1]
        rcases st i hi with z | z | z <;> rw [z] <;> rfl
      · rw [e6 i hi c, hS.un hi c]
    · rw [hb i hi]
      by_cases c : S.2.2.1 i = 0
      · obtain ⟨A, B, C, a1, a2, a3, b1, b2, b3, b4⟩ := enc i hi c
        rw [if_pos c]
        exact Or.inr ⟨lkne i hi c, A, B, C, a1, a2, a3, b4, by rw [lkh i (by omega)]; exact b1, by rw [lkh i (by omega)]; exact b2, by rw [lkh i (by omega)]; exact b3⟩
      · rw [if_neg c]
        exact Or.inl ⟨e6 i hi c, rfl⟩
  have nodup : ¬ DUP T n := by
    intro d
    refine hd (DUP_map (fun h => h) (fun i hi hk => ?_) (fun _ _ a _ _ _ => a) d)
    have hk : S.2.2.1 i = 0 := by rw [← (e4 i hi).1]; exact hk
    obtain ⟨q1, q2, q3, q4⟩ := e5 i hi hk
    refine ⟨hi, hk, ?_, ?_, ?_⟩
    · rw [← q2]; symm; unfold lbA; rw [if_neg (lkne i hi hk)]
    · rw [← q3]; symm; unfold lbB; rw [if_neg (lkne i hi hk)]
    · rw [← q4]; symm; unfold lbC; rw [if_neg (lkne i hi hk)]
  obtain ⟨S', C', G', Hs', q1, q2, q3, q4⟩ := keep_l hH sT rT nodup tl S C E G F tx
  refine ⟨(tl, S', T, C', E, G', F, Hs', tx), ?_, q4 _ _ _ _ _, q3⟩
  have ev : X6_lockScenes tl S D C E G F Hs tx = some (nI r, S', T, C', G', Hs') := by
    unfold X6_lockScenes
    simp only [zlet_e]
    rw [← hT0, h1, Option.bind_some, e1]
    simp only []
    rw [q1, Option.bind_some]
  unfold P_lockScenes
  show (X6_lockScenes tl S D C E G F Hs tx).bind _ = _
  rw [ev, e7]
  rfl
/-- element e is the first one on its page -/
def fsB (pN : Nat → Nat) (e : Nat) : Bool := decide (e = 0 ∨ pN (e - 1) ≠ pN e)
def Spl (pN : Nat → Nat) (n r j : Nat) : Prop := j ≤ n ∧ (∀ e, e < j → pN e < r) ∧ ∀ e, j ≤ e → e < n → r ≤ pN e
theorem spl_ex {pN : Nat → Nat} (r : Nat) : ∀ n, (∀ e e', e < e' → e' < n → pN e ≤ pN e') → ∃ j, Spl pN n r j := by
  intro n
  induction n with
  | zero => intro _; exact ⟨0, Nat.le_refl _, fun e h => absurd h (Nat.not_lt_zero _), fun e _ h => absurd h (Nat.not_lt_zero _)⟩
  | succ n ih =>
    intro hm
    obtain ⟨j, j1, j2, j3⟩ := ih (fun e e' a b => hm e e' a (by omega))
    by_cases c : pN n < r
    · by_cases d : j = n
      · refine ⟨n + 1, Nat.le_refl _, fun e he => ?_, fun e a b => by omega⟩
        by_cases f : e = n
        · rw [f]; exact c
        · exact j2 e (by omega)
      · exfalso
        have := j3 j (Nat.le_refl _) (by omega)
        have := hm j n (by omega) (by omega)
        omega
    · refine ⟨j, by omega, j2, fun e a b => ?_⟩
      by_cases f : e = n
      · rw [f]; omega
      · exact j3 e a (by omega)
theorem op_pages (hI : IX x n L) (hR : LR x.2.1 n L g k ln pr lb mk) : ∃ c pN xs us, L_sets g k ln mk z0R z0R (nI L) = some (nI c, xs, us) ∧ c ≤ n ∧ XS n xs pN ∧ (∀ e, e < n → pN e < 60) ∧
    ∀ mk' : Rw, (∀ e, e < n → mk' e = if fsB pN e = true then nI (ctN (fsB pN) (e + 1)) else 0) → ∃ x', P_lockPages x = some (nI (ctN (fsB pN) n), x') ∧ IX x' n L ∧ LR x'.2.1 n L g k ln pr lb mk' := by
  obtain ⟨tl, S, D, C, E, G, F, Hs, tx⟩ := x
  obtain ⟨hS, hC, hG, hH, hd⟩ := hI
  have hS : SOK S n L := hS
  have hR : LR S n L g k ln pr lb mk := hR
  have hd : ¬ DUP S n := hd
  have hH : HO Hs := hH
  have hn := hS.2.2.1
  obtain ⟨-, c, pN, hc, hg, ⟨b1, b2, b3⟩, bL⟩ := (hG : PGk G S n L)
  obtain ⟨xs, us, l1, l2⟩ := bL g k ln pr lb mk hR
  refine ⟨c, pN, xs, us, l1, hc, l2, fun e he => by have := (b1 e he).2; omega, fun mk' hmk => ?_⟩
  have cp := copy_eq (S := S) (D := D) hS.2.2.1
  obtain ⟨T0, hT0⟩ : ∃ T0, T0 = X5_copyFrom D S := ⟨_, rfl⟩
  rw [← hT0] at cp
  -- the old marks go
  obtain ⟨X1, h1, T1, i1, i2⟩ := zl_up (body := b_X6_lockPages_13 tl E F tx) (fun j (v : t_Script × t_Script × t_Scenes × t_Pages × t_Hist × Int32) => ∃ f, v = (S, (T0.1, T0.2.1, T0.2.2.1, T0.2.2.2.1, T0.2.2.2.2.1, f, T0.2.2.2.2.2.2.1, T0.2.2.2.2.2.2.2.1, T0.2.2.2.2.2.2.2.2.1, T0.2.2.2.2.2.2.2.2.2), C, G, Hs, nI j) ∧ ∀ e, e < j → f e = -1) (fun X => ∃ f, X = (S, (T0.1, T0.2.1, T0.2.2.1, T0.2.2.2.1, T0.2.2.2.2.1, f, T0.2.2.2.2.2.2.1, T0.2.2.2.2.2.2.2.1, T0.2.2.2.2.2.2.2.2.1, T0.2.2.2.2.2.2.2.2.2), C, G, Hs) ∧ ∀ e, e < n → f e = -1) n
    (fun rec v hv => by
      obtain ⟨f, rfl, hf⟩ := hv
      unfold b_X6_lockPages_13
      simp only []
      rw [if_pos (show T0.1 ≤ nI n by rw [cp.1.trans hS.1]; exact nI_le (Nat.le_refl _) (by omega))]
      exact ⟨_, rfl, f, rfl, hf⟩)
    (fun rec j v hj hv kk => by
      obtain ⟨f, rfl, hf⟩ := hv
      unfold b_X6_lockPages_13
      simp only [zlet_e, nI_1]
      rw [if_neg (show ¬ T0.1 ≤ nI j by rw [cp.1.trans hS.1]; exact nI_ge hj (by omega)), rPut_nI (by decide) _ (by omega)]
      refine kk _ ⟨upd f j (-1), rfl, fun e he => ?_⟩
      by_cases z : e = j
      · subst z; exact pk_us
      · rw [pk_un z]; exact hf e (by omega))
    FU 0 (S, T0, C, G, Hs, 0) (Nat.zero_le _) ⟨T0.2.2.2.2.2.1, rfl, fun e h => absurd h (Nat.not_lt_zero _)⟩ (show n - 0 < 3000 by omega)
  -- the first element of each page
  obtain ⟨X2, h2, T2, r, j1, j2, j3⟩ := zl_up (body := b_X6_lockPages_46 tl E F tx) (fun r (v : t_Script × t_Script × t_Scenes × t_Pages × t_Hist × Int32 × Int32) => ∃ f q, v = (S, (T0.1, T0.2.1, T0.2.2.1, T0.2.2.2.1, T0.2.2.2.2.1, f, T0.2.2.2.2.2.2.1, T0.2.2.2.2.2.2.2.1, T0.2.2.2.2.2.2.2.2.1, T0.2.2.2.2.2.2.2.2.2), C, G, Hs, nI q, nI r) ∧ q ≤ n ∧ (∀ e, e < n → f e = if fsB pN e = true ∧ pN e < r then nI (ctN (fsB pN) (e + 1)) else -1) ∧ ∀ j, Spl pN n r j → q = ctN (fsB pN) j)
    (fun X => ∃ f q, X = (S, (T0.1, T0.2.1, T0.2.2.1, T0.2.2.2.1, T0.2.2.2.2.1, f, T0.2.2.2.2.2.2.1, T0.2.2.2.2.2.2.2.1, T0.2.2.2.2.2.2.2.2.1, T0.2.2.2.2.2.2.2.2.2), C, G, Hs, nI q) ∧ (∀ e, e < n → f e = if fsB pN e = true then nI (ctN (fsB pN) (e + 1)) else -1) ∧ q = ctN (fsB pN) n) c
    (fun rec v hv => by
      obtain ⟨f, q, rfl, -, hf, hq⟩ := hv
      unfold b_X6_lockPages_46
      simp only []
      rw [hg, if_pos (nI_le (Nat.le_refl _) (by omega))]
      refine ⟨_, rfl, f, q, rfl, fun e he => ?_, hq n ⟨Nat.le_refl _, fun e he => (b1 e he).2, fun e a b => by omega⟩⟩
      rw [hf e he]
      by_cases z : fsB pN e = true
      · rw [if_pos z, if_pos ⟨z, (b1 e he).2⟩]
      · rw [if_neg z, if_neg (fun h => z h.1)])
    (fun rec r v hr hv kk => by
      obtain ⟨f, q, rfl, hqn, hf, hq⟩ := hv
      obtain ⟨j, sj⟩ := spl_ex (pN := pN) r n b2
      have sj' := sj
      obtain ⟨s1, s2, s3⟩ := sj
      unfold b_X6_lockPages_46
      simp only [zlet_e, nI_1]
      rw [hg, if_neg (nI_ge hr (by omega)), rAt_nI (by decide) _ (by omega)]
      rcases b3 r hr with ⟨f1, f2⟩ | ⟨e, f1, f2, f3, f4⟩
      · rw [if_pos f1]
        refine kk _ ⟨f, q, rfl, hqn, fun e he => ?_, fun j' sj2 => ?_⟩
        · rw [hf e he]
          have := f2 e he
          by_cases z : fsB pN e = true ∧ pN e < r
          · rw [if_pos z, if_pos ⟨z.1, by omega⟩]
          · rw [if_neg z, if_neg (fun h => z ⟨h.1, by have := h.2; omega⟩)]
        · refine hq j' ⟨sj2.1, fun e he => ?_, fun e a b => by have := sj2.2.2 e a b; omega⟩
          have := sj2.2.1 e he
          have := f2 e (by have := sj2.1; omega)
          omega
      · have hne : ¬ nI e = -1 := fun z => nI_pos (n := e) (by omega) (by rw [z]; decide)
        -- the first of the page is where the pages behind begin
        have ej : e = j := by
          have a1 : j ≤ e := by
            by_cases z : j ≤ e
            · exact z
            · have := s2 e (by omega)
              omega
          by_cases z : e = j
          · exact z
          · exfalso
            have := s3 j (Nat.le_refl _) (by omega)
            have := b2 j e (by omega) f1
            exact f4 j (by omega) (by omega)
        subst ej
        have hq9 := hq e sj'
        have fe : fsB pN e = true := by
          unfold fsB
          by_cases z : e = 0
          · simp [z]
          · have := f4 (e - 1) (by omega)
            simp
            exact Or.inr (by omega)
        have fo : ∀ e', e < e' → e' < n → pN e' = r → ¬ fsB pN e' = true := by
          intro e' a b c2 d
          unfold fsB at d
          simp only [decide_eq_true_eq] at d
          rcases d with d | d
          · omega
          · by_cases z : e = e' - 1
            · rw [← z] at d; omega
            · have := b2 e (e' - 1) (by omega) (by omega)
              have := b2 (e' - 1) e' (by omega) (by omega)
              omega
        have hcount := ct_le (fsB pN) e
        rw [f2, if_neg hne, rPut_nI (by decide) _ (by omega)]
        refine kk _ ⟨upd f e (nI (q + 1)), q + 1, rfl, by omega, fun e' he' => ?_, fun j' sj2 => ?_⟩
        · by_cases z : e' = e
          · subst z
            rw [pk_us, if_pos ⟨fe, by omega⟩, ct_s1 fe, hq9]
          · rw [pk_un z, hf e' he']
            by_cases y : fsB pN e' = true ∧ pN e' < r
            · rw [if_pos y, if_pos ⟨y.1, by omega⟩]
            · rw [if_neg y, if_neg]
              rintro ⟨y1, y2⟩
              by_cases w : pN e' = r
              · by_cases u : e < e'
                · exact fo e' u he' w y1
                · exact f4 e' (by omega) w
              · exact y ⟨y1, by omega⟩
        · have a1 : e < j' := by
            by_cases z : e < j'
            · exact z
            · have := sj2.2.2 e (by omega) f1
              omega
          have : ∀ d, e + 1 + d ≤ j' → ctN (fsB pN) (e + 1 + d) = ctN (fsB pN) (e + 1) := by
            intro d
            induction d with
            | zero => intro _; rfl
            | succ d ih =>
              intro hd2
              rw [show e + 1 + (d + 1) = e + 1 + d + 1 by omega]
              have p1 := sj2.2.1 (e + 1 + d) (by omega)
              have p2 := b2 e (e + 1 + d) (by omega) (by have := sj2.1; omega)
              rw [ct_s0 (fo (e + 1 + d) (by omega) (by have := sj2.1; omega) (by omega))]
              exact ih (by omega)
          have h9 := this (j' - (e + 1)) (by omega)
          rw [show e + 1 + (j' - (e + 1)) = j' by omega] at h9
          rw [h9, ct_s1 fe, hq9])
    FU 0 (S, (T0.1, T0.2.1, T0.2.2.1, T0.2.2.2.1, T0.2.2.2.2.1, T1, T0.2.2.2.2.2.2.1, T0.2.2.2.2.2.2.2.1, T0.2.2.2.2.2.2.2.2.1, T0.2.2.2.2.2.2.2.2.2), C, G, Hs, 0, 0) (Nat.zero_le _) ⟨T1, 0, rfl, Nat.zero_le _, fun e he => by rw [if_neg (fun h => absurd h.2 (Nat.not_lt_zero _))]; exact i2 e he, fun j sj => by
      by_cases z : j = 0
      · rw [z]; rfl
      · exact absurd (sj.2.1 0 (by omega)) (Nat.not_lt_zero _)⟩ (show c - 0 < 3000 by omega)
  obtain ⟨T, hT⟩ : ∃ T : t_Script, T = (T0.1, T0.2.1, T0.2.2.1, T0.2.2.2.1, T0.2.2.2.2.1, T2, T0.2.2.2.2.2.2.1, T0.2.2.2.2.2.2.2.1, T0.2.2.2.2.2.2.2.2.1, T0.2.2.2.2.2.2.2.2.2) := ⟨_, rfl⟩
  have row : ∀ i, i < n → RowEq S T i i := by
    intro i hi
    rw [hT]
    exact (cp.2.2 i hi).1
  have tmk : T.2.2.2.2.2.1 = T2 := by rw [hT]
  have sT : SOK T n L := by
    refine ⟨by rw [hT]; exact cp.1.trans hS.1, by rw [hT]; exact cp.2.1.trans hS.2.1, hn, hS.2.2.2.1, hS.2.2.2.2.1, fun i hi => EOK_of (row i hi) (hS.e hi)⟩
  have leq : LEq S T n := fun i hi => by
    obtain ⟨r1, r2, r3, r4, r5, r6, r7⟩ := row i hi
    exact ⟨r1, by rw [r4], fun _ => ⟨r5, r6, r7⟩⟩
  have rT : LR T n L g k ln pr lb mk' := by
    refine ⟨hR.1, hR.2.1, hR.2.2.1, fun i hi => LE_row (hR.le hi) (row i hi) rfl rfl rfl rfl ?_ (leq_lo leq i (by omega)).1⟩
    rw [tmk, j2 i hi, hmk i hi]
    have := ct_le (fsB pN) (i + 1)
    by_cases z : fsB pN i = true
    · rw [if_pos z, if_pos z]
      exact Or.inr ⟨ctN (fsB pN) (i + 1), by rw [ct_s1 z]; omega, by omega, rfl, rfl⟩
    · rw [if_neg z, if_neg z]
      exact Or.inl ⟨rfl, rfl⟩
  have nodup : ¬ DUP T n := fun d => hd (leq_dup hS sT leq d)
  obtain ⟨S', C', G', Hs', q1, q2, q3, q4⟩ := keep_l hH sT rT nodup tl S C E G F tx
  refine ⟨(tl, S', T, C', E, G', F, Hs', tx), ?_, q4 _ _ _ _ _, q3⟩
  have ev : X6_lockPages tl S D C E G F Hs tx = some (nI r, S', T, C', G', Hs') := by
    unfold X6_lockPages
    simp only [zlet_e]
    rw [← hT0, h1, Option.bind_some, i1]
    simp only []
    rw [h2, Option.bind_some, j1, ← hT]
    simp only []
    rw [q1, Option.bind_some]
  unfold P_lockPages
  show (X6_lockPages tl S D C E G F Hs tx).bind _ = _
  rw [ev, j3]
  rfl
end PQ
