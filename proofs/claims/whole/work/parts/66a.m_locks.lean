-- lockScenes: class and reference
def LBw (S : t_Script) (n h w : Nat) : Int32 := if w = 0 then lbA S n h else if w = 1 then lbB S n h else lbC S n h
def ulN (S : t_Script) (j : Nat) : Nat := ctN (fun i => decide (S.2.2.1 i = 0 ∧ S.2.2.2.2.2.2.1 i = 0)) j
def mLb (M : t_Model) (p : Rw) : t_Model := (M.1, M.2.1, M.2.2.1, M.2.2.2.1, M.2.2.2.2.1, M.2.2.2.2.2.1, M.2.2.2.2.2.2.1, M.2.2.2.2.2.2.2.1, M.2.2.2.2.2.2.2.2.1, M.2.2.2.2.2.2.2.2.2.1, M.2.2.2.2.2.2.2.2.2.2.1, M.2.2.2.2.2.2.2.2.2.2.2.1, M.2.2.2.2.2.2.2.2.2.2.2.2.1, M.2.2.2.2.2.2.2.2.2.2.2.2.2.1, M.2.2.2.2.2.2.2.2.2.2.2.2.2.2.1, p, M.2.2.2.2.2.2.2.2.2.2.2.2.2.2.2.2.1, M.2.2.2.2.2.2.2.2.2.2.2.2.2.2.2.2.2.1, M.2.2.2.2.2.2.2.2.2.2.2.2.2.2.2.2.2.2)
theorem mLb_s (M : t_Model) (p : Rw) : (mLb M p).1 = M.1 := rfl
theorem mLb_l (M : t_Model) (p : Rw) : (mLb M p).2.2.2.2.2.2.2.2.2.2.2.2.2.2.2.1 = p := rfl
theorem mLb2 (M : t_Model) (p q : Rw) : mLb (mLb M p) q = mLb M q := rfl
theorem mSL (M : t_Model) (p q : Rw) : (mSet (mLb M p) q).2.2.2.2.2.2.2.2.2.2.2.2.2.2.2.1 = p := rfl
section MLk
variable {S : t_Script} {M : t_Model} {n L : Nat} {C : t_Scenes} {G : t_Pages} {Hs : t_Hist} {tl : Int32} {tx : Rw}
theorem ul_same {h : Nat} : ∀ {j : Nat}, j ≤ h → hcN S.2.2.1 j = hcN S.2.2.1 h → ulN S h = ulN S j := by
  induction h with
  | zero => intro j hj _; rw [show j = 0 by omega]
  | succ h ih =>
    intro j hj e
    by_cases c : j = h + 1
    · rw [c]
    · have hk := hc_same hj e h (by omega) (by omega)
      have e2 : ulN S (h + 1) = ulN S h := by
        show ulN S h + (if decide (S.2.2.1 h = 0 ∧ S.2.2.2.2.2.2.1 h = 0) = true then 1 else 0) = ulN S h
        simp [hk]
      rw [e2]
      exact ih (by omega) (by rw [e, hc_s1 hk])
theorem lbA_ne (hS : SOK S n L) {h : Nat} (hh : h < n) : lbA S n h ≠ -1 := by
  have hn := hS.2.2.1
  unfold lbA
  by_cases hl : S.2.2.2.2.2.2.1 h = 0
  · rw [if_pos hl]
    by_cases c : xsN S.2.2.2.2.2.2.1 h = 0 ∧ ysN S.2.2.2.2.2.2.1 n h = n
    · rw [if_pos c]
      have := ks_le S.2.2.1 S.2.2.2.2.2.2.1 (h + 1)
      exact fun e => nI_pos (n := ksN S.2.2.1 S.2.2.2.2.2.2.1 (h + 1)) (by omega) (by rw [e]; decide)
    · rw [if_neg c]
      by_cases hx : xsN S.2.2.2.2.2.2.1 h = 0
      · rw [if_pos hx]; decide
      · rw [if_neg hx]
        have := xs_le S.2.2.2.2.2.2.1 h
        exact (hS.e (show xsN S.2.2.2.2.2.2.1 h - 1 < n by omega)).2.2.2.2.2.2 (xs_lk S.2.2.2.2.2.2.1 h hx)
  · rw [if_neg hl]
    exact (hS.e hh).2.2.2.2.2.2 hl
/-- the rows of locks and labels, all scenes up to scene s being locked -/
def LKx (S : t_Script) (n s : Nat) (lk la lb lc : Rw) : Prop := ∀ h, h < n → (S.2.2.1 h = 0 ∧ S.2.2.2.2.2.2.1 h = 0 ∧ hcN S.2.2.1 h < s → lk h = 1 ∧ la h = lbA S n h ∧ lb h = lbB S n h ∧ lc h = lbC S n h) ∧ (¬ (S.2.2.1 h = 0 ∧ S.2.2.2.2.2.2.1 h = 0 ∧ hcN S.2.2.1 h < s) → lk h = S.2.2.2.2.2.2.1 h ∧ la h = S.2.2.2.2.2.2.2.1 h ∧ lb h = S.2.2.2.2.2.2.2.2.1 h ∧ lc h = S.2.2.2.2.2.2.2.2.2 h)
theorem locks_x (hS : SOK S n L) (hC : CSok C S n) {T : t_Script} (hT : SEq S T n) (E : t_Scenes) (F : t_Pages) (G : t_Pages) (Hs : t_Hist) : ∃ lk la lb lc, zloop (b_X6_lockScenes_15 tl E F tx) FU (S, T, C, G, Hs, 0, 0) = some (S, (T.1, T.2.1, T.2.2.1, T.2.2.2.1, T.2.2.2.2.1, T.2.2.2.2.2.1, lk, la, lb, lc), C, G, Hs, nI (ulN S n)) ∧ LKx S n (hcN S.2.2.1 n) lk la lb lc := by
  have hn := hS.2.2.1
  have hcl := hc_le S.2.2.1 n
  obtain ⟨X, h1, lk, la, lb, lc, h2, h3⟩ := zl_up (body := b_X6_lockScenes_15 tl E F tx)
    (fun s v => ∃ lk la lb lc j, v = (S, (T.1, T.2.1, T.2.2.1, T.2.2.2.1, T.2.2.2.2.1, T.2.2.2.2.2.1, lk, la, lb, lc), C, G, Hs, nI (ulN S j), nI s) ∧ j ≤ n ∧ hcN S.2.2.1 j = s ∧ LKx S n s lk la lb lc)
    (fun X => ∃ lk la lb lc, X = (S, (T.1, T.2.1, T.2.2.1, T.2.2.2.1, T.2.2.2.2.1, T.2.2.2.2.2.1, lk, la, lb, lc), C, G, Hs, nI (ulN S n)) ∧ LKx S n (hcN S.2.2.1 n) lk la lb lc) (hcN S.2.2.1 n)
    (fun rec v hv => by
      obtain ⟨lk, la, lb, lc, j, rfl, j1, j2, j3⟩ := hv
      unfold b_X6_lockScenes_15
      rw [if_pos (show C.1 ≤ _ by rw [hC.1]; exact nI_le (Nat.le_refl _) (by omega))]
      exact ⟨_, rfl, lk, la, lb, lc, by rw [ul_same j1 j2], j3⟩)
    (fun rec s v hs hv k => by
      obtain ⟨lk, la, lb, lc, j, rfl, j1, j2, j3⟩ := hv
      obtain ⟨h, hh1, hh2, hh3⟩ := hc_ex hs
      obtain ⟨c1, c2, c3, c4⟩ := hC.2.2.2.1 h hh1 hh2
      rw [hh3] at c1 c2 c3 c4
      have hjh : j ≤ h := by
        by_cases e : h < j
        · have := hc_lt e hh2; omega
        · omega
      have eu : ulN S h = ulN S j := ul_same hjh (by rw [j2, hh3])
      have as : ∀ f : Rw, rAt 60 f (nI s) = f s := fun f => rAt_nI (by decide) f (by omega)
      have rh : ∀ (f : Rw) (x : Int32), rPut 60 f (nI h) x = upd f h x := fun f x => rPut_nI (by decide) f (by omega) x
      have hc1 : hcN S.2.2.1 (h + 1) = s + 1 := by rw [hc_s0 hh2, hh3]
      have e2 : ulN S (h + 1) = ulN S h + (if decide (S.2.2.1 h = 0 ∧ S.2.2.2.2.2.2.1 h = 0) = true then 1 else 0) := rfl
      have same : ∀ h', h' < n → h' ≠ h → S.2.2.1 h' = 0 → (hcN S.2.2.1 h' < s + 1 ↔ hcN S.2.2.1 h' < s) := by
        intro h' _ b1 b2
        constructor
        · intro b3
          by_cases b4 : hcN S.2.2.1 h' = s
          · exact absurd (hc_inj b2 hh2 (by omega)) b1
          · omega
        · intro b3; omega
      unfold b_X6_lockScenes_15 X5_lock
      simp only [zlet_e, nI_1, as, c1, c2, c3, c4, rh]
      rw [if_neg (show ¬ C.1 ≤ _ by rw [hC.1]; exact nI_ge hs (by omega)), lock_x hS hh1]
      by_cases hl : S.2.2.2.2.2.2.1 h = 0
      · rw [if_pos hl, if_pos rfl]
        refine k _ ⟨upd lk h 1, upd la h (lbA S n h), upd lb h (lbB S n h), upd lc h (lbC S n h), h + 1, ?_, by omega, hc1, fun h' b1 => ?_⟩
        · rw [e2, eu]
          simp [hl, hh2]
        · by_cases e : h' = h
          · subst e
            rw [pk_us, pk_us, pk_us, pk_us]
            exact ⟨fun _ => ⟨rfl, rfl, rfl, rfl⟩, fun b => absurd ⟨hh2, hl, by omega⟩ b⟩
          · rw [pk_un e, pk_un e, pk_un e, pk_un e]
            obtain ⟨d1, d2⟩ := j3 h' b1
            exact ⟨fun ⟨b2, b3, b4⟩ => d1 ⟨b2, b3, (same h' b1 e b2).mp b4⟩, fun b2 => d2 (fun ⟨b3, b4, b5⟩ => b2 ⟨b3, b4, (same h' b1 e b3).mpr b5⟩)⟩
      · rw [if_neg hl, if_neg (by decide)]
        refine k _ ⟨lk, la, lb, lc, h + 1, ?_, by omega, hc1, fun h' b1 => ?_⟩
        · rw [e2, eu]
          simp [hl]
        · obtain ⟨d1, d2⟩ := j3 h' b1
          by_cases e : h' = h
          · subst e
            exact ⟨fun ⟨_, b3, _⟩ => absurd b3 hl, fun _ => d2 (fun ⟨_, b3, _⟩ => hl b3)⟩
          · exact ⟨fun ⟨b2, b3, b4⟩ => d1 ⟨b2, b3, (same h' b1 e b2).mp b4⟩, fun b2 => d2 (fun ⟨b3, b4, b5⟩ => b2 ⟨b3, b4, (same h' b1 e b3).mpr b5⟩)⟩)
    FU 0 (S, T, C, G, Hs, 0, 0) (Nat.zero_le _) ⟨T.2.2.2.2.2.2.1, T.2.2.2.2.2.2.2.1, T.2.2.2.2.2.2.2.2.1, T.2.2.2.2.2.2.2.2.2, 0, rfl, Nat.zero_le _, rfl, fun h hh => by
      obtain ⟨⟨e1, e2, e3, e4, e5, e6, e7⟩, -⟩ := hT.2.2 h hh
      exact ⟨fun ⟨_, _, b⟩ => absurd b (Nat.not_lt_zero _), fun _ => ⟨e4, e5, e6, e7⟩⟩⟩ (show hcN S.2.2.1 n - 0 < 3000 by omega)
  exact ⟨lk, la, lb, lc, by rw [h1, h2], h3⟩
theorem labs_t (hS : SOK S n L) (hM : MR S M.1 n L) : ∃ lab, zloop (b_X7_lockScenes_8 0) FU (M, 0) = some (mLb M lab) ∧ ∀ h w, h < n → w < 3 → S.2.2.1 h = 0 → lab (3 * h + w) = LBw S n h w := by
  have hn := hS.2.2.1
  obtain ⟨X, h1, lab, h2, h3⟩ := zl_up (body := b_X7_lockScenes_8 0) (fun j v => ∃ lab, v = (mLb M lab, nI j) ∧ ∀ h w, 3 * h + w < j → w < 3 → S.2.2.1 h = 0 → lab (3 * h + w) = LBw S n h w) (fun X => ∃ lab, X = mLb M lab ∧ ∀ h w, h < n → w < 3 → S.2.2.1 h = 0 → lab (3 * h + w) = LBw S n h w) (3 * n)
    (fun rec v hv => by
      obtain ⟨lab, rfl, hl⟩ := hv
      unfold b_X7_lockScenes_8
      simp only [zlet_e, mLb_s]
      rw [zix1, cl1, hM.2.1, show (3 : Int32) = nI 3 from rfl, pk_mul, if_pos (nI_le (Nat.le_refl _) (by omega))]
      exact ⟨_, rfl, lab, rfl, fun h w a b c => hl h w (by omega) b c⟩)
    (fun rec j v hj hv k => by
      obtain ⟨lab, rfl, hl⟩ := hv
      obtain ⟨d1, d2⟩ := dv_t (k := j) (m := 3) (by omega) (by decide) (by decide)
      have hq : j / 3 < n := Nat.div_lt_of_lt_mul hj
      have hr : j % 3 < 3 := Nat.mod_lt _ (by decide)
      have hdm : 3 * (j / 3) + j % 3 = j := Nat.div_add_mod j 3
      have uq : ∀ h w, w < 3 → 3 * h + w = j → h = j / 3 ∧ w = j % 3 := fun h w a b => by omega
      have up : ∀ x : Int32, (S.2.2.1 (j / 3) = 0 → x = LBw S n (j / 3) (j % 3)) → ∀ h w, 3 * h + w < j + 1 → w < 3 → S.2.2.1 h = 0 → upd lab j x (3 * h + w) = LBw S n h w := by
        intro x hx h w a b c
        by_cases e : 3 * h + w = j
        · obtain ⟨e1, e2⟩ := uq h w b e
          rw [e, pk_us, e1, e2]
          exact hx (by rw [← e1]; exact c)
        · rw [pk_un e]
          exact hl h w (by omega) b c
      unfold b_X7_lockScenes_8
      simp only [zlet_e, mLb_s, nI_1, mLb_l]
      rw [zix1, cl1, hM.2.1, show (3 : Int32) = nI 3 from rfl, pk_mul, if_neg (nI_ge hj (by omega)), d2, d1, head_t (M := mLb M lab) hS hM hq, Option.bind_some, zix_nI (by omega) (by decide), nI_clamp (by omega)]
      by_cases hk : S.2.2.1 (j / 3) = 0
      · rw [if_pos hk, if_neg (by decide)]
        obtain ⟨l0, l1, l2⟩ := label_t (M := mLb M lab) hS hM hq hk
        have lb : X7_label (mLb M lab) (nI (j / 3)) (nI (j % 3)) = some (LBw S n (j / 3) (j % 3)) := by
          rcases (show j % 3 = 0 ∨ j % 3 = 1 ∨ j % 3 = 2 by omega) with e | e | e <;> rw [e]
          · exact l0
          · exact l1
          · exact l2
        rw [lb, Option.bind_some, zix_nI (by omega) (by decide)]
        exact k _ ⟨_, rfl, up _ (fun _ => rfl)⟩
      · rw [if_neg hk, if_pos rfl]
        exact k _ ⟨_, rfl, up _ (fun h => absurd h hk)⟩)
    FU 0 (M, 0) (Nat.zero_le _) ⟨M.2.2.2.2.2.2.2.2.2.2.2.2.2.2.2.1, rfl, fun h w a => absurd a (Nat.not_lt_zero _)⟩ (show 3 * n - 0 < 3000 by omega)
  exact ⟨lab, by rw [h1, h2], h3⟩
/-- the reference's row, the headings ahead of place k being locked -/
def LKm (S : t_Script) (n k : Nat) (m0 m : Rw) : Prop := m 0 = m0 0 ∧ m 1 = m0 1 ∧ ∀ i, i < n → ∀ w, w < 9 → (i < k ∧ S.2.2.1 i = 0 ∧ 4 ≤ w ∧ w < 8 → m (2 + 9 * i + w) = if w = 4 then 1 else LBw S n i (w - 5)) ∧ (¬ (i < k ∧ S.2.2.1 i = 0 ∧ 4 ≤ w ∧ w < 8) → m (2 + 9 * i + w) = m0 (2 + 9 * i + w))
theorem put3_t {N : t_Model} {k : Nat} (hk : k < n) (hn : n ≤ 60) (lab m0 : Rw) (hlab : ∀ w, w < 3 → lab (3 * k + w) = LBw S n k w) (u : Int32) : ∃ m, zloop (b_X7_lockScenes_103 u (nI k)) FU (mSet (mLb N lab) m0, 0) = some (mSet (mLb N lab) m) ∧ ∀ j, m j = if 2 + 9 * k + 5 ≤ j ∧ j < 2 + 9 * k + 8 then LBw S n k (j - (2 + 9 * k + 5)) else m0 j := by
  obtain ⟨X, h1, m, h2, h3⟩ := zl_up (body := b_X7_lockScenes_103 u (nI k)) (fun w v => ∃ m, v = (mSet (mLb N lab) m, nI w) ∧ ∀ j, m j = if 2 + 9 * k + 5 ≤ j ∧ j < 2 + 9 * k + 5 + w then LBw S n k (j - (2 + 9 * k + 5)) else m0 j) (fun X => ∃ m, X = mSet (mLb N lab) m ∧ ∀ j, m j = if 2 + 9 * k + 5 ≤ j ∧ j < 2 + 9 * k + 8 then LBw S n k (j - (2 + 9 * k + 5)) else m0 j) 3
    (fun rec v hv => by
      obtain ⟨m, rfl, hm⟩ := hv
      unfold b_X7_lockScenes_103
      rw [if_pos (show (3 : Int32) ≤ nI 3 by decide)]
      exact ⟨_, rfl, m, rfl, hm⟩)
    (fun rec w v hw hv kk => by
      obtain ⟨m, rfl, hm⟩ := hv
      unfold b_X7_lockScenes_103
      simp only [zlet_e, nI_1, mSL]
      rw [if_neg (show ¬ (3 : Int32) ≤ nI w from nI_ge (b := 3) hw (by decide)), show (3 : Int32) = nI 3 from rfl, show (5 : Int32) = nI 5 from rfl, pk_mul, nI_add, nI_add, zix_nI (by omega) (by decide), nI_clamp (by omega), hlab w hw, puts_t _ (by omega) (by omega), Option.bind_some, mSet_s, mSet2]
      refine kk _ ⟨_, rfl, fun j => ?_⟩
      rw [upd_t]
      by_cases e : j = 2 + 9 * k + (5 + w)
      · rw [if_pos e, if_pos (by omega), show j - (2 + 9 * k + 5) = w by omega]
      · rw [if_neg e, hm]
        by_cases c : 2 + 9 * k + 5 ≤ j ∧ j < 2 + 9 * k + 5 + w
        · rw [if_pos c, if_pos (by omega)]
        · rw [if_neg c, if_neg (by omega)])
    FU 0 (mSet (mLb N lab) m0, 0) (Nat.zero_le _) ⟨m0, rfl, fun j => by rw [if_neg (by omega)]⟩ (show 3 - 0 < 3000 by decide)
  exact ⟨m, by rw [h1, h2], h3⟩
theorem locks_t (hS : SOK S n L) (hM : MR S M.1 n L) {lab : Rw} (hlab : ∀ h w, h < n → w < 3 → S.2.2.1 h = 0 → lab (3 * h + w) = LBw S n h w) : ∃ m, zloop b_X7_lockScenes_58 FU (mLb M lab, 0, 0) = some (mSet (mLb M lab) m, nI (ulN S n)) ∧ LKm S n n M.1 m := by
  have hn := hS.2.2.1
  obtain ⟨X, h1, m, h2, h3⟩ := zl_up (body := b_X7_lockScenes_58) (fun k v => ∃ m, v = (mSet (mLb M lab) m, nI (ulN S k), nI k) ∧ LKm S n k M.1 m) (fun X => ∃ m, X = (mSet (mLb M lab) m, nI (ulN S n)) ∧ LKm S n n M.1 m) n
    (fun rec v hv => by
      obtain ⟨m, rfl, hm⟩ := hv
      unfold b_X7_lockScenes_58
      simp only [zlet_e, mSet_s]
      rw [zix1, cl1, hm.2.1, hM.2.1, if_pos (nI_le (Nat.le_refl _) (by omega))]
      exact ⟨_, rfl, m, rfl, hm⟩)
    (fun rec j v hj hv k => by
      obtain ⟨m, rfl, hm⟩ := hv
      obtain ⟨m0, m1, hm2⟩ := id hm
      have hj60 : j < 60 := by omega
      have o0 : X7_of (mSet (mLb M lab) m) (nI j) 0 = some (S.2.2.1 j) := by
        rw [show (0 : Int32) = nI 0 from rfl, of_t _ hj60 (by decide), mSet_s, (hm2 j hj 0 (by decide)).2 (by omega)]
        exact congrArg some (hM.2.2 j hj).1
      have o4 : X7_of (mSet (mLb M lab) m) (nI j) 4 = some (if S.2.2.2.2.2.2.1 j = 0 then 0 else 1) := by
        rw [show (4 : Int32) = nI 4 from rfl, of_t _ hj60 (by decide), mSet_s, (hm2 j hj 4 (by decide)).2 (by omega)]
        exact congrArg some (hM.2.2 j hj).2.2.2.2.1
      have hd : X7_isHeading (mSet (mLb M lab) m) (nI j) = some (if S.2.2.1 j = 0 then 1 else 0) := by
        unfold X7_isHeading
        rw [o0, Option.bind_some]
        by_cases c : S.2.2.1 j = 0
        · rw [if_pos c, if_pos c]
        · rw [if_neg c, if_neg c]
      have w4 : X7_puts (mSet (mLb M lab) m) (nI j) 4 1 = some (mSet (mLb M lab) (upd m (2 + 9 * j + 4) 1)) := puts_t _ (w := 4) hj60 (by decide) 1
      have e2 : ulN S (j + 1) = ulN S j + (if decide (S.2.2.1 j = 0 ∧ S.2.2.2.2.2.2.1 j = 0) = true then 1 else 0) := rfl
      unfold b_X7_lockScenes_58 j_X7_lockScenes_92
      simp only [zlet_e, mSet_s, nI_1]
      rw [zix1, cl1, m1, hM.2.1, if_neg (nI_ge hj (by omega)), hd, Option.bind_some, o4, Option.bind_some, w4, Option.bind_some, Option.bind_some]
      by_cases hk : S.2.2.1 j = 0
      · have fin : ∀ u : Int32, u = nI (ulN S (j + 1)) → ∃ X, ((zloop (b_X7_lockScenes_103 u (nI j)) FU (mSet (mLb M lab) (upd m (2 + 9 * j + 4) 1), 0)).bind fun q26 => rec (q26, u, nI (j + 1))) = some X ∧ ∃ m, X = (mSet (mLb M lab) m, nI (ulN S n)) ∧ LKm S n n M.1 m := by
          intro u hu
          obtain ⟨m', p1, p2⟩ := put3_t (S := S) (N := M) hj hn lab (upd m (2 + 9 * j + 4) 1) (fun w hw => hlab j w hj hw hk) u
          rw [p1, Option.bind_some]
          refine k _ ⟨m', by rw [hu], ?_, ?_, fun i hi w hw => ?_⟩
          · rw [p2, if_neg (by omega), pk_un (by omega)]; exact m0
          · rw [p2, if_neg (by omega), pk_un (by omega)]; exact m1
          · obtain ⟨d1, d2⟩ := hm2 i hi w hw
            by_cases e : i = j
            · subst e
              refine ⟨fun ⟨_, _, b1, b2⟩ => ?_, fun b => ?_⟩
              · by_cases e4 : w = 4
                · subst e4
                  rw [p2, if_neg (by omega), pk_us, if_pos rfl]
                · rw [p2, if_pos (by omega), if_neg e4, show 2 + 9 * i + w - (2 + 9 * i + 5) = w - 5 by omega]
              · have : w < 4 ∨ 8 ≤ w := by
                  by_cases c1 : w < 4
                  · exact Or.inl c1
                  · by_cases c2 : 8 ≤ w
                    · exact Or.inr c2
                    · exact absurd ⟨by omega, hk, by omega, by omega⟩ b
                rw [p2, if_neg (by omega), pk_un (by omega)]
                exact d2 (by omega)
            · rw [p2, if_neg (by omega), pk_un (by omega)]
              exact ⟨fun ⟨b1, b2, b3⟩ => d1 ⟨by omega, b2, b3⟩, fun b => d2 (fun ⟨b1, b2, b3⟩ => b ⟨by omega, b2, b3⟩)⟩
        rw [if_pos hk, if_neg (by decide)]
        by_cases hl : S.2.2.2.2.2.2.1 j = 0
        · rw [if_pos hl, if_neg (by decide)]
          refine fin _ ?_
          rw [e2]
          simp [hl, hk]
        · rw [if_neg hl, if_pos rfl]
          refine fin _ ?_
          rw [e2, Int32.add_zero]
          simp [hl]
      · rw [if_neg hk, if_pos rfl]
        refine k _ ⟨m, ?_, m0, m1, fun i hi w hw => ?_⟩
        · rw [e2]; simp [hk]
        · obtain ⟨d1, d2⟩ := hm2 i hi w hw
          refine ⟨fun ⟨b1, b2, b3⟩ => d1 ⟨?_, b2, b3⟩, fun b => d2 (fun ⟨b1, b2, b3⟩ => b ⟨by omega, b2, b3⟩)⟩
          by_cases e : i = j
          · subst e; exact absurd b2 hk
          · omega)
    FU 0 (mLb M lab, 0, 0) (Nat.zero_le _) ⟨M.1, rfl, rfl, rfl, fun i hi w hw => ⟨fun ⟨b, _⟩ => absurd b (Nat.not_lt_zero _), fun _ => rfl⟩⟩ (show n - 0 < 3000 by omega)
  exact ⟨m, by rw [h1, h2], h3⟩
theorem m_lockScenes (hI : InvC tl S C G Hs tx M) (D : t_Script) (E : t_Scenes) (F : t_Pages) : ∃ R M', X6_lockScenes tl S D C E G F Hs tx = some R ∧ X7_lockScenes M = some (R.1, M') ∧ InvC tl R.2.1 R.2.2.2.1 R.2.2.2.2.1 R.2.2.2.2.2 tx M' := by
  obtain ⟨n, L, hS, hM, hC, hG, hH, hT⟩ := id hI
  have hn := hS.2.2.1
  obtain ⟨a, a1, a2, a3⟩ := hold_mr hS hM
  have cp := copy_eq (S := S) (D := D) hn
  obtain ⟨T, hT9⟩ : ∃ T, T = X5_copyFrom D S := ⟨_, rfl⟩
  rw [← hT9] at cp
  obtain ⟨lk, la, lb, lc, x1, x2⟩ := locks_x (tl := tl) (tx := tx) hS hC cp E F G Hs
  obtain ⟨lab, l1, l2⟩ := labs_t (M := mAs M a) hS a3
  obtain ⟨m, m1, m2⟩ := locks_t (M := mAs M a) hS a3 l2
  have tS := cp.ok hS
  have rows : ∀ h, h < n → lk h = (if S.2.2.1 h = 0 ∧ S.2.2.2.2.2.2.1 h = 0 then 1 else S.2.2.2.2.2.2.1 h) ∧ (S.2.2.1 h = 0 → la h = lbA S n h ∧ lb h = lbB S n h ∧ lc h = lbC S n h) ∧ (S.2.2.1 h ≠ 0 → la h = S.2.2.2.2.2.2.2.1 h ∧ lb h = S.2.2.2.2.2.2.2.2.1 h ∧ lc h = S.2.2.2.2.2.2.2.2.2 h) := by
    intro h hh
    obtain ⟨d1, d2⟩ := x2 h hh
    by_cases hk : S.2.2.1 h = 0
    · have hlt := hc_lt hh hk
      by_cases hl : S.2.2.2.2.2.2.1 h = 0
      · rw [if_pos ⟨hk, hl⟩]
        obtain ⟨e1, e2⟩ := d1 ⟨hk, hl, hlt⟩
        exact ⟨e1, fun _ => e2, fun h => absurd hk h⟩
      · rw [if_neg (fun h => hl h.2)]
        obtain ⟨e1, e2, e3, e4⟩ := d2 (fun h => hl h.2.1)
        refine ⟨e1, fun _ => ?_, fun h => absurd hk h⟩
        unfold lbA lbB lbC
        rw [if_neg hl, if_neg hl, if_neg hl]
        exact ⟨e2, e3, e4⟩
    · rw [if_neg (fun h => hk h.1)]
      obtain ⟨e1, e2⟩ := d2 (fun h => hk h.1)
      exact ⟨e1, fun h => absurd h hk, fun _ => e2⟩
  have kS : SOK (T.1, T.2.1, T.2.2.1, T.2.2.2.1, T.2.2.2.2.1, T.2.2.2.2.2.1, lk, la, lb, lc) n L := ⟨tS.1, tS.2.1, tS.2.2.1, tS.2.2.2.1, tS.2.2.2.2.1, fun h hh => by
    obtain ⟨r1, r2, r3⟩ := rows h hh
    obtain ⟨⟨q1, q2, q3, q4, q5, q6, q7⟩, -⟩ := cp.2.2 h hh
    obtain ⟨e1, e2, e3, e4, e5, e6, e7⟩ := tS.e hh
    obtain ⟨f1, f2, f3, f4, f5, f6, f7⟩ := hS.e hh
    refine ⟨e1, e2, e3, e4, ?_, ?_, ?_⟩
    · show lk h = 0 ∨ lk h = 1 ∨ lk h = 2
      rw [r1]
      by_cases c : S.2.2.1 h = 0 ∧ S.2.2.2.2.2.2.1 h = 0
      · rw [if_pos c]; exact Or.inr (Or.inl rfl)
      · rw [if_neg c]; exact f5
    · show lk h ≠ 0 → T.2.2.1 h = 0
      rw [r1, q1]
      by_cases c : S.2.2.1 h = 0 ∧ S.2.2.2.2.2.2.1 h = 0
      · exact fun _ => c.1
      · rw [if_neg c]; exact f6
    · show lk h ≠ 0 → la h ≠ -1
      intro hne
      have hk : S.2.2.1 h = 0 := by
        rw [r1] at hne
        by_cases c : S.2.2.1 h = 0 ∧ S.2.2.2.2.2.2.1 h = 0
        · exact c.1
        · rw [if_neg c] at hne; exact f6 hne
      rw [(r2 hk).1]
      exact lbA_ne hS hh⟩
  have kM : MR (T.1, T.2.1, T.2.2.1, T.2.2.2.1, T.2.2.2.2.1, T.2.2.2.2.2.1, lk, la, lb, lc) (mSet (mLb (mAs M a) lab) m).1 n L := by
    obtain ⟨b0, b1, b2⟩ := m2
    refine ⟨b0.trans hM.1, b1.trans hM.2.1, fun h hh => ?_⟩
    obtain ⟨r1, r2, r3⟩ := rows h hh
    obtain ⟨⟨q1, q2, q3, q4, q5, q6, q7⟩, q8⟩ := cp.2.2 h hh
    obtain ⟨e0, e1, e2, e3, e4, e5, e6, e7, e8⟩ := hM.2.2 h hh
    have lo : ∀ w, w < 9 → w < 4 ∨ 8 ≤ w → m (2 + 9 * h + w) = M.1 (2 + 9 * h + w) := fun w hw c => (b2 h hh w hw).2 (by omega)
    unfold ERel
    rw [mSet_s]
    by_cases hk : S.2.2.1 h = 0
    · obtain ⟨r4, r5, r6⟩ := r2 hk
      have rl0 : S.2.2.2.2.2.2.1 h = 0 → lk h = 1 := fun hl => by rw [r1, if_pos ⟨hk, hl⟩]
      have rl1 : ¬ S.2.2.2.2.2.2.1 h = 0 → lk h = S.2.2.2.2.2.2.1 h := fun hl => by rw [r1, if_neg (fun c => hl c.2)]
      have hi : ∀ w, 4 ≤ w → w < 8 → m (2 + 9 * h + w) = if w = 4 then 1 else LBw S n h (w - 5) := fun w c1 c2 => (b2 h hh w (by omega)).1 ⟨hh, hk, c1, c2⟩
      refine ⟨(lo 0 (by decide) (by decide)).trans (e0.trans q1.symm), (lo 1 (by decide) (by decide)).trans (e1.trans q2.symm), (lo 2 (by decide) (by decide)).trans (e2.trans q3.symm), ?_, ?_, (hi 5 (by decide) (by decide)).trans r4.symm, (hi 6 (by decide) (by decide)).trans r5.symm, (hi 7 (by decide) (by decide)).trans r6.symm, (lo 8 (by decide) (by decide)).trans (e8.trans q8.symm)⟩
      · refine (lo 3 (by decide) (by decide)).trans (e3.trans ?_)
        show (if S.2.2.2.2.2.2.1 h = 2 then 1 else 0) = if lk h = 2 then 1 else 0
        by_cases hl : S.2.2.2.2.2.2.1 h = 0
        · rw [rl0 hl, hl]; decide
        · rw [rl1 hl]
      · refine (hi 4 (by decide) (by decide)).trans ?_
        show (1 : Int32) = if lk h = 0 then 0 else 1
        by_cases hl : S.2.2.2.2.2.2.1 h = 0
        · rw [rl0 hl]; decide
        · rw [rl1 hl, if_neg hl]
    · obtain ⟨r4, r5, r6⟩ := r3 hk
      have al : ∀ w, w < 9 → m (2 + 9 * h + w) = M.1 (2 + 9 * h + w) := fun w hw => (b2 h hh w hw).2 (fun c => hk c.2.1)
      have r1' : lk h = S.2.2.2.2.2.2.1 h := by rw [r1, if_neg (fun c => hk c.1)]
      refine ⟨(al 0 (by decide)).trans (e0.trans q1.symm), (al 1 (by decide)).trans (e1.trans q2.symm), (al 2 (by decide)).trans (e2.trans q3.symm), ?_, ?_, (al 5 (by decide)).trans (e5.trans r4.symm), (al 6 (by decide)).trans (e6.trans r5.symm), (al 7 (by decide)).trans (e7.trans r6.symm), (al 8 (by decide)).trans (e8.trans q8.symm)⟩
      · refine (al 3 (by decide)).trans (e3.trans ?_)
        show _ = if lk h = 2 then 1 else 0
        rw [r1']
      · refine (al 4 (by decide)).trans (e4.trans ?_)
        show _ = if lk h = 0 then 0 else 1
        rw [r1']
  obtain ⟨S', C', G', Hs', M2, k1, k2, k3, k4, k5⟩ := keep_t (M1 := mSet (mLb (mAs M a) lab) m) (C := C) (G := G) hH hS a2 kS kM hT E F (nI (ulN S n))
  refine ⟨(nI (ulN S n), S', (T.1, T.2.1, T.2.2.1, T.2.2.2.1, T.2.2.2.2.1, T.2.2.2.2.2.1, lk, la, lb, lc), C', G', Hs'), M2, ?_, ?_, k5⟩
  · unfold X6_lockScenes
    simp only [zlet_e]
    rw [← hT9, x1, Option.bind_some, k1, Option.bind_some]
  · unfold X7_lockScenes
    rw [a1, Option.bind_some, l1, Option.bind_some, m1, Option.bind_some, k2, Option.bind_some]
end MLk
