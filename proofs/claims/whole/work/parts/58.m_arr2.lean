-- the whole arrangement, class and reference
section ML
variable {S : t_Script} {n L L1 : Nat}
theorem lock_two (hS : SOK S n L) (s past aside : Rw) (pasts : Int32) (text : Rw) (typed thr : Int32) (onP0 onL0 setH0 fil0 fon0 beg0 lab : Rw) (at' num : Int32) (hh : Int64) (hM : MR S s n L1) {nd : Rw} (hN : ∀ i, i < n → NDi S n nd i) (mk q0 : Int32) (pl0 tp0 pt0 nu ex fi0 fs0 bg0 : Rw) :
    ∃ X X2, zloop (b_X1_arrange_25 S) FU ((0, mk, 0, nI L, q0, nd, pl0, tp0, pt0, nu, ex, fi0, fs0, bg0), 0) = some X ∧ zloop (b_X7_setsAll_12 (nI L)) FU ((s, past, aside, pasts, text, typed, thr, 0, 0, onP0, onL0, setH0, fil0, fon0, beg0, lab, at', num, hh), 0) = some X2 ∧
      ∃ c q' sp pl tp pt fi fs bg onP onL setH fil fon beg, X = (nI c, mk, sp, nI L, q', nd, pl, tp, pt, nu, ex, fi, fs, bg) ∧ X2 = (s, past, aside, pasts, text, typed, thr, nI c, sp, onP, onL, setH, fil, fon, beg, lab, at', num, hh) ∧ c ≤ n ∧ PG n c pl tp pt fi fs bg onP onL setH fil fon beg := by
  have hn := hS.2.2.1
  have hL20 := hS.2.2.2.1
  have hL60 := hS.2.2.2.2.1
  have i10 : ¬ ((1 : Int32) = 0) := by decide
  refine zl_two (fun j (v : t_Pages × Int32) (v2 : t_Model × Int32) => ∃ c q' sp pl tp pt fi fs bg onP onL setH fil fon beg, v = ((nI c, mk, sp, nI L, q', nd, pl, tp, pt, nu, ex, fi, fs, bg), nI j) ∧ v2 = ((s, past, aside, pasts, text, typed, thr, nI c, sp, onP, onL, setH, fil, fon, beg, lab, at', num, hh), nI j) ∧ c ≤ j ∧ (0 < j → ∃ p q, c = p + 1 ∧ q' = nI q ∧ 1 ≤ q ∧ q ≤ L ∧ fi p = nI q) ∧ PG j c pl tp pt fi fs bg onP onL setH fil fon beg) _ n ?_ ?_ FU 0 _ _ (Nat.zero_le _) ?_ (show n - 0 < 3000 by omega)
  · intro rec rec2 v v2 h
    obtain ⟨c, q', sp, pl, tp, pt, fi, fs, bg, onP, onL, setH, fil, fon, beg, rfl, rfl, hc, -, hPG⟩ := h
    unfold b_X1_arrange_25 b_X7_setsAll_12
    refine ⟨_, _, if_pos (show S.1 ≤ nI n by rw [hS.1]; exact nI_le (Nat.le_refl _) (by omega)), ?_, c, q', sp, pl, tp, pt, fi, fs, bg, onP, onL, setH, fil, fon, beg, rfl, rfl, hc, hPG⟩
    simp only [zlet_e]
    rw [zix1, cl1, hM.2.1, if_pos (nI_le (Nat.le_refl _) (by omega))]
  · intro rec rec2 j v v2 hj h k
    obtain ⟨c, q', sp, pl, tp, pt, fi, fs, bg, onP, onL, setH, fil, fon, beg, rfl, rfl, hc, hpos, hPG⟩ := h
    obtain ⟨v, w0, v1, v2, v3, v4, v5, v6, v7, -⟩ := least_x hS hj
    obtain ⟨b, hb2, hb⟩ := blanks_x hS hj
    obtain ⟨⟨w, w', d1, d2, d3, d4⟩, -⟩ := hN j hj
    have ew : w' = w0 := by
      have e : nI w' = nI w0 := by rw [← d2, ← v4]
      exact (nI_eq (by omega) (by omega)).mp e
    subst ew
    obtain ⟨sg, hsg⟩ : ∃ sg, sg = if S.2.2.1 j = 3 then 1 else 0 := ⟨_, rfl⟩
    have hsg1 : sg ≤ 1 := by rw [hsg]; split <;> omega
    -- behind a set: both go on
    have go : ∀ (p q line : Nat) (sp : Int32) (pl tp pt fi fs bg onP onL setH fil fon beg : Rw), p < 60 → q ≤ 60 → p ≤ j → line = lineN q b → line ≤ L → (¬ v ≤ L - line → 4 ≤ v ∧ sg ≤ L - line ∧ 2 ≤ L - line ∧ p + 1 < 60 ∧ p + 1 ≤ j) → fil p = nI q → PG j (p + 1) pl tp pt fi fs bg onP onL setH fil fon beg →
        ∃ X X2, rec (X1_setElement (nI (p + 1), mk, sp, nI L, nI q, nd, pl, tp, pt, nu, ex, fi, fs, bg) S (nI j), nI (j + 1)) = some X ∧ (j_X7_sets_89 (nI j) (nI L) (s, past, aside, pasts, text, typed, thr, nI (p + 1), sp, onP, onL, setH, fil, fon, beg, lab, at', num, hh) (nI p)).bind (fun q2 => rec2 (q2, nI (j + 1))) = some X2 ∧ ∃ c q' sp pl tp pt fi fs bg onP onL setH fil fon beg, X = (nI c, mk, sp, nI L, q', nd, pl, tp, pt, nu, ex, fi, fs, bg) ∧ X2 = (s, past, aside, pasts, text, typed, thr, nI c, sp, onP, onL, setH, fil, fon, beg, lab, at', num, hh) ∧ c ≤ n ∧ PG n c pl tp pt fi fs bg onP onL setH fil fon beg := by
      intro p q line sp pl tp pt fi fs bg onP onL setH fil fon beg hp hq hpj hline hlL hx hfil hPG
      obtain ⟨c', q2, sp', pl', tp', pt', fi', fs', bg', onP', onL', setH', fil', fon', beg', e1, e2, f1, f2, f3, f4, f5⟩ := set_two hS s past aside pasts text typed thr sp onP onL setH fil fon beg lab at' num hh hM hj hp hq v3 v1 v2 hb hsg hline hlL (fun z => ⟨(hx z).1, (hx z).2.1, (hx z).2.2.1, (hx z).2.2.2.1⟩) mk nd pl tp pt nu ex fi fs bg hfil hPG
      rw [e1, e2, Option.bind_some]
      refine k _ _ ⟨c' + 1, nI q2, sp', pl', tp', pt', fi', fs', bg', onP', onL', setH', fil', fon', beg', rfl, rfl, ?_, fun _ => ⟨c', q2, rfl, rfl, f2, f3, f4⟩, f5⟩
      rcases f1 with f1 | ⟨f1, f6⟩
      · omega
      · have := (hx f6).2.2.2.2; omega
    have goT : ∀ (p : Nat) (sp : Int32) (q0 : Int32) (pl tp pt fi fs bg onP onL setH fil fon beg : Rw), p < 60 → p ≤ j → PG j p pl tp pt fi fs bg onP onL setH fil fon beg →
        ∃ X X2, rec (X1_setElement (X1_turnPage (nI p, mk, sp, nI L, q0, nd, pl, tp, pt, nu, ex, fi, fs, bg)) S (nI j), nI (j + 1)) = some X ∧ ((X7_newPage (s, past, aside, pasts, text, typed, thr, nI p, sp, onP, onL, setH, fil, fon, beg, lab, at', num, hh)).bind (fun q4 => j_X7_sets_89 (nI j) (nI L) q4 (nI p))).bind (fun q2 => rec2 (q2, nI (j + 1))) = some X2 ∧ ∃ c q' sp pl tp pt fi fs bg onP onL setH fil fon beg, X = (nI c, mk, sp, nI L, q', nd, pl, tp, pt, nu, ex, fi, fs, bg) ∧ X2 = (s, past, aside, pasts, text, typed, thr, nI c, sp, onP, onL, setH, fil, fon, beg, lab, at', num, hh) ∧ c ≤ n ∧ PG n c pl tp pt fi fs bg onP onL setH fil fon beg := by
      intro p sp q0 pl tp pt fi fs bg onP onL setH fil fon beg hp hpj hPG
      rw [turn_x _ _ _ _ _ _ _ _ _ _ _ _ _ hp, page_t _ _ _ _ _ _ _ _ _ _ _ _ _ _ _ _ _ _ (by omega), Option.bind_some]
      exact go p 0 0 sp pl tp pt _ _ _ onP onL setH _ _ _ hp (by omega) hpj rfl (by omega) (fun z => absurd (show v ≤ L - 0 by omega) z) pk_us ⟨PG_turn hPG.1, hPG.2⟩
    unfold b_X1_arrange_25 b_X7_setsAll_12 j_X1_arrange_49 j_X1_arrange_53 j_X7_setsAll_30
    simp only [zlet_e, nI_1]
    rw [zix1, cl1, hM.2.1, if_neg (nI_ge hj (by omega)), if_neg (show ¬ S.1 ≤ nI j by rw [hS.1]; exact nI_ge hj (by omega))]
    by_cases hj0 : j = 0
    · subst hj0
      have hc0 : c = 0 := by omega
      subst hc0
      rw [if_pos nI_0, if_pos nI_0, page_t _ _ _ _ _ _ _ _ _ _ _ _ _ _ _ _ _ _ (by omega), Option.bind_some, sets_t0 (p := 0) hS hM hj (by omega) rfl (show upd fil 0 0 0 = 0 from pk_us)]
      have := goT 0 sp q' pl tp pt fi fs bg onP onL setH fil fon beg (by omega) (Nat.le_refl _) hPG
      rw [page_t _ _ _ _ _ _ _ _ _ _ _ _ _ _ _ _ _ _ (by omega), Option.bind_some] at this
      exact this
    · obtain ⟨p, q, rfl, rfl, hq1, hqL, hfp⟩ := hpos (by omega)
      have hfil : fil p = nI q := by rw [(hPG.1 p (by omega)).1]; exact hfp
      rw [if_neg (nI_ne0 (by omega) (by omega)), if_neg (nI_ne0 (by omega) (by omega)), must_x hS hj (G := (nI (p + 1), mk, sp, nI L, nI q, nd, pl, tp, pt, nu, ex, fi, fs, bg)) rfl rfl hq1 hqL hb hb2 d1 (by omega), sets_t1 hS (M := (s, past, aside, pasts, text, typed, thr, nI (p + 1), sp, onP, onL, setH, fil, fon, beg, lab, at', num, hh)) hM hN hj (by omega) rfl hq1 hqL hfil hb hb2 d1 (by omega)]
      by_cases ht : S.2.2.2.2.2.1 j = -1 ∧ b + w ≤ L - q
      · rw [if_pos ht, if_pos ht, if_pos rfl]
        have hline : q + b = lineN q b := by unfold lineN; rw [if_neg (by omega)]
        refine go p q (q + b) sp pl tp pt fi fs bg onP onL setH fil fon beg (by omega) (by omega) (by omega) hline (by have := ht.2; omega) (fun z => ?_) hfil hPG
        have := ht.2
        rcases v7 with v7 | ⟨v8, v7 | v7⟩
        · omega
        · refine ⟨v8, ?_, ?_, by omega, by omega⟩
          · omega
          · omega
        · refine ⟨v8, ?_, ?_, by omega, by omega⟩
          · omega
          · omega
      · rw [if_neg ht, if_neg ht, if_neg i10]
        exact goT (p + 1) sp (nI q) pl tp pt fi fs bg onP onL setH fil fon beg (by omega) (by omega) hPG
  · exact ⟨0, q0, 0, pl0, tp0, pt0, fi0, fs0, bg0, onP0, onL0, setH0, fil0, fon0, beg0, rfl, rfl, Nat.le_refl _, fun h => absurd h (Nat.lt_irrefl _), fun r h => absurd h (Nat.not_lt_zero _), fun r h => absurd h (Nat.not_lt_zero _)⟩
def mkN (S : t_Script) (n : Nat) : Nat := ctN (fun i => decide (S.2.2.2.2.2.1 i ≠ -1)) n
theorem countMarks_x (hS : SOK S n L) (G : t_Pages) : X1_countMarks G S = some (G.1, nI (mkN S n), G.2.2.1, G.2.2.2.1, G.2.2.2.2.1, G.2.2.2.2.2.1, G.2.2.2.2.2.2.1, G.2.2.2.2.2.2.2.1, G.2.2.2.2.2.2.2.2.1, G.2.2.2.2.2.2.2.2.2.1, G.2.2.2.2.2.2.2.2.2.2.1, G.2.2.2.2.2.2.2.2.2.2.2.1, G.2.2.2.2.2.2.2.2.2.2.2.2.1, G.2.2.2.2.2.2.2.2.2.2.2.2.2) := by
  have hn := hS.2.2.1
  obtain ⟨X, h1, h2⟩ := zl_up (body := b_X1_countMarks_7 S) (fun j v => v = ((G.1, nI (mkN S j), G.2.2.1, G.2.2.2.1, G.2.2.2.2.1, G.2.2.2.2.2.1, G.2.2.2.2.2.2.1, G.2.2.2.2.2.2.2.1, G.2.2.2.2.2.2.2.2.1, G.2.2.2.2.2.2.2.2.2.1, G.2.2.2.2.2.2.2.2.2.2.1, G.2.2.2.2.2.2.2.2.2.2.2.1, G.2.2.2.2.2.2.2.2.2.2.2.2.1, G.2.2.2.2.2.2.2.2.2.2.2.2.2), nI j)) (fun X => X = (G.1, nI (mkN S n), G.2.2.1, G.2.2.2.1, G.2.2.2.2.1, G.2.2.2.2.2.1, G.2.2.2.2.2.2.1, G.2.2.2.2.2.2.2.1, G.2.2.2.2.2.2.2.2.1, G.2.2.2.2.2.2.2.2.2.1, G.2.2.2.2.2.2.2.2.2.2.1, G.2.2.2.2.2.2.2.2.2.2.2.1, G.2.2.2.2.2.2.2.2.2.2.2.2.1, G.2.2.2.2.2.2.2.2.2.2.2.2.2)) n
    (fun rec v h => by
      subst h
      unfold b_X1_countMarks_7
      rw [if_pos (show S.1 ≤ nI n by rw [hS.1]; exact nI_le (Nat.le_refl _) (by omega))]
      exact ⟨_, rfl, rfl⟩)
    (fun rec j v hj h k => by
      subst h
      unfold b_X1_countMarks_7
      simp only [zlet_e, nI_1]
      rw [if_neg (show ¬ S.1 ≤ nI j by rw [hS.1]; exact nI_ge hj (by omega)), rAt_nI (by decide) _ (hS.lt hj)]
      by_cases h0 : S.2.2.2.2.2.1 j = -1
      · rw [if_pos h0]
        refine k _ ?_
        have e : mkN S (j + 1) = mkN S j := by simp [mkN, ctN, h0]
        rw [e]
      · rw [if_neg h0]
        refine k _ ?_
        have e : mkN S (j + 1) = mkN S j + 1 := by simp [mkN, ctN, h0]
        rw [e])
    FU 0 ((G.1, 0, G.2.2.1, G.2.2.2.1, G.2.2.2.2.1, G.2.2.2.2.2.1, G.2.2.2.2.2.2.1, G.2.2.2.2.2.2.2.1, G.2.2.2.2.2.2.2.2.1, G.2.2.2.2.2.2.2.2.2.1, G.2.2.2.2.2.2.2.2.2.2.1, G.2.2.2.2.2.2.2.2.2.2.2.1, G.2.2.2.2.2.2.2.2.2.2.2.2.1, G.2.2.2.2.2.2.2.2.2.2.2.2.2), 0) (Nat.zero_le _) rfl (show n - 0 < 3000 by omega)
  unfold X1_countMarks
  rw [h1, Option.bind_some, h2]
def plS (S : t_Script) (fs : Rw) (r : Nat) : Int32 := rAt 60 S.2.2.2.2.2.1 (fs r)
def nuN (S : t_Script) (fs : Rw) : Nat → Int32
  | 0 => 0
  | r + 1 => if plS S fs r = -1 then nuN S fs r else plS S fs r
def exN (S : t_Script) (fs : Rw) : Nat → Int32
  | 0 => -1
  | r + 1 => if plS S fs r = -1 then exN S fs r + 1 else 0
def lnuN (S : t_Script) (fs : Rw) (n r : Nat) : Int32 := if mkN S n = 0 then nI (r + 1) else nuN S fs (r + 1)
def lexN (S : t_Script) (fs : Rw) (n r : Nat) : Int32 := if mkN S n = 0 then 0 else exN S fs (r + 1)
theorem plabel_x (hS : SOK S n L) {G : t_Pages} {c : Nat} (hc : c ≤ n) (hN : G.1 = nI c) (hm : G.2.1 = nI (mkN S n)) : ∃ nu ex, X1_label G S = some (G.1, G.2.1, G.2.2.1, G.2.2.2.1, G.2.2.2.2.1, G.2.2.2.2.2.1, G.2.2.2.2.2.2.1, G.2.2.2.2.2.2.2.1, G.2.2.2.2.2.2.2.2.1, nu, ex, G.2.2.2.2.2.2.2.2.2.2.2.1, G.2.2.2.2.2.2.2.2.2.2.2.2.1, G.2.2.2.2.2.2.2.2.2.2.2.2.2) ∧ ∀ r, r < c → nu r = lnuN S G.2.2.2.2.2.2.2.2.2.2.2.2.1 n r ∧ ex r = lexN S G.2.2.2.2.2.2.2.2.2.2.2.2.1 n r := by
  have hn := hS.2.2.1
  have hmk : mkN S n ≤ n := ct_le _ _
  obtain ⟨X, h1, nu, ex, h2, h3⟩ := zl_up (body := b_X1_label_7 S) (fun j v => ∃ nu ex a b, v = ((G.1, G.2.1, G.2.2.1, G.2.2.2.1, G.2.2.2.2.1, G.2.2.2.2.2.1, G.2.2.2.2.2.2.1, G.2.2.2.2.2.2.2.1, G.2.2.2.2.2.2.2.2.1, nu, ex, G.2.2.2.2.2.2.2.2.2.2.2.1, G.2.2.2.2.2.2.2.2.2.2.2.2.1, G.2.2.2.2.2.2.2.2.2.2.2.2.2), a, b, nI j) ∧ (mkN S n ≠ 0 → a = nuN S G.2.2.2.2.2.2.2.2.2.2.2.2.1 j ∧ b = exN S G.2.2.2.2.2.2.2.2.2.2.2.2.1 j) ∧ ∀ r, r < j → nu r = lnuN S G.2.2.2.2.2.2.2.2.2.2.2.2.1 n r ∧ ex r = lexN S G.2.2.2.2.2.2.2.2.2.2.2.2.1 n r) (fun X => ∃ nu ex, X = (G.1, G.2.1, G.2.2.1, G.2.2.2.1, G.2.2.2.2.1, G.2.2.2.2.2.1, G.2.2.2.2.2.2.1, G.2.2.2.2.2.2.2.1, G.2.2.2.2.2.2.2.2.1, nu, ex, G.2.2.2.2.2.2.2.2.2.2.2.1, G.2.2.2.2.2.2.2.2.2.2.2.2.1, G.2.2.2.2.2.2.2.2.2.2.2.2.2) ∧ ∀ r, r < c → nu r = lnuN S G.2.2.2.2.2.2.2.2.2.2.2.2.1 n r ∧ ex r = lexN S G.2.2.2.2.2.2.2.2.2.2.2.2.1 n r) c
    (fun rec v h => by
      obtain ⟨nu, ex, a, b, rfl, -, h⟩ := h
      unfold b_X1_label_7
      rw [if_pos (show G.1 ≤ nI c by rw [hN]; exact nI_le (Nat.le_refl _) (by omega))]
      exact ⟨_, rfl, nu, ex, rfl, h⟩)
    (fun rec j v hj h k => by
      obtain ⟨nu, ex, a, b, rfl, hab, h⟩ := h
      have hj60 : j < 60 := by omega
      have rj : ∀ (f : Rw) (x : Int32), rPut 60 f (nI j) x = upd f j x := fun f x => rPut_nI (by decide) f hj60 x
      have up : ∀ x y : Int32, x = lnuN S G.2.2.2.2.2.2.2.2.2.2.2.2.1 n j → y = lexN S G.2.2.2.2.2.2.2.2.2.2.2.2.1 n j → ∀ r, r < j + 1 → upd nu j x r = lnuN S G.2.2.2.2.2.2.2.2.2.2.2.2.1 n r ∧ upd ex j y r = lexN S G.2.2.2.2.2.2.2.2.2.2.2.2.1 n r := by
        intro x y hx hy r hr
        by_cases e : r = j
        · subst e; rw [pk_us, pk_us]; exact ⟨hx, hy⟩
        · rw [pk_un e, pk_un e]; exact h r (by omega)
      unfold b_X1_label_7 j_X1_label_68
      simp only [zlet_e, nI_1, rj]
      rw [if_neg (show ¬ G.1 ≤ nI j by rw [hN]; exact nI_ge hj (by omega)), rAt_nI (by decide) _ hj60]
      by_cases h0 : mkN S n = 0
      · rw [if_pos (show G.2.1 = 0 by rw [hm, h0]; exact nI_0)]
        exact k _ ⟨_, _, _, _, rfl, fun z => absurd h0 z, up _ _ (by unfold lnuN; rw [if_pos h0]) (by unfold lexN; rw [if_pos h0])⟩
      · rw [if_neg (show ¬ G.2.1 = 0 by rw [hm]; exact nI_ne0 (by omega) (by omega))]
        obtain ⟨ha, hb⟩ := hab h0
        by_cases h1 : rAt 60 S.2.2.2.2.2.1 (G.2.2.2.2.2.2.2.2.2.2.2.2.1 j) = -1
        · rw [if_pos h1]
          have e1 : nuN S G.2.2.2.2.2.2.2.2.2.2.2.2.1 (j + 1) = a := by
            show (if rAt 60 S.2.2.2.2.2.1 (G.2.2.2.2.2.2.2.2.2.2.2.2.1 j) = -1 then nuN S G.2.2.2.2.2.2.2.2.2.2.2.2.1 j else _) = a
            rw [if_pos h1, ha]
          have e2 : exN S G.2.2.2.2.2.2.2.2.2.2.2.2.1 (j + 1) = b + 1 := by
            show (if rAt 60 S.2.2.2.2.2.1 (G.2.2.2.2.2.2.2.2.2.2.2.2.1 j) = -1 then exN S G.2.2.2.2.2.2.2.2.2.2.2.2.1 j + 1 else _) = b + 1
            rw [if_pos h1, hb]
          exact k _ ⟨_, _, _, _, rfl, fun _ => ⟨e1.symm, e2.symm⟩, up _ _ (by unfold lnuN; rw [if_neg h0, e1]) (by unfold lexN; rw [if_neg h0, e2])⟩
        · rw [if_neg h1]
          have e1 : nuN S G.2.2.2.2.2.2.2.2.2.2.2.2.1 (j + 1) = rAt 60 S.2.2.2.2.2.1 (G.2.2.2.2.2.2.2.2.2.2.2.2.1 j) := by
            show (if rAt 60 S.2.2.2.2.2.1 (G.2.2.2.2.2.2.2.2.2.2.2.2.1 j) = -1 then nuN S G.2.2.2.2.2.2.2.2.2.2.2.2.1 j else rAt 60 S.2.2.2.2.2.1 (G.2.2.2.2.2.2.2.2.2.2.2.2.1 j)) = _
            rw [if_neg h1]
          have e2 : exN S G.2.2.2.2.2.2.2.2.2.2.2.2.1 (j + 1) = 0 := by
            show (if rAt 60 S.2.2.2.2.2.1 (G.2.2.2.2.2.2.2.2.2.2.2.2.1 j) = -1 then exN S G.2.2.2.2.2.2.2.2.2.2.2.2.1 j + 1 else _) = 0
            rw [if_neg h1]
          exact k _ ⟨_, _, _, _, rfl, fun _ => ⟨e1.symm, e2.symm⟩, up _ _ (by unfold lnuN; rw [if_neg h0, e1]) (by unfold lexN; rw [if_neg h0, e2])⟩)
    FU 0 (G, 0, -1, 0) (Nat.zero_le _) ⟨G.2.2.2.2.2.2.2.2.2.1, G.2.2.2.2.2.2.2.2.2.2.1, 0, -1, rfl, fun _ => ⟨rfl, rfl⟩, fun r h => absurd h (Nat.not_lt_zero _)⟩ (show c - 0 < 3000 by omega)
  refine ⟨nu, ex, ?_, h3⟩
  unfold X1_label
  rw [h1, Option.bind_some, h2]
/-- what of the reference's pages is what the class holds -/
def PRfin (G : t_Pages) (M : t_Model) (S : t_Script) (n c : Nat) : Prop :=
  c ≤ n ∧ G.1 = nI c ∧ M.2.2.2.2.2.2.2.1 = nI c ∧ M.2.2.2.2.2.2.2.2.1 = G.2.2.1 ∧ PG n c G.2.2.2.2.2.2.1 G.2.2.2.2.2.2.2.1 G.2.2.2.2.2.2.2.2.1 G.2.2.2.2.2.2.2.2.2.2.2.1 G.2.2.2.2.2.2.2.2.2.2.2.2.1 G.2.2.2.2.2.2.2.2.2.2.2.2.2 M.2.2.2.2.2.2.2.2.2.1 M.2.2.2.2.2.2.2.2.2.2.1 M.2.2.2.2.2.2.2.2.2.2.2.1 M.2.2.2.2.2.2.2.2.2.2.2.2.1 M.2.2.2.2.2.2.2.2.2.2.2.2.2.1 M.2.2.2.2.2.2.2.2.2.2.2.2.2.2.1 ∧ G.2.1 = nI (mkN S n) ∧ ∀ r, r < c → G.2.2.2.2.2.2.2.2.2.1 r = lnuN S G.2.2.2.2.2.2.2.2.2.2.2.2.1 n r ∧ G.2.2.2.2.2.2.2.2.2.2.1 r = lexN S G.2.2.2.2.2.2.2.2.2.2.2.2.1 n r
/-- only what is noted of pages differs -/
def MFr (M M' : t_Model) : Prop := M'.1 = M.1 ∧ M'.2.1 = M.2.1 ∧ M'.2.2.1 = M.2.2.1 ∧ M'.2.2.2.1 = M.2.2.2.1 ∧ M'.2.2.2.2.1 = M.2.2.2.2.1 ∧ M'.2.2.2.2.2.1 = M.2.2.2.2.2.1 ∧ M'.2.2.2.2.2.2.1 = M.2.2.2.2.2.2.1 ∧ M'.2.2.2.2.2.2.2.2.2.2.2.2.2.2.2.1 = M.2.2.2.2.2.2.2.2.2.2.2.2.2.2.2.1 ∧ M'.2.2.2.2.2.2.2.2.2.2.2.2.2.2.2.2.1 = M.2.2.2.2.2.2.2.2.2.2.2.2.2.2.2.2.1 ∧ M'.2.2.2.2.2.2.2.2.2.2.2.2.2.2.2.2.2.1 = M.2.2.2.2.2.2.2.2.2.2.2.2.2.2.2.2.2.1 ∧ M'.2.2.2.2.2.2.2.2.2.2.2.2.2.2.2.2.2.2 = M.2.2.2.2.2.2.2.2.2.2.2.2.2.2.2.2.2.2
def GSok (G : t_Pages) (S : t_Script) (n L : Nat) : Prop := ∃ c, ∀ (M : t_Model) (L1 : Nat), MR S M.1 n L1 → ∃ M', X7_setsAll M (nI L) = some M' ∧ MFr M M' ∧ PRfin G M' S n c
theorem arrange_t (hS : SOK S n L) (G : t_Pages) {M : t_Model} (hM : MR S M.1 n L1) : ∃ G', X1_arrange G S = some (G'.1, G') ∧ GSok G' S n L := by
  obtain ⟨nd, h1, hN⟩ := needs_t hS (0, G.2.1, 0, S.2.1, G.2.2.2.2.1, G.2.2.2.2.2.1, G.2.2.2.2.2.2.1, G.2.2.2.2.2.2.2.1, G.2.2.2.2.2.2.2.2.1, G.2.2.2.2.2.2.2.2.2.1, G.2.2.2.2.2.2.2.2.2.2.1, G.2.2.2.2.2.2.2.2.2.2.2.1, G.2.2.2.2.2.2.2.2.2.2.2.2.1, G.2.2.2.2.2.2.2.2.2.2.2.2.2)
  have lk := fun (M : t_Model) (L1 : Nat) (hM : MR S M.1 n L1) => lock_two hS M.1 M.2.1 M.2.2.1 M.2.2.2.1 M.2.2.2.2.1 M.2.2.2.2.2.1 M.2.2.2.2.2.2.1 M.2.2.2.2.2.2.2.2.2.1 M.2.2.2.2.2.2.2.2.2.2.1 M.2.2.2.2.2.2.2.2.2.2.2.1 M.2.2.2.2.2.2.2.2.2.2.2.2.1 M.2.2.2.2.2.2.2.2.2.2.2.2.2.1 M.2.2.2.2.2.2.2.2.2.2.2.2.2.2.1 M.2.2.2.2.2.2.2.2.2.2.2.2.2.2.2.1 M.2.2.2.2.2.2.2.2.2.2.2.2.2.2.2.2.1 M.2.2.2.2.2.2.2.2.2.2.2.2.2.2.2.2.2.1 M.2.2.2.2.2.2.2.2.2.2.2.2.2.2.2.2.2.2 hM hN G.2.1 G.2.2.2.2.1 G.2.2.2.2.2.2.1 G.2.2.2.2.2.2.2.1 G.2.2.2.2.2.2.2.2.1 G.2.2.2.2.2.2.2.2.2.1 G.2.2.2.2.2.2.2.2.2.2.1 G.2.2.2.2.2.2.2.2.2.2.2.1 G.2.2.2.2.2.2.2.2.2.2.2.2.1 G.2.2.2.2.2.2.2.2.2.2.2.2.2
  obtain ⟨X, X2, l1, l2, c, q', sp, pl, tp, pt, fi, fs, bg, onP, onL, setH, fil, fon, beg, rfl, -, hc, -⟩ := lk M L1 hM
  obtain ⟨nu, ex, p1, p2⟩ := plabel_x hS (G := (nI c, nI (mkN S n), sp, nI L, q', nd, pl, tp, pt, G.2.2.2.2.2.2.2.2.2.1, G.2.2.2.2.2.2.2.2.2.2.1, fi, fs, bg)) hc rfl rfl
  refine ⟨(nI c, nI (mkN S n), sp, nI L, q', nd, pl, tp, pt, nu, ex, fi, fs, bg), ?_, c, ?_⟩
  · unfold X1_arrange
    rw [h1, Option.bind_some, show S.2.1 = nI L from hS.2.1, l1, Option.bind_some, countMarks_x hS, Option.bind_some, p1, Option.bind_some]
  · intro M' L1' hM'
    obtain ⟨Y, Y2, k1, k2, c', q2, sp', pl', tp', pt', fi', fs', bg', onP', onL', setH', fil', fon', beg', rfl, rfl, hc', hPG⟩ := lk M' L1' hM'
    rw [l1] at k1
    injection k1 with k1
    injection k1 with a1 k1
    injection k1 with a2 k1
    injection k1 with a3 k1
    injection k1 with a4 k1
    injection k1 with a5 k1
    injection k1 with a6 k1
    injection k1 with a7 k1
    injection k1 with a8 k1
    injection k1 with a9 k1
    injection k1 with a10 k1
    injection k1 with a11 k1
    injection k1 with a12 k1
    injection k1 with a13 a14
    have hn := hS.2.2.1
    have ec : c = c' := (nI_eq (by omega) (by omega)).mp a1
    subst ec a3 a7 a8 a9 a12 a13 a14
    refine ⟨(M'.1, M'.2.1, M'.2.2.1, M'.2.2.2.1, M'.2.2.2.2.1, M'.2.2.2.2.2.1, M'.2.2.2.2.2.2.1, nI c, sp, onP', onL', setH', fil', fon', beg', M'.2.2.2.2.2.2.2.2.2.2.2.2.2.2.2.1, M'.2.2.2.2.2.2.2.2.2.2.2.2.2.2.2.2.1, M'.2.2.2.2.2.2.2.2.2.2.2.2.2.2.2.2.2.1, M'.2.2.2.2.2.2.2.2.2.2.2.2.2.2.2.2.2.2), ?_, ⟨rfl, rfl, rfl, rfl, rfl, rfl, rfl, rfl, rfl, rfl, rfl⟩, hc, rfl, rfl, rfl, hPG, rfl, p2⟩
    unfold X7_setsAll
    rw [k2, Option.bind_some]
end ML
