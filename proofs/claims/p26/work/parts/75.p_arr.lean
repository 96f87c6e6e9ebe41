-- all elements set, class and law side by side; what the class keeps
def XS (i : Nat) (xs : Rw) (pN : Nat → Nat) : Prop := ∀ e, e < i → ∃ w, w < 10000 ∧ xs e = nI (10000 * pN e + w)
theorem XS_up {i p w : Nat} {xs : Rw} {pN : Nat → Nat} (h : XS i xs pN) (hw : w < 10000) : XS (i + 1) (upd xs i (nI (10000 * p + w))) (pUp pN i p) := by
  intro e he
  by_cases c : e = i
  · subst c
    rw [pk_us, pUp_s]
    exact ⟨w, hw, rfl⟩
  · rw [pk_un c, pUp_n c]
    exact h e (by omega)
section PA
variable {S : t_Script} {n L : Nat} {g k ln pr lb mk : Rw}
theorem two_l (hS : SOK S n L) (hR : LR S n L g k ln pr lb mk) {nd nd' : Rw} (hN : ∀ i, i < n → NDi S n nd i) (hN' : ∀ i, i < n → nd' i = nd i) (m0 q0 : Int32) (pl0 tp0 pt0 nu ex fi0 fs0 bg0 xs0 us0 : Rw) :
    ∃ X X2, zloop (b_X1_arrange_25 S) FU ((0, m0, 0, nI L, q0, nd, pl0, tp0, pt0, nu, ex, fi0, fs0, bg0), 0) = some X ∧ zloop (b_L_sets_24 g k ln mk (nI L) nd') FU (xs0, us0, -1, 0, 0) = some X2 ∧
      ∃ c q' sp pl tp pt fi fs bg xs us pN, X = (nI c, m0, sp, nI L, q', nd, pl, tp, pt, nu, ex, fi, fs, bg) ∧ X2 = (xs, us, nI c - 1) ∧ c ≤ n ∧ BG n c pN pl fs ∧ XS n xs pN := by
  have hn := hR.2.2.1
  have hL20 := hS.2.2.2.1
  have hL60 := hS.2.2.2.2.1
  have i10 : ¬ ((1 : Int32) = 0) := by decide
  refine zl_two (fun j (v : t_Pages × Int32) (v2 : Rw × Rw × Int32 × Int32 × Int32) => ∃ c q' q sp pl tp pt fi fs bg xs us pN, v = ((nI c, m0, sp, nI L, q', nd, pl, tp, pt, nu, ex, fi, fs, bg), nI j) ∧ v2 = (xs, us, nI c - 1, nI q, nI j) ∧ c ≤ j ∧ (0 < j → ∃ p, c = p + 1 ∧ q' = nI q ∧ 1 ≤ q ∧ q ≤ L) ∧ BG j c pN pl fs ∧ XS j xs pN) _ n ?_ ?_ FU 0 _ _ (Nat.zero_le _) ?_ (show n - 0 < 3000 by omega)
  · intro rec rec2 v v2 h
    obtain ⟨c, q', q, sp, pl, tp, pt, fi, fs, bg, xs, us, pN, rfl, rfl, hc, -, hB, hX⟩ := h
    unfold b_X1_arrange_25 b_L_sets_24
    refine ⟨_, _, if_pos (show S.1 ≤ nI n by rw [hS.1]; exact nI_le (Nat.le_refl _) (by omega)), ?_, c, q', sp, pl, tp, pt, fi, fs, bg, xs, us, pN, rfl, rfl, hc, hB, hX⟩
    simp only [zlet_e, zg0, cl0, hR.1]
    rw [if_pos (nI_le (Nat.le_refl _) (by omega))]
  · intro rec rec2 j v v2 hj h kk
    obtain ⟨c, q', q, sp, pl, tp, pt, fi, fs, bg, xs, us, pN, rfl, rfl, hc, hpos, hB, hX⟩ := h
    have h41 := hR.lt hj
    obtain ⟨v, w0, v1, v2, v3, v4, v5, v6, v7, -⟩ := least_x hS hj
    obtain ⟨b, hb2, hb⟩ := blanks_x hS hj
    obtain ⟨⟨w, w', d1, d2, d3, d4⟩, -⟩ := hN j hj
    have ew : w' = w0 := by
      have e : nI w' = nI w0 := by rw [← d2, ← v4]
      exact (nI_eq (by omega) (by omega)).mp e
    subst ew
    obtain ⟨sg, hsg⟩ : ∃ sg, sg = if S.2.2.1 j = 3 then 1 else 0 := ⟨_, rfl⟩
    have hsg1 : sg ≤ 1 := by rw [hsg]; split <;> omega
    have go : ∀ (p q line : Nat) (sp : Int32) (pl tp pt fi fs bg xs us : Rw) (pN : Nat → Nat), p < 60 → q ≤ 60 → p ≤ j → line = lineN q b → line ≤ L → (¬ v ≤ L - line → 4 ≤ v ∧ sg ≤ L - line ∧ 2 ≤ L - line ∧ p + 1 < 60 ∧ p + 1 ≤ j) → BG j (p + 1) pN pl fs → XS j xs pN →
        ∃ X X2, rec (X1_setElement (nI (p + 1), m0, sp, nI L, nI q, nd, pl, tp, pt, nu, ex, fi, fs, bg) S (nI j), nI (j + 1)) = some X ∧ j_L_sets_87_a91 g k ln mk (nI L) nd' rec2 xs us (nI p) (nI q) (nI j) = some X2 ∧ ∃ c q' sp pl tp pt fi fs bg xs us pN, X = (nI c, m0, sp, nI L, q', nd, pl, tp, pt, nu, ex, fi, fs, bg) ∧ X2 = (xs, us, nI c - 1) ∧ c ≤ n ∧ BG n c pN pl fs ∧ XS n xs pN := by
      intro p q line sp pl tp pt fi fs bg xs us pN hp hq hpj hline hlL hx hB hX
      obtain ⟨h, hh⟩ : ∃ h, h = hereN sg v (L - line) := ⟨_, rfl⟩
      have hvh : h ≤ v := by
        rw [hh]; unfold hereN
        split
        · omega
        · split <;> omega
      have e1 := set_x hS hj hp hq v3 v2 hb hsg hline hlL hh (fun z => ⟨by have := (hx z).1; omega, (hx z).2.1, (hx z).2.2.2.1⟩) m0 sp nd pl tp pt nu ex fi fs bg
      obtain ⟨us', e2⟩ := set_l hS hR hj hp hq v3 v2 hb hb2 hsg hline hlL hh (fun z => ⟨by have := (hx z).1; omega, (hx z).2.1, (hx z).2.2.2.1⟩) nd' xs us rec2
      have hB2 := BG_page (by omega) hB
      have hX2 : XS (j + 1) (upd xs j (nI (10000 * p + 100 * line + h))) (pUp pN j p) := by
        rw [Nat.add_assoc]
        exact XS_up hX (by omega)
      rw [e1, e2]
      by_cases c : v ≤ L - line
      · have hhv : h = v := by rw [hh]; unfold hereN; rw [if_pos c]
        rw [if_pos c, if_pos c]
        exact kk _ _ ⟨p + 1, nI (line + h), line + h, _, _, _, _, _, _, _, _, _, _, rfl, by rw [nI_pred], by omega, fun _ => ⟨p, rfl, rfl, by omega, by omega⟩, hB2, hX2⟩
      · obtain ⟨x1, x2, x3, x4, x5⟩ := hx c
        have hhv : h ≤ v - 2 := by
          rw [hh]; unfold hereN; rw [if_neg c]
          split <;> omega
        rw [if_neg c, if_neg c]
        exact kk _ _ ⟨p + 1 + 1, nI (v - h + sg), v - h + sg, _, _, _, _, _, _, _, _, _, _, rfl, by rw [nI_pred], by omega, fun _ => ⟨p + 1, rfl, rfl, by omega, by omega⟩, BG_turn hB2, hX2⟩
    have goT : ∀ (p : Nat) (sp q0 : Int32) (pl tp pt fi fs bg xs us : Rw) (pN : Nat → Nat), p < 60 → p ≤ j → BG j p pN pl fs → XS j xs pN →
        ∃ X X2, rec (X1_setElement (X1_turnPage (nI p, m0, sp, nI L, q0, nd, pl, tp, pt, nu, ex, fi, fs, bg)) S (nI j), nI (j + 1)) = some X ∧ j_L_sets_87_a91 g k ln mk (nI L) nd' rec2 xs us (nI p) 0 (nI j) = some X2 ∧ ∃ c q' sp pl tp pt fi fs bg xs us pN, X = (nI c, m0, sp, nI L, q', nd, pl, tp, pt, nu, ex, fi, fs, bg) ∧ X2 = (xs, us, nI c - 1) ∧ c ≤ n ∧ BG n c pN pl fs ∧ XS n xs pN := by
      intro p sp q0 pl tp pt fi fs bg xs us pN hp hpj hB hX
      rw [turn_x _ _ _ _ _ _ _ _ _ _ _ _ _ hp]
      exact go p 0 0 sp pl tp pt _ _ _ xs us pN hp (by omega) hpj rfl (by omega) (fun z => absurd (show v ≤ L - 0 by omega) z) (BG_turn hB) hX
    unfold b_X1_arrange_25 b_L_sets_24 j_X1_arrange_49 j_X1_arrange_53 j_L_sets_69_a91 j_L_sets_73_a91 j_L_sets_74_a91
    simp only [zlet_e, nI_1, zg0, cl0, hR.1, z41 h41, nI_clamp (show j < 2 ^ 31 by omega)]
    rw [if_neg (nI_ge hj (by omega)), if_neg (show ¬ S.1 ≤ nI j by rw [hS.1]; exact nI_ge hj (by omega)), if_neg i10, blanks_l hS hR hj, Option.bind_some, hb, hN' j hj, d1]
    by_cases hj0 : j = 0
    · subst hj0
      have hc0 : c = 0 := by omega
      subst hc0
      rw [if_pos nI_0, if_pos (show nI 0 - 1 < 0 by decide), show nI 0 - 1 + 1 = nI 0 by decide]
      exact goT 0 sp q' pl tp pt fi fs bg xs us pN (by omega) (Nat.le_refl _) hB hX
    · obtain ⟨p, rfl, rfl, hq1, hqL⟩ := hpos (by omega)
      rw [if_neg (nI_ne0 (by omega) (by omega)), nI_pred, if_neg (nI_pos (by omega)), if_neg (nI_nle (by omega) (by omega)), must_x hS hj (G := (nI (p + 1), m0, sp, nI L, nI q, nd, pl, tp, pt, nu, ex, fi, fs, bg)) rfl rfl hq1 hqL hb hb2 d1 (by omega), nI_1]
      by_cases hm : S.2.2.2.2.2.1 j = -1
      · rw [if_neg (show ¬ 0 < mk j by rw [mk_0 hR hj hm]; decide), nI_add, nI_add]
        by_cases ht : b + w ≤ L - q
        · rw [show (if S.2.2.2.2.2.1 j = -1 ∧ b + w ≤ L - q then (0 : Int32) else 1) = 0 from if_pos ⟨hm, ht⟩, if_pos rfl, if_pos (nI_le (show q + b + w ≤ L by omega) (by omega)), if_pos trivial]
          have hline : q + b = lineN q b := by unfold lineN; rw [if_neg (by omega)]
          refine go p q (q + b) sp pl tp pt fi fs bg xs us pN (by omega) (by omega) (by omega) hline (by omega) (fun z => ?_) hB hX
          rcases v7 with v7 | ⟨v8, v7 | v7⟩
          · omega
          · refine ⟨v8, ?_, ?_, by omega, by omega⟩
            · omega
            · omega
          · refine ⟨v8, ?_, ?_, by omega, by omega⟩
            · omega
            · omega
        · rw [show (if S.2.2.2.2.2.1 j = -1 ∧ b + w ≤ L - q then (0 : Int32) else 1) = 1 from if_neg (fun h => ht h.2), if_neg i10, if_neg (nI_ge (show L < q + b + w by omega) (by omega))]
          exact goT (p + 1) sp (nI q) pl tp pt fi fs bg xs us pN (by omega) (by omega) hB hX
      · rw [show (if S.2.2.2.2.2.1 j = -1 ∧ b + w ≤ L - q then (0 : Int32) else 1) = 1 from if_neg (fun h => hm h.1), if_neg i10, if_pos (mk_1 hR hj hm)]
        exact goT (p + 1) sp (nI q) pl tp pt fi fs bg xs us pN (by omega) (by omega) hB hX
  · exact ⟨0, q0, 0, 0, pl0, tp0, pt0, fi0, fs0, bg0, xs0, us0, fun _ => 0, rfl, rfl, Nat.le_refl _, fun h => absurd h (Nat.lt_irrefl _), ⟨fun e h => absurd h (Nat.not_lt_zero _), fun e e' _ h => absurd h (Nat.not_lt_zero _), fun r h => absurd h (Nat.not_lt_zero _)⟩, fun e h => absurd h (Nat.not_lt_zero _)⟩
theorem arr1_l (hS : SOK S n L) (hR : LR S n L g k ln pr lb mk) (G : t_Pages) : ∃ G', X1_arrange G S = some (G'.1, G') ∧ G'.2.1 = nI (mkN S n) ∧ ∃ c pN xs us, c ≤ n ∧ G'.1 = nI c ∧ BG n c pN G'.2.2.2.2.2.2.1 G'.2.2.2.2.2.2.2.2.2.2.2.2.1 ∧ L_sets g k ln mk z0R z0R (nI L) = some (nI c, xs, us) ∧ XS n xs pN := by
  obtain ⟨nd, h1, hN⟩ := needs_t hS (0, G.2.1, 0, S.2.1, G.2.2.2.2.1, G.2.2.2.2.2.1, G.2.2.2.2.2.2.1, G.2.2.2.2.2.2.2.1, G.2.2.2.2.2.2.2.2.1, G.2.2.2.2.2.2.2.2.2.1, G.2.2.2.2.2.2.2.2.2.2.1, G.2.2.2.2.2.2.2.2.2.2.2.1, G.2.2.2.2.2.2.2.2.2.2.2.2.1, G.2.2.2.2.2.2.2.2.2.2.2.2.2)
  obtain ⟨nd', h2, hN'⟩ := needs_l hS hR hN z0R
  obtain ⟨X, X2, l1, l2, c, q', sp, pl, tp, pt, fi, fs, bg, xs, us, pN, rfl, rfl, hc, hB, hX⟩ := two_l hS hR hN hN' G.2.1 G.2.2.2.2.1 G.2.2.2.2.2.2.1 G.2.2.2.2.2.2.2.1 G.2.2.2.2.2.2.2.2.1 G.2.2.2.2.2.2.2.2.2.1 G.2.2.2.2.2.2.2.2.2.2.1 G.2.2.2.2.2.2.2.2.2.2.2.1 G.2.2.2.2.2.2.2.2.2.2.2.2.1 G.2.2.2.2.2.2.2.2.2.2.2.2.2 z0R z0R
  obtain ⟨nu, ex, p1, p2⟩ := plabel_x hS (G := (nI c, nI (mkN S n), sp, nI L, q', nd, pl, tp, pt, G.2.2.2.2.2.2.2.2.2.1, G.2.2.2.2.2.2.2.2.2.2.1, fi, fs, bg)) hc rfl rfl
  refine ⟨(nI c, nI (mkN S n), sp, nI L, q', nd, pl, tp, pt, nu, ex, fi, fs, bg), ?_, rfl, c, pN, xs, us, hc, rfl, hB, ?_, hX⟩
  · unfold X1_arrange
    rw [h1, Option.bind_some, show S.2.1 = nI L from hS.2.1, l1, Option.bind_some, countMarks_x hS, Option.bind_some, p1, Option.bind_some]
  · unfold L_sets
    rw [h2, Option.bind_some, l2, Option.bind_some]
    simp only [zlet_e]
    rw [Int32.sub_add_cancel]
/-- what is noted of pages -/
def PGk (G : t_Pages) (S : t_Script) (n L : Nat) : Prop := G.2.1 = nI (mkN S n) ∧ ∃ c pN, c ≤ n ∧ G.1 = nI c ∧ BG n c pN G.2.2.2.2.2.2.1 G.2.2.2.2.2.2.2.2.2.2.2.2.1 ∧ ∀ g k ln pr lb mk, LR S n L g k ln pr lb mk → ∃ xs us, L_sets g k ln mk z0R z0R (nI L) = some (nI c, xs, us) ∧ XS n xs pN
theorem arr_l (hS : SOK S n L) (hR : LR S n L g k ln pr lb mk) (G : t_Pages) : ∃ G', X1_arrange G S = some (G'.1, G') ∧ PGk G' S n L := by
  have hn := hR.2.2.1
  obtain ⟨G', h1, h2, c, pN, xs, us, hc, hg, hB, -, -⟩ := arr1_l hS hR G
  refine ⟨G', h1, h2, c, pN, hc, hg, hB, fun g' k' ln' pr' lb' mk' hR' => ?_⟩
  obtain ⟨G2, a1, a2, c2, pN2, xs2, us2, bc, bg, bB, bL, bX⟩ := arr1_l hS hR' G
  rw [h1] at a1
  injection a1 with a1
  injection a1 with a3 a4
  subst a4
  rw [hg] at bg
  have ec : c = c2 := (nI_eq (by omega) (by omega)).mp bg
  subst ec
  refine ⟨xs2, us2, bL, fun e he => ?_⟩
  obtain ⟨w, w1, w2⟩ := bX e he
  have e1 := hB.1 e he
  have e2 := bB.1 e he
  rw [e1.1] at e2
  have ep : pN e = pN2 e := (nI_eq (by omega) (by omega)).mp e2.1
  exact ⟨w, w1, by rw [ep]; exact w2⟩
def HO (Hs : t_Hist) : Prop := ∃ c, c ≤ 4 ∧ Hs.1 = nI c ∧ h_ok Hs.2.1
theorem store_l {Hs : t_Hist} (h : HO Hs) (T : t_Script) : ∃ Hs', X0_store Hs T = some Hs' ∧ HO Hs' := by
  obtain ⟨c, hc, e1, hok⟩ := h
  unfold X0_store
  rw [if_pos ⟨hok, by rw [e1]; exact nI_pos (by omega), by rw [e1]; exact nI_le (b := 4) hc (by decide)⟩, e1]
  by_cases h4 : c = 4
  · subst h4
    rw [if_neg (show ¬ nI 4 < (4 : Int32) by decide)]
    exact ⟨_, rfl, 4, Nat.le_refl _, rfl, h_ok_drop hok⟩
  · rw [if_pos (show nI c < (4 : Int32) from nI_lt (b := 4) (by omega) (by decide)), nI_1]
    exact ⟨_, rfl, c + 1, by omega, rfl, hok⟩
/-- what holds of the class -/
def IX (x : t_SP) (n L : Nat) : Prop := SOK x.2.1 n L ∧ CSok x.2.2.2.1 x.2.1 n ∧ PGk x.2.2.2.2.2.1 x.2.1 n L ∧ HO x.2.2.2.2.2.2.2.1 ∧ ¬ DUP x.2.1 n
end PA
section PK
variable {D : t_Script} {n L : Nat} {g k ln pr lb mk : Rw}
theorem keep_l {Hs : t_Hist} (hH : HO Hs) (hD : SOK D n L) (hR : LR D n L g k ln pr lb mk) (hd : ¬ DUP D n) (tl : Int32) (S : t_Script) (C E : t_Scenes) (G F : t_Pages) (tx : Rw) : ∃ S' C' G' Hs', X6_keepDraft tl S D C E G F Hs tx = some (S', C', G', Hs') ∧ SEq D S' n ∧ LR S' n L g k ln pr lb mk ∧ ∀ (tl' : Int32) (D' : t_Script) (E' : t_Scenes) (F' : t_Pages) (tx' : Rw), IX (tl', S', D', C', E', G', F', Hs', tx') n L := by
  obtain ⟨Hs', h1, h2⟩ := store_l hH S
  have eq := copy_eq (S := D) (D := S) hD.2.2.1
  have k1 := eq.ok hD
  have k2 := LR_seq eq hR
  obtain ⟨C', h4, h5⟩ := survey_t k1 C
  obtain ⟨G', h6, h7⟩ := arr_l k1 k2 G
  refine ⟨X5_copyFrom S D, C', G', Hs', ?_, eq, k2, fun _ _ _ _ _ => ⟨k1, h5, h7, h2, fun z => hd (leq_dup hD k1 eq.leq z)⟩⟩
  unfold X6_keepDraft
  simp only [zlet_e]
  rw [h1, Option.bind_some, h4, Option.bind_some, h6, Option.bind_some]
end PK
