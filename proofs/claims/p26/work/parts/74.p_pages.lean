-- pages: the law's own setting beside the class's
section PN
variable {S : t_Script} {n L : Nat} {g k ln pr lb mk : Rw}
theorem mk_0 (hR : LR S n L g k ln pr lb mk) {i : Nat} (hi : i < n) (h : S.2.2.2.2.2.1 i = -1) : mk i = 0 := by
  rcases (hR.le hi).2.2.2.2 with ⟨-, z⟩ | ⟨q, q1, q2, q3, q4⟩
  · exact z
  · exfalso
    have := nI_pos (n := q) (by omega)
    rw [← q3, h] at this
    exact this (by decide)
theorem mk_1 (hR : LR S n L g k ln pr lb mk) {i : Nat} (hi : i < n) (h : ¬ S.2.2.2.2.2.1 i = -1) : 0 < mk i := by
  rcases (hR.le hi).2.2.2.2 with ⟨z, -⟩ | ⟨q, q1, q2, q3, q4⟩
  · exact absurd z h
  · rw [q4]; exact nI_lt (a := 0) (by omega) (by omega)
theorem holds_x (hS : SOK S n L) {i : Nat} (hi : i < n) : X1_holdsNext S (nI i) = if i + 1 < n ∧ S.2.2.2.2.2.1 (i + 1) = -1 ∧ ((S.2.2.1 i = 0 ∧ S.2.2.1 (i + 1) ≠ 0) ∨ ((S.2.2.1 i = 2 ∨ S.2.2.1 i = 4) ∧ (S.2.2.1 (i + 1) = 3 ∨ S.2.2.1 (i + 1) = 4))) then 1 else 0 := by
  have hn := hS.2.2.1
  unfold X1_holdsNext
  simp only [zlet_e, nI_1]
  rw [has_x hS (by omega)]
  by_cases h1 : i + 1 < n
  · rw [if_pos h1, if_neg (by decide), rAt_nI (by decide) _ (hS.lt h1), rAt_nI (by decide) _ (hS.lt h1), rAt_nI (by decide) _ (hS.lt hi)]
    rcases (hS.e hi).1 with h | h | h | h | h <;> rcases (hS.e h1).1 with k | k | k | k | k <;> by_cases hm : S.2.2.2.2.2.1 (i + 1) = -1 <;> simp [h, k, hm, h1]
  · rw [if_neg h1, if_pos rfl, if_neg (fun h => h1 h.1)]
/-- what the law writes for one element -/
theorem need1_l (hS : SOK S n L) (hR : LR S n L g k ln pr lb mk) {nd : Rw} (hN : ∀ i, i < n → NDi S n nd i) {d : Nat} (hd : d < n) (t : Rw) (ht : ∀ i, d + 1 ≤ i → i < n → t i = nd i) (rec : Rw × Int32 → Option Rw) : b_L_needs_7 g k ln mk rec (t, nI d) = rec (upd t d (nd d), nI d - 1) := by
  have hn := hR.2.2.1
  have h41 := hR.lt hd
  obtain ⟨v, w, v1, v2, v3, v4, v5, v6, v7, v8⟩ := least_x hS hd
  have hsp := splits_l hS hR hd v3 v2
  have e13 : ∀ z0 : Int32, j_L_needs_113 g k ln mk rec t (nI d) (nI v) z0 = if (S.2.2.1 d = 1 ∨ S.2.2.1 d = 3) ∧ 4 ≤ v then rec (upd t d (if S.2.2.1 d = 1 then 2 else 3), nI d - 1) else if z0 = 0 then rec (upd t d (nI v), nI d - 1) else (L_blanks k (nI (d + 1))).bind fun q10 => zix (nI (d + 1)) 41 (rec (upd t d (nI v + q10 + t (d + 1)), nI d - 1)) := by
    intro z0
    unfold j_L_needs_113
    rw [hsp, Option.bind_some]
    by_cases hs : (S.2.2.1 d = 1 ∨ S.2.2.1 d = 3) ∧ 4 ≤ v
    · rw [if_pos hs, if_pos hs, if_neg (by decide)]
      simp only [zlet_e, z41 h41, nI_clamp (show d < 2 ^ 31 by omega), im1]
      have kk : k d = S.2.2.1 d := by
        rcases k_cases hS hR hd with ⟨h1, h2, h3⟩ | ⟨h1, h2⟩
        · exfalso
          rcases hs.1 with h | h
          · rw [h1] at h; exact absurd h (by decide)
          · rw [h1] at h; exact absurd h (by decide)
        · exact h2
      rw [kk]
      by_cases h1 : S.2.2.1 d = 1
      · rw [if_pos h1, if_pos h1]
      · rw [if_neg h1, if_neg h1]
    · rw [if_neg hs, if_neg hs, if_pos rfl]
      simp only [zlet_e, z41 h41, nI_clamp (show d < 2 ^ 31 by omega), nI_1, nI_clamp (show d + 1 < 2 ^ 31 by omega), im1]
  -- which of the two
  have h13 : (S.2.2.1 d = 1 ∨ S.2.2.1 d = 3) → X1_holdsNext S (nI d) = 0 := by
    intro h
    rw [holds_x hS hd, if_neg]
    rintro ⟨-, -, a | a⟩
    · rcases h with h | h
      · rw [h] at a; exact absurd a.1 (by decide)
      · rw [h] at a; exact absurd a.1 (by decide)
    · rcases h with h | h
      · rw [h] at a; exact absurd a.1 (by decide)
      · rw [h] at a; exact absurd a.1 (by decide)
  have e7 : ∃ z0 : Int32, b_L_needs_7 g k ln mk rec (t, nI d) = j_L_needs_113 g k ln mk rec t (nI d) (nI v) z0 ∧ (z0 = 0 ↔ X1_holdsNext S (nI d) = 0) := by
    unfold b_L_needs_7 j_L_needs_67 j_L_needs_72
    simp only [zlet_e, zg0, cl0, hR.1, nI_1]
    rw [if_neg (nI_pos (by omega)), lines_l hS hR hd, Option.bind_some, v3]
    have i10 : ¬ ((1 : Int32) = 0) := by decide
    rw [if_neg i10]
    have hh := holds_x hS hd
    by_cases c : d + 1 < n
    · have h41' := hR.lt c
      rw [if_neg (fun e => by have := (nI_eq (by omega) (by omega)).mp e; omega)]
      simp only [z41 h41, z41 h41', nI_clamp (show d < 2 ^ 31 by omega), nI_clamp (show d + 1 < 2 ^ 31 by omega)]
      rw [heads_l hS hR hd, heads_l hS hR c, Option.bind_some, Option.bind_some]
      unfold j_L_needs_112 j_L_needs_108
      by_cases k1 : S.2.2.1 d = 1 ∨ S.2.2.1 d = 3
      · have kk : k d = S.2.2.1 d := by
          rcases k_cases hS hR hd with ⟨h1, h2, h3⟩ | ⟨h1, h2⟩
          · exfalso
            rcases k1 with h | h
            · rw [h1] at h; exact absurd h (by decide)
            · rw [h1] at h; exact absurd h (by decide)
          · exact h2
        refine ⟨0, ?_, ⟨fun _ => h13 k1, fun _ => rfl⟩⟩
        rw [kk]
        rcases k1 with h | h
        · rw [if_pos h]
        · rw [if_neg (by rw [h]; decide), if_pos h]
      · have nk1 : ¬ k d = 1 := by
          rcases k_cases hS hR hd with ⟨h1, h2, h3⟩ | ⟨h1, h2⟩
          · rw [h3]; decide
          · rw [h2]; exact fun e => k1 (Or.inl e)
        have nk3 : ¬ k d = 3 := by
          rcases k_cases hS hR hd with ⟨h1, h2, h3⟩ | ⟨h1, h2⟩
          · rw [h3]; decide
          · rw [h2]; exact fun e => k1 (Or.inr e)
        rw [if_neg nk1, if_neg nk3]
        by_cases m : S.2.2.2.2.2.1 (d + 1) = -1
        · rw [if_neg (show ¬ 0 < mk (d + 1) by rw [mk_0 hR c m]; decide)]
          by_cases h1 : S.2.2.1 (d + 1) = 0
          · rw [if_pos h1, if_neg i10]
            refine ⟨0, rfl, ⟨fun _ => ?_, fun _ => rfl⟩⟩
            rw [hh, if_neg]
            rintro ⟨-, -, a | a⟩
            · exact a.2 h1
            · rw [h1] at a
              exact absurd a.2 (by decide)
          · rw [if_neg h1, if_pos rfl, if_pos trivial]
            have kk : k (d + 1) = S.2.2.1 (d + 1) := by
              rcases k_cases hS hR c with ⟨a1, a2, a3⟩ | ⟨a1, a2⟩
              · exact absurd a1 h1
              · exact a2
            rw [kk]
            by_cases h0 : S.2.2.1 d = 0
            · rw [if_pos h0, if_neg i10]
              refine ⟨1, rfl, ⟨fun h => absurd h (by decide), fun h => ?_⟩⟩
              rw [hh, if_pos ⟨c, m, Or.inl ⟨h0, h1⟩⟩] at h
              exact absurd h (by decide)
            · rw [if_neg h0, if_pos rfl]
              have k24 : S.2.2.1 d = 2 ∨ S.2.2.1 d = 4 := by
                rcases (hS.e hd).1 with h | h | h | h | h
                · exact absurd h h0
                · exact absurd (Or.inl h) k1
                · exact Or.inl h
                · exact absurd (Or.inr h) k1
                · exact Or.inr h
              by_cases h3 : S.2.2.1 (d + 1) = 3
              · rw [if_pos h3]
                refine ⟨1, rfl, ⟨fun h => absurd h (by decide), fun h => ?_⟩⟩
                rw [hh, if_pos ⟨c, m, Or.inr ⟨k24, Or.inl h3⟩⟩] at h
                exact absurd h (by decide)
              · rw [if_neg h3]
                by_cases h4 : S.2.2.1 (d + 1) = 4
                · rw [if_pos h4]
                  refine ⟨1, rfl, ⟨fun h => absurd h (by decide), fun h => ?_⟩⟩
                  rw [hh, if_pos ⟨c, m, Or.inr ⟨k24, Or.inr h4⟩⟩] at h
                  exact absurd h (by decide)
                · rw [if_neg h4]
                  refine ⟨0, rfl, ⟨fun _ => ?_, fun _ => rfl⟩⟩
                  rw [hh, if_neg]
                  rintro ⟨-, -, a | a⟩
                  · exact h0 a.1
                  · rcases a.2 with a | a
                    · exact h3 a
                    · exact h4 a
        · rw [if_pos (mk_1 hR c m)]
          refine ⟨0, rfl, ⟨fun _ => ?_, fun _ => rfl⟩⟩
          rw [hh, if_neg (fun a => m a.2.1)]
    · rw [if_pos (by rw [show d + 1 = n by omega])]
      unfold j_L_needs_112
      refine ⟨0, rfl, ⟨fun _ => ?_, fun _ => rfl⟩⟩
      rw [hh, if_neg (fun a => c a.1)]
  obtain ⟨z0, z2, z3⟩ := e7
  rw [z2, e13, (hN d hd).2, v4]
  by_cases hs : (S.2.2.1 d = 1 ∨ S.2.2.1 d = 3) ∧ 4 ≤ v
  · rw [if_pos hs, if_pos (h13 hs.1)]
    have ew : nI w = if S.2.2.1 d = 1 then 2 else 3 := by
      rw [← v4, v3]
      unfold X1_leastPart j_X1_leastPart_12
      have g4 : ¬ nI v < (4 : Int32) := nI_nlt (b := 4) (by omega) (by omega)
      rw [if_neg g4, if_neg g4]
      by_cases h1 : S.2.2.1 d = 1
      · rw [if_pos h1, if_pos h1]
      · rw [if_neg h1, if_neg h1, if_pos (hs.1.resolve_left h1)]
    rw [ew]
  · rw [if_neg hs]
    have ewv : w = v := by
      rcases v7 with v7 | ⟨a, b⟩
      · exact v7
      · exfalso
        apply hs
        rcases b with b | b
        · exact ⟨Or.inl b.1, a⟩
        · exact ⟨Or.inr b.1, a⟩
    rw [ewv]
    by_cases e0 : X1_holdsNext S (nI d) = 0
    · rw [if_pos e0, if_pos (z3.mpr e0)]
    · have h1 := holds_lt hS hd e0
      rw [if_neg e0, if_neg (fun h => e0 (z3.mp h)), blanks_l hS hR h1, Option.bind_some, z41 (hR.lt h1), ht (d + 1) (Nat.le_refl _) h1, Int32.add_assoc]
theorem needs_l (hS : SOK S n L) (hR : LR S n L g k ln pr lb mk) {nd : Rw} (hN : ∀ i, i < n → NDi S n nd i) (t0 : Rw) : ∃ t, L_needs g k ln mk t0 = some t ∧ ∀ i, i < n → t i = nd i := by
  have hn := hR.2.2.1
  obtain ⟨X, h1, h2⟩ := zl_dn (body := b_L_needs_7 g k ln mk) (fun d v => d ≤ n ∧ ∃ t, v = (t, nI d - 1) ∧ ∀ i, d ≤ i → i < n → t i = nd i) (fun X => ∀ i, i < n → X i = nd i)
    (fun rec v hv => by
      obtain ⟨-, t, rfl, ht⟩ := hv
      unfold b_L_needs_7
      rw [if_pos (show nI 0 - 1 < 0 by decide)]
      exact ⟨_, rfl, fun i hi => ht i (Nat.zero_le _) hi⟩)
    (fun rec d v hv kk => by
      obtain ⟨hd, t, rfl, ht⟩ := hv
      rw [nI_pred, need1_l hS hR hN (show d < n by omega) t ht rec]
      refine kk _ ⟨by omega, _, rfl, fun i a b => ?_⟩
      by_cases e : i = d
      · subst e; exact pk_us
      · rw [pk_un e]; exact ht i (by omega) b)
    FU n (t0, nI n - 1) ⟨Nat.le_refl _, t0, rfl, fun i a b => by omega⟩ (show n < 3000 by omega)
  refine ⟨X, ?_, h2⟩
  unfold L_needs
  simp only [zlet_e, zg0, cl0, hR.1]
  rw [h1, Option.bind_some]
/-- how many lines go over -/
theorem rest_l {g0 k0 ln0 mk0 nd0 xs us : Rw} {x8 x10 : Int32} {line v sg f h : Nat} (hv : v ≤ 16) (hl : line + f ≤ 60) (hsg : sg ≤ 1) (hc : ¬ v ≤ f) (hx : 2 ≤ v ∧ sg ≤ f) (hh : h = hereN sg v f) : zloop (b_L_sets_144 g0 k0 ln0 mk0 (nI (line + f)) nd0 xs us x8 x10 (nI line) (nI v) (nI sg)) FU 0 = some (nI (v - h)) := by
  have hr : h ≤ v - 2 ∧ line + h + sg ≤ line + f ∧ (h = v - 2 ∨ h + sg = f) := by
    unfold hereN at hh
    rw [if_neg hc] at hh
    by_cases c : f - sg < v - 2
    · rw [if_pos c] at hh
      omega
    · rw [if_neg c] at hh
      omega
  obtain ⟨X, h1, h2⟩ := zl_up (body := b_L_sets_144 g0 k0 ln0 mk0 (nI (line + f)) nd0 xs us x8 x10 (nI line) (nI v) (nI sg)) (fun j w => w = nI j) (fun X => X = nI (v - h)) (v - h)
    (fun rec w hw => by
      subst hw
      unfold b_L_sets_144
      simp only [zlet_e]
      rw [nI_add, pk_sub (by omega), nI_add, if_neg (nI_nlt (by omega) (by omega)), if_pos (show (2 : Int32) ≤ nI (v - h) from nI_le (a := 2) (by omega) (by omega))]
      exact ⟨_, rfl, rfl⟩)
    (fun rec j w hj hw kk => by
      subst hw
      unfold b_L_sets_144
      simp only [zlet_e, nI_1]
      rw [nI_add, pk_sub (by omega), nI_add]
      by_cases c : line + f < line + v - j + sg
      · rw [if_pos (nI_lt c (by omega))]
        exact kk _ rfl
      · rw [if_neg (nI_nlt (by omega) (by omega)), if_neg (show ¬ (2 : Int32) ≤ nI j from nI_ge (b := 2) (by omega) (by decide))]
        exact kk _ rfl)
    FU 0 0 (Nat.zero_le _) rfl (show v - h - 0 < 3000 by omega)
  rw [h1, h2]
/-- one element set by the law -/
theorem set_l (hS : SOK S n L) (hR : LR S n L g k ln pr lb mk) {i : Nat} (hi : i < n) {p q v b sg line h : Nat} (hp : p < 60) (hq : q ≤ 60) (hv : X5_linesOf S (nI i) = nI v) (hv16 : v ≤ 16) (hb : X5_blanksAhead S (nI i) = nI b) (hb2 : b ≤ 2) (hsg : sg = if S.2.2.1 i = 3 then 1 else 0) (hline : line = lineN q b) (hlL : line ≤ L) (hh : h = hereN sg v (L - line)) (hx : ¬ v ≤ L - line → 2 ≤ v ∧ sg ≤ L - line ∧ p + 1 < 60) (nd xs us : Rw) (rec : Rw × Rw × Int32 × Int32 × Int32 → Option (Rw × Rw × Int32)) :
    ∃ us', j_L_sets_87_a91 g k ln mk (nI L) nd rec xs us (nI p) (nI q) (nI i) = if v ≤ L - line then rec (upd xs i (nI (10000 * p + 100 * line + h)), us', nI p, nI (line + h), nI (i + 1)) else rec (upd xs i (nI (10000 * p + 100 * line + h)), us', nI (p + 1), nI (v - h + sg), nI (i + 1)) := by
  have hL := hS.2.2.2.2.1
  have h41 := hR.lt hi
  have hsg1 : sg ≤ 1 := by rw [hsg]; split <;> omega
  have e105 : ∃ us', j_L_sets_105_a91 g k ln mk (nI L) nd rec xs us (nI p) (nI i) (nI line) = if v ≤ L - line then rec (upd xs i (nI (10000 * p + 100 * line + h)), us', nI p, nI (line + h), nI (i + 1)) else rec (upd xs i (nI (10000 * p + 100 * line + h)), us', nI (p + 1), nI (v - h + sg), nI (i + 1)) := by
    have e132 : ∃ us', j_L_sets_132_a91 g k ln mk (nI L) nd rec xs us (nI p) (nI i) (nI line) (nI v) 0 (nI sg) = if v ≤ L - line then rec (upd xs i (nI (10000 * p + 100 * line + h)), us', nI p, nI (line + h), nI (i + 1)) else rec (upd xs i (nI (10000 * p + 100 * line + h)), us', nI (p + 1), nI (v - h + sg), nI (i + 1)) := by
      unfold j_L_sets_132_a91
      simp only [zlet_e]
      rw [nI_add]
      have e172 : ∀ r : Nat, r + h = v → (r = 0 ↔ v ≤ L - line) → ∃ us', j_L_sets_172_a91 g k ln mk (nI L) nd rec xs us (nI p) (nI i) (nI line) (nI v) (nI r) (nI sg) = if v ≤ L - line then rec (upd xs i (nI (10000 * p + 100 * line + h)), us', nI p, nI (line + h), nI (i + 1)) else rec (upd xs i (nI (10000 * p + 100 * line + h)), us', nI (p + 1), nI (v - h + sg), nI (i + 1)) := by
        intro r hr hr0
        unfold j_L_sets_172_a91 j_L_sets_214_a91
        simp only [zlet_e, z41 h41, nI_clamp (show i < 2 ^ 31 by omega), nI_1, nI_clamp (show p < 2 ^ 31 by omega), nI_clamp (show p + 1 < 2 ^ 31 by omega)]
        have ex : (10000 : Int32) * nI p + 100 * nI line + nI v - nI r = nI (10000 * p + 100 * line + h) := by
          rw [show (10000 : Int32) = nI 10000 from rfl, show (100 : Int32) = nI 100 from rfl, pk_mul, pk_mul, nI_add, nI_add, pk_sub (by omega)]
          exact congrArg nI (by omega)
        have el : nI line + nI v - nI r = nI (line + h) := by
          rw [nI_add, pk_sub (by omega)]
          exact congrArg nI (by omega)
        rw [ex, el]
        by_cases c : v ≤ L - line
        · have hr1 := hr0.mpr c
          subst hr1
          refine ⟨upd us p (nI (line + h)), ?_⟩
          rw [if_pos c, if_pos (show nI 0 ≤ (0 : Int32) by decide), zix_nI (show p < 64 by omega) (by decide), if_pos (show nI 0 ≤ (0 : Int32) by decide), Int32.add_zero]
        · have hr1 : ¬ r = 0 := fun e => c (hr0.mp e)
          have g0 : ¬ nI r ≤ (0 : Int32) := nI_nle (by omega) (by omega)
          refine ⟨upd (upd us p (nI (line + h + sg))) (p + 1) (nI (v - h + sg)), ?_⟩
          rw [if_neg c, if_neg g0, zix_nI (show p < 64 by omega) (by decide), if_neg g0, zix_nI (show p + 1 < 64 by have := (hx c).2.2; omega) (by decide), nI_add, nI_add, show r + sg = v - h + sg by omega]
      by_cases c : v ≤ L - line
      · have e : h = v := by rw [hh]; unfold hereN; rw [if_pos c]
        rw [if_pos (nI_le (show line + v ≤ L by omega) (by omega))]
        exact e172 0 (by omega) ⟨fun _ => c, fun _ => rfl⟩
      · obtain ⟨x1, x2, x3⟩ := hx c
        have hvh : h ≤ v - 2 := by
          rw [hh]; unfold hereN; rw [if_neg c]
          split <;> omega
        have er := rest_l (g0 := g) (k0 := k) (ln0 := ln) (mk0 := mk) (nd0 := xs) (xs := us) (us := nd) (x8 := nI p) (x10 := nI i) (line := line) (f := L - line) hv16 (by omega) hsg1 c ⟨x1, x2⟩ hh
        rw [show line + (L - line) = L by omega] at er
        rw [if_neg (nI_ge (show L < line + v by omega) (by omega)), er, Option.bind_some]
        exact e172 (v - h) (by omega) ⟨fun e => by omega, fun e => absurd e c⟩
    unfold j_L_sets_105_a91
    rw [lines_l hS hR hi, Option.bind_some, hv]
    simp only [zlet_e, z41 h41, nI_clamp (show i < 2 ^ 31 by omega)]
    have k3 : k i = 3 ↔ S.2.2.1 i = 3 := by
      rcases k_cases hS hR hi with ⟨h1, h2, h3⟩ | ⟨h1, h2⟩
      · rw [h1, h3]
        decide
      · rw [h2]
    by_cases c : S.2.2.1 i = 3
    · rw [if_pos (k3.mpr c)]
      rw [if_pos c] at hsg
      rw [hsg] at e132
      rw [hsg]
      exact e132
    · rw [if_neg (fun e => c (k3.mp e))]
      rw [if_neg c] at hsg
      rw [hsg] at e132
      rw [hsg]
      exact e132
  unfold j_L_sets_87_a91
  unfold lineN at hline
  by_cases h0 : q = 0
  · rw [if_pos h0] at hline
    rw [h0, if_pos (show nI 0 ≤ (0 : Int32) by decide)]
    rw [hline] at e105
    rw [hline]
    exact e105
  · rw [if_neg h0] at hline
    rw [if_neg (nI_nle (by omega) (by omega)), blanks_l hS hR hi, Option.bind_some, hb]
    simp only [zlet_e]
    rw [nI_add, ← hline]
    exact e105
end PN
