-- a turn of the law: the class and the law's own arrays change together
def Done (o : Option (Int32 × t_SP × Rw × Rw × Rw × Rw × Rw × Rw)) : Prop := ∃ x' n' L' g' k' ln' pr' lb' mk', o = some (1, x', g', k', ln', pr', lb', mk') ∧ IX x' n' L' ∧ LR x'.2.1 n' L' g' k' ln' pr' lb' mk'
theorem zdv_nI {α : Type} {d : Nat} (h0 : 0 < d) (hd : d < 2147483648) (x : Option α) : zdv (nI d) x = x := by
  unfold zdv
  rw [if_neg (nI_ne0 h0 hd)]
theorem low_l (p : Int32) {d : Nat} (h0 : 0 < d) (hd : d < 2147483648) : ∃ q, q < d ∧ L_low p (nI d) = some (nI q) := by
  obtain ⟨j, hj, e⟩ := pk_andE p (m := 2147483647) 31 (by decide)
  refine ⟨j % d, Nat.mod_lt _ h0, ?_⟩
  unfold L_low
  simp only [zlet_e]
  rw [zdv_nI h0 hd, e, pk_rem (by omega) h0 (by omega)]
section PT
variable {x : t_SP} {n L : Nat} {g k ln pr lb mk : Rw}
theorem acts_ins (hI : IX x n L) (hR : LR x.2.1 n L g k ln pr lb mk) {p : Nat} (hp : p ≤ n) {kd l1 p1 : Int32} (hE : ENew kd l1 p1) (p7 : Int32) : Done (j_L_acts_179 p7 x g k ln pr lb mk (nI n) (nI p) kd l1 p1) := by
  have hn := hR.2.2.1
  unfold j_L_acts_179
  by_cases h40 : n = 40
  · subst h40
    have e := op_over hI (i := 41) (by omega) (by omega) kd l1 p1
    have e : L_inserts x 41 kd l1 p1 = some (-100001, x) := e
    rw [if_pos (show (nI 40 : Int32) = 40 from rfl), e, Option.bind_some]
    simp only []
    rw [if_pos trivial]
    exact ⟨x, 40, L, g, k, ln, pr, lb, mk, rfl, hI, hR⟩
  · rw [if_neg (show ¬ nI n = (40 : Int32) from fun z => h40 ((nI_eq (b := 40) (by omega) (by decide)).mp z))]
    obtain ⟨k', k1, k2⟩ := opens_l k (n := n) (p := p) (by omega) hp kd
    obtain ⟨ln', l1', l2'⟩ := opens_l ln (n := n) (p := p) (by omega) hp l1
    obtain ⟨pr', r1, r2⟩ := opens_l pr (n := n) (p := p) (by omega) hp p1
    obtain ⟨lb', b1, b2⟩ := opens_l lb (n := n) (p := p) (by omega) hp (-1)
    obtain ⟨mk', m1, m2⟩ := opens_l mk (n := n) (p := p) (by omega) hp 0
    obtain ⟨g', hg'⟩ : ∃ g' : Rw, g' = upd g 0 (nI (n + 1)) := ⟨_, rfl⟩
    have g0 : g' 0 = nI (n + 1) := by rw [hg', pk_us]
    have g1 : g' 1 = nI L := by rw [hg', pk_un (by decide)]; exact hR.2.1
    obtain ⟨T', t1, t2, t3, t4⟩ := op_insert hI hR (by omega) hp hE (k' := k') (ln' := ln') (pr' := pr') (lb' := lb') (mk' := mk') (g' := g') k2 l2' r2 b2 m2 g0 g1
    simp only [zlet_e, zg0, cl0]
    rw [k1, Option.bind_some, l1', Option.bind_some, r1, Option.bind_some, b1, Option.bind_some, m1, Option.bind_some, hR.1, nI_1, ← hg']
    have fin : ¬ (kd = 0 ∧ DUP T' (n + 1)) → Done (j_L_acts_365 p7 x g' k' ln' pr' lb' mk' (nI n) (nI p) kd l1 p1) := by
      intro z
      obtain ⟨x', e1, e2, e3⟩ := t3 z
      unfold j_L_acts_365
      simp only [zlet_e]
      rw [e1, Option.bind_some, nI_1]
      simp only []
      rw [if_pos trivial]
      exact ⟨x', n + 1, L, g', k', ln', pr', lb', mk', rfl, e2, e3⟩
    by_cases k0 : kd = 0
    · rw [if_pos k0]
      obtain ⟨r, w1, w2⟩ := hasTwo_l t1 t2
      rw [w1, Option.bind_some]
      rcases w2 with ⟨w2, w3⟩ | ⟨w2, w3⟩
      · have cl : ∀ {f f' : Rw} {v : Int32}, (∀ t, f' t = if t = p then v else if p < t ∧ t ≤ n then f (t - 1) else f t) → ∃ f2, L_closes f' (nI (n + 1)) (nI p) = some f2 ∧ ∀ t, t < n → f2 t = f t := by
          intro f f' v h
          obtain ⟨f2, c1, c2⟩ := closes_l f' (n := n + 1) (i := p) (by omega) (by omega)
          refine ⟨f2, c1, fun t ht => ?_⟩
          rw [c2]
          by_cases c : p ≤ t
          · rw [if_pos ⟨c, by omega⟩, h, if_neg (by omega), if_pos ⟨by omega, by omega⟩]
            rfl
          · rw [if_neg (by omega), h, if_neg (by omega), if_neg (by omega)]
        obtain ⟨k3, k4, k5⟩ := cl k2
        obtain ⟨ln3, ln4, ln5⟩ := cl l2'
        obtain ⟨pr3, pr4, pr5⟩ := cl r2
        obtain ⟨lb3, lb4, lb5⟩ := cl b2
        obtain ⟨mk3, mk4, mk5⟩ := cl m2
        obtain ⟨x', e1, e2, e3⟩ := t4 k0 w3
        have p1e : p1 = -1 := hE.2.2.2 (by rw [k0]; decide)
        rw [k0, p1e] at e1
        rw [w2, if_neg (by decide), k4, Option.bind_some, ln4, Option.bind_some, pr4, Option.bind_some, lb4, Option.bind_some, mk4, Option.bind_some, g0, nI_pred, e1, Option.bind_some]
        simp only []
        rw [if_pos trivial]
        refine ⟨x', n, L, upd g' 0 (nI n), k3, ln3, pr3, lb3, mk3, rfl, e2, ?_⟩
        rw [e3]
        exact LR_cong hR (by rw [pk_us, hR.1]) (by rw [pk_un (by decide), g1, hR.2.1]) (fun i hi => ⟨k5 i hi, ln5 i hi, pr5 i hi, lb5 i hi, mk5 i hi⟩)
      · rw [w2, if_pos rfl]
        exact fin (fun z => w3 z.2)
    · rw [if_neg k0]
      exact fin (fun z => k0 z.1)
theorem acts_len (hI : IX x n L) (hR : LR x.2.1 n L g k ln pr lb mk) {p q : Nat} (hp : p ≤ n) (hq : q < 100000) {kd : Int32} (hk : kd = 0 ∨ kd = 1 ∨ kd = 2 ∨ kd = 3 ∨ kd = 4) (p7 : Int32) : Done (j_L_acts_130 p7 x g k ln pr lb mk (nI q) (nI n) (nI p) kd) := by
  have go : ∀ l, 1 ≤ l → l ≤ 400 → Done (j_L_acts_163 p7 x g k ln pr lb mk (nI q) (nI n) (nI p) kd (nI l)) := by
    intro l l1 l2
    unfold j_L_acts_163
    by_cases c : kd = 2
    · rw [if_pos c]
      simp only [zlet_e]
      rw [show (3 : Int32) = nI 3 from rfl, pk_rem (by omega) (by decide) (by decide)]
      have := Nat.mod_lt q (show 0 < 3 by decide)
      exact acts_ins hI hR hp ⟨hk, ⟨l, l1, l2, rfl⟩, fun _ => ⟨q % 3, by omega, rfl⟩, fun z => absurd c z⟩ p7
    · rw [if_neg c]
      exact acts_ins hI hR hp ⟨hk, ⟨l, l1, l2, rfl⟩, fun z => absurd z c, fun _ => rfl⟩ p7
  have ln1 : ∀ w, 0 < w → w ≤ 400 → Done (j_L_acts_163 p7 x g k ln pr lb mk (nI q) (nI n) (nI p) kd (1 + (nI q / 7 - nI q / 7 / nI w * nI w))) := by
    intro w w0 w1
    rw [show (7 : Int32) = nI 7 from rfl, pk_div (by omega) (by decide) (by decide), pk_rem (by omega) w0 (by omega), show (1 : Int32) = nI 1 from rfl, nI_add]
    have := Nat.mod_lt (q / 7) w0
    exact go _ (by omega) (by omega)
  unfold j_L_acts_130
  simp only [zlet_e]
  by_cases c : nI q - nI q / 5 * 5 = 0
  · rw [if_pos c]
    exact ln1 400 (by decide) (by decide)
  · rw [if_neg c]
    exact ln1 90 (by decide) (by decide)
theorem acts_54 (hI : IX x n L) (hR : LR x.2.1 n L g k ln pr lb mk) {q : Nat} (hq : q < 100000) (p7 : Int32) : Done (j_L_acts_54 p7 x g k ln pr lb mk (nI q) (nI n)) := by
  have hn := hR.2.2.1
  have hm := Nat.mod_lt q (show 0 < n + 1 by omega)
  unfold j_L_acts_54
  simp only [zlet_e]
  rw [nI_1, zdv_nI (by omega) (by omega), pk_rem (by omega) (by omega) (by omega)]
  have go := fun kd hk => acts_len hI hR (p := q % (n + 1)) (by omega) hq (kd := kd) hk p7
  by_cases c1 : (2 : Int32) ≤ nI q / 41 - nI q / 41 / 12 * 12
  · rw [if_pos c1]
    by_cases c2 : (5 : Int32) ≤ nI q / 41 - nI q / 41 / 12 * 12
    · rw [if_pos c2]
      by_cases c3 : (8 : Int32) ≤ nI q / 41 - nI q / 41 / 12 * 12
      · rw [if_pos c3]
        by_cases c4 : (10 : Int32) ≤ nI q / 41 - nI q / 41 / 12 * 12
        · rw [if_pos c4]; exact go 4 (by decide)
        · rw [if_neg c4]; exact go 3 (by decide)
      · rw [if_neg c3]; exact go 2 (by decide)
    · rw [if_neg c2]; exact go 1 (by decide)
  · rw [if_neg c1]; exact go 0 (by decide)
theorem acts_470 (hI : IX x n L) (hR : LR x.2.1 n L g k ln pr lb mk) {p : Nat} (hp : p < n) (hu : x.2.1.2.2.2.2.2.2.1 p = 0) (p7 : Int32) : Done (j_L_acts_470 p7 x g k ln pr lb mk (nI p)) := by
  obtain ⟨m, rfl⟩ : ∃ m, n = m + 1 := ⟨n - 1, by omega⟩
  obtain ⟨g', k', ln', pr', lb', mk', x', e1, e2, e3, e4, e5⟩ := op_remove hI hR hp hu
  unfold j_L_acts_470
  simp only [zlet_e, zg0, cl0]
  rw [e1, Option.bind_some, e3, Option.bind_some]
  simp only []
  rw [e2, if_pos rfl]
  exact ⟨x', m, L, g', k', ln', pr', lb', mk', rfl, e4, e5⟩
theorem acts_537 (hI : IX x n L) (hR : LR x.2.1 n L g k ln pr lb mk) {p : Nat} (hp : p < n) {l : Nat} (hl1 : 1 ≤ l) (hl2 : l ≤ 400) (p7 : Int32) : Done (j_L_acts_537 p7 x g k ln pr lb mk (nI p) (nI l) (nI p)) := by
  have h41 := hR.lt hp
  obtain ⟨v, x', e1, e2, e3, e4⟩ := op_length hI hR hp hl1 hl2
  unfold j_L_acts_537
  simp only [zlet_e, z41 h41, nI_clamp (show p < 2 ^ 31 by omega)]
  rw [pk_us, e1, Option.bind_some, e2, Option.bind_some]
  simp only []
  rw [if_pos trivial]
  exact ⟨x', n, L, g, k, upd ln p (nI l), pr, lb, mk, rfl, e3, e4⟩
theorem acts_593 (hI : IX x n L) (hR : LR x.2.1 n L g k ln pr lb mk) {M : Nat} (hM1 : 20 ≤ M) (hM2 : M ≤ 60) (p7 : Int32) : Done (j_L_acts_593 p7 x g k ln pr lb mk (nI L) (nI M) 1) := by
  obtain ⟨x', e1, e3, e4⟩ := op_size hI hR hM1 hM2
  unfold j_L_acts_593
  simp only [zlet_e, zg1, cl1]
  rw [pk_us, e1, Option.bind_some]
  simp only []
  rw [if_pos trivial]
  exact ⟨x', n, M, upd g 1 (nI M), k, ln, pr, lb, mk, rfl, e3, e4⟩
theorem acts_lock (hI : IX x n L) (hR : LR x.2.1 n L g k ln pr lb mk) (p7 : Int32) {to : Rw} (ht : ∀ h, h < n → x.2.1.2.2.1 h = 0 → ENC x.2.1 n h (to h)) :
    ∃ lb', zloop (b_L_acts_633 p7 x g k ln pr mk to (nI n)) FU (lb, 0, 0) = some (lb', nI (ctN (unB x.2.1) n)) ∧ ∀ i, i < n → lb' i = if x.2.1.2.2.1 i = 0 then to i else -1 := by
  have hS : SOK x.2.1 n L := hI.1
  have hn := hR.2.2.1
  obtain ⟨S, hSe⟩ : ∃ S, S = x.2.1 := ⟨_, rfl⟩
  rw [← hSe] at hS hR ht ⊢
  obtain ⟨X, h1, h2⟩ := zl_up (body := b_L_acts_633 p7 x g k ln pr mk to (nI n)) (fun j v => ∃ f, v = (f, nI (ctN (unB S) j), nI j) ∧ (∀ i, i < j → f i = if S.2.2.1 i = 0 then to i else -1) ∧ ∀ i, j ≤ i → f i = lb i) (fun X => ∃ f, X = (f, nI (ctN (unB S) n)) ∧ ∀ i, i < n → f i = if S.2.2.1 i = 0 then to i else -1) n
    (fun rec v hv => by
      obtain ⟨f, rfl, f1, f2⟩ := hv
      unfold b_L_acts_633
      rw [if_pos (nI_le (Nat.le_refl _) (by omega))]
      exact ⟨_, rfl, f, rfl, f1⟩)
    (fun rec j v hj hv kk => by
      obtain ⟨f, rfl, f1, f2⟩ := hv
      have h41 : j < 41 := by omega
      have nxt : ∀ w, w = (if S.2.2.1 j = 0 then to j else -1) → (∀ i, i < j + 1 → upd f j w i = if S.2.2.1 i = 0 then to i else -1) ∧ ∀ i, j + 1 ≤ i → upd f j w i = lb i := by
        intro w hw
        refine ⟨fun i hi => ?_, fun i hi => ?_⟩
        · by_cases c : i = j
          · subst c; rw [pk_us]; exact hw
          · rw [pk_un c]; exact f1 i (by omega)
        · rw [pk_un (by omega)]; exact f2 i (by omega)
      unfold b_L_acts_633
      rw [if_neg (nI_ge hj (by omega))]
      simp only []
      rw [heads_l hS hR hj, Option.bind_some]
      unfold j_L_acts_663_a91 j_L_acts_664_a91
      simp only [zlet_e, z41 h41, nI_clamp (show j < 2 ^ 31 by omega), heads_l hS hR hj, Option.bind_some, nI_1]
      by_cases h0 : S.2.2.1 j = 0
      · rw [if_pos h0, if_neg (show ¬ (1 : Int32) = 0 by decide), f2 j (Nat.le_refl _)]
        by_cases hl : S.2.2.2.2.2.2.1 j = 0
        · rw [lb_0 hR hj hl, if_neg (by decide), if_neg (show ¬ (1 : Int32) = 0 by decide)]
          refine kk _ ⟨upd f j (to j), ?_, nxt _ (by rw [if_pos h0])⟩
          rw [ct_s1 (show unB S j = true from decide_eq_true ⟨h0, hl⟩), ← nI_1]
        · rw [if_pos (Int32.not_lt.mp (lb_1 hR hj hl)), if_neg (show ¬ (1 : Int32) = 0 by decide)]
          refine kk _ ⟨upd f j (to j), ?_, nxt _ (by rw [if_pos h0])⟩
          rw [ct_s0 (show ¬ unB S j = true from fun z => hl (of_decide_eq_true z).2), Int32.add_zero]
      · rw [if_neg h0, if_pos rfl, if_pos rfl]
        refine kk _ ⟨upd f j (-1), ?_, nxt _ (by rw [if_neg h0])⟩
        rw [ct_s0 (show ¬ unB S j = true from fun z => h0 (of_decide_eq_true z).1), Int32.add_zero])
    FU 0 (lb, 0, 0) (Nat.zero_le _) ⟨lb, rfl, fun i hi => absurd hi (Nat.not_lt_zero _), fun _ _ => rfl⟩ (show n - 0 < 3000 by omega)
  obtain ⟨f, e, e2⟩ := h2
  exact ⟨f, by rw [h1, e], e2⟩
theorem acts_page {p7 : Int32} {x0 : t_SP} {xs us : Rw} {c x17 : Int32} {pN : Nat → Nat} (hn : n ≤ 40) (hx : XS n xs pN) (hp : ∀ e, e < n → pN e < 60) :
    ∃ mk', zloop (b_L_acts_762 p7 x0 g k ln pr lb xs us (nI n) x17) FU (mk, 0, 0) = some (mk', nI (ctN (fsB pN) n)) ∧ ∀ e, e < n → mk' e = if fsB pN e = true then nI (ctN (fsB pN) (e + 1)) else 0 := by
  have xd : ∀ e, e < n → xs e / 10000 = nI (pN e) := by
    intro e he
    obtain ⟨w, w1, w2⟩ := hx e he
    have := hp e he
    rw [w2, show (10000 : Int32) = nI 10000 from rfl, pk_div (by omega) (by decide) (by decide), show (10000 * pN e + w) / 10000 = pN e by omega]
  obtain ⟨X, h1, h2⟩ := zl_up (body := b_L_acts_762 p7 x0 g k ln pr lb xs us (nI n) x17) (fun j v => ∃ f, v = (f, nI (ctN (fsB pN) j), nI j) ∧ (∀ e, e < j → f e = if fsB pN e = true then nI (ctN (fsB pN) (e + 1)) else 0)) (fun X => ∃ f, X = (f, nI (ctN (fsB pN) n)) ∧ (∀ e, e < n → f e = if fsB pN e = true then nI (ctN (fsB pN) (e + 1)) else 0)) n
    (fun rec v hv => by
      obtain ⟨f, rfl, f1⟩ := hv
      unfold b_L_acts_762
      rw [if_pos (nI_le (Nat.le_refl _) (by omega))]
      exact ⟨_, rfl, f, rfl, f1⟩)
    (fun rec j v hj hv kk => by
      obtain ⟨f, rfl, f1⟩ := hv
      have h41 : j < 41 := by omega
      have nxt : ∀ w, w = (if fsB pN j = true then nI (ctN (fsB pN) (j + 1)) else 0) → (∀ i, i < j + 1 → upd f j w i = if fsB pN i = true then nI (ctN (fsB pN) (i + 1)) else 0) := by
        intro w hw i hi
        by_cases c : i = j
        · subst c; rw [pk_us]; exact hw
        · rw [pk_un c]; exact f1 i (by omega)
      have yes : fsB pN j = true → ∃ X, j_L_acts_797_a92_a93 p7 x0 g k ln pr lb xs us (nI n) x17 rec f (nI (ctN (fsB pN) j)) (nI j) = some X ∧ ∃ f, X = (f, nI (ctN (fsB pN) n)) ∧ (∀ e, e < n → f e = if fsB pN e = true then nI (ctN (fsB pN) (e + 1)) else 0) := by
        intro hf
        unfold j_L_acts_797_a92_a93 j_L_acts_802_a92_a93
        rw [if_neg (by decide)]
        unfold j_L_acts_816_a92_a93
        simp only [zlet_e, z41 h41, nI_clamp (show j < 2 ^ 31 by omega), nI_1]
        rw [if_neg (by decide)]
        refine kk _ ⟨_, ?_, nxt (nI (ctN (fsB pN) (j + 1))) (by rw [if_pos hf])⟩
        rw [ct_s1 hf]
      unfold b_L_acts_762
      rw [if_neg (nI_ge hj (by omega))]
      simp only []
      by_cases j0 : j = 0
      · rw [if_pos (show nI j = 0 by rw [j0]; rfl)]
        exact yes (decide_eq_true (Or.inl j0))
      · rw [if_neg (nI_ne0 (by omega) (by omega))]
        obtain ⟨i, rfl⟩ : ∃ i, j = i + 1 := ⟨j - 1, by omega⟩
        have i41 : i < 41 := by omega
        simp only [zlet_e, z41 h41, nI_clamp (show i + 1 < 2 ^ 31 by omega), nI_pred, z41 i41, nI_clamp (show i < 2 ^ 31 by omega), xd (i + 1) hj, xd i (by omega)]
        have b1 := hp (i + 1) hj
        have b2 := hp i (by omega)
        by_cases c : pN (i + 1) = pN i
        · have hf : ¬ fsB pN (i + 1) = true := fun z => by
            rcases of_decide_eq_true z with z | z
            · exact absurd z (by omega)
            · exact z c.symm
          rw [if_pos (by rw [c])]
          unfold j_L_acts_802_a92_a93
          rw [if_pos rfl]
          unfold j_L_acts_816_a92_a93
          simp only [zlet_e, z41 h41, nI_clamp (show i + 1 < 2 ^ 31 by omega)]
          rw [if_pos trivial]
          refine kk _ ⟨_, ?_, nxt 0 (by rw [if_neg hf])⟩
          rw [ct_s0 hf, Int32.add_zero, nI_1]
        · rw [if_neg (fun z => c ((nI_eq (by omega) (by omega)).mp z))]
          exact yes (decide_eq_true (Or.inr (fun z => c z.symm))))
    FU 0 (mk, 0, 0) (Nat.zero_le _) ⟨mk, rfl, fun i hi => absurd hi (Nat.not_lt_zero _)⟩ (show n - 0 < 3000 by omega)
  obtain ⟨f, e, e2⟩ := h2
  exact ⟨f, by rw [h1, e], e2⟩
theorem find_l (hI : IX x n L) (hR : LR x.2.1 n L g k ln pr lb mk) (p7 : Int32) {s : Nat} (hs : s < hcN x.2.1.2.2.1 n) :
    ∃ h, h < n ∧ x.2.1.2.2.1 h = 0 ∧ hcN x.2.1.2.2.1 h = s ∧ zloop (b_L_omitted_42 p7 x g k ln pr lb mk (nI s)) FU (-1, nI s) = some (nI h) := by
  have hS : SOK x.2.1 n L := hI.1
  have hn := hR.2.2.1
  have hc := hc_le x.2.1.2.2.1 n
  obtain ⟨S, hSe⟩ : ∃ S, S = x.2.1 := ⟨_, rfl⟩
  rw [← hSe] at hS hR hs hc ⊢
  obtain ⟨X, h1, h2⟩ := zl_up (body := b_L_omitted_42 p7 x g k ln pr lb mk (nI s)) (fun j v => ∃ z a, v = (z, nI (s + 1 - j) - 1) ∧ z + 1 = nI a ∧ a ≤ n ∧ hcN S.2.2.1 a = j ∧ (j ≠ 0 → ∃ h, h < n ∧ S.2.2.1 h = 0 ∧ hcN S.2.2.1 h + 1 = j ∧ z = nI h)) (fun X => ∃ h, h < n ∧ S.2.2.1 h = 0 ∧ hcN S.2.2.1 h = s ∧ X = nI h) (s + 1)
    (fun rec v hv => by
      obtain ⟨z, a, rfl, -, -, -, hh⟩ := hv
      obtain ⟨h, a1, a2, a3, a4⟩ := hh (by omega)
      unfold b_L_omitted_42
      simp only []
      rw [Nat.sub_self, if_pos (by decide)]
      exact ⟨_, rfl, h, a1, a2, by omega, a4⟩)
    (fun rec j v hj hv kk => by
      obtain ⟨z, a, rfl, ha, han, hca, -⟩ := hv
      obtain ⟨h, hh, hk, hch⟩ := hc_ex (kd := S.2.2.1) (s := j) (n := n) (by omega)
      have hah : a ≤ h := by
        by_cases c : a ≤ h
        · exact c
        · have := hc_lt (kd := S.2.2.1) (i := h) (j := a) (by omega) hk
          omega
      have lo := hc_same hah (by omega : hcN S.2.2.1 a = hcN S.2.2.1 h)
      obtain ⟨d, hd⟩ : ∃ d, s + 1 - j = d + 1 := ⟨s - j, by omega⟩
      unfold b_L_omitted_42
      simp only [zlet_e]
      rw [hd, nI_pred, if_neg (nI_pos (by omega)), ha]
      obtain ⟨Y, y1, y2⟩ := zl_up (body := b_L_omitted_50 p7 x g k ln pr lb mk (nI s) (nI d)) (fun i v => a ≤ i ∧ v = nI i) (fun Y => Y = nI h) h
        (fun rec v hv => by
          obtain ⟨-, rfl⟩ := hv
          unfold b_L_omitted_50
          rw [heads_l hS hR hh, Option.bind_some, if_pos hk, if_neg (by decide)]
          exact ⟨_, rfl, rfl⟩)
        (fun rec i v hi hv kk => by
          obtain ⟨h0, rfl⟩ := hv
          unfold b_L_omitted_50
          simp only [zlet_e]
          rw [heads_l hS hR (by omega), Option.bind_some, if_neg (lo i h0 hi), if_pos rfl, nI_1]
          exact kk _ ⟨by omega, rfl⟩)
        FU a (nI a) hah ⟨Nat.le_refl _, rfl⟩ (show h - a < 3000 by omega)
      rw [y1, Option.bind_some, y2]
      refine kk _ ⟨nI h, h + 1, ?_, nI_1 h, by omega, by rw [hc_s0 hk, hch], fun _ => ⟨h, hh, hk, by omega, rfl⟩⟩
      rw [im1, show s + 1 - (j + 1) = d by omega])
    FU 0 (-1, nI s) (Nat.zero_le _) ⟨-1, 0, by rw [show s + 1 - 0 = s + 1 by omega, nI_pred], rfl, Nat.zero_le _, rfl, fun z => absurd rfl z⟩ (show s + 1 - 0 < 3000 by omega)
  obtain ⟨h, a1, a2, a3, a4⟩ := h2
  exact ⟨h, a1, a2, a3, by rw [h1, a4]⟩
theorem acts_omit (hI : IX x n L) (hR : LR x.2.1 n L g k ln pr lb mk) {q : Nat} (hq : q < 100000) : Done (L_omitted x g k ln pr lb mk (nI q)) := by
  have hS : SOK x.2.1 n L := hI.1
  have hn := hR.2.2.1
  have hc := hc_le x.2.1.2.2.1 n
  unfold L_omitted
  rw [scenes_l hS hR, Option.bind_some]
  by_cases h0 : hcN x.2.1.2.2.1 n = 0
  · rw [if_pos (by rw [h0]; rfl), op_omit0 hI h0, Option.bind_some]
    simp only []
    rw [if_pos trivial]
    exact ⟨x, n, L, g, k, ln, pr, lb, mk, rfl, hI, hR⟩
  · rw [if_neg (nI_ne0 (by omega) (by omega))]
    simp only [zlet_e]
    rw [zdv_nI (by omega) (by omega), pk_rem (by omega) (by omega) (by omega)]
    obtain ⟨s, hs⟩ : ∃ s, s = q % hcN x.2.1.2.2.1 n := ⟨_, rfl⟩
    have hs2 : s < hcN x.2.1.2.2.1 n := by rw [hs]; exact Nat.mod_lt _ (by omega)
    rw [← hs]
    obtain ⟨h, hh, hk, hch, hf⟩ := find_l hI hR (nI q) hs2
    have h41 := hR.lt hh
    have no : x.2.1.2.2.2.2.2.2.1 h = 0 ∨ x.2.1.2.2.2.2.2.2.1 h = 2 → Done (j_L_omitted_87 (nI q) x g k ln pr lb mk (nI s)) := by
      intro z
      have e := op_omit1 hI hh hk z
      rw [hch] at e
      unfold j_L_omitted_87
      rw [e, Option.bind_some]
      simp only []
      rw [if_pos trivial]
      exact ⟨x, n, L, g, k, ln, pr, lb, mk, rfl, hI, hR⟩
    rw [hf, Option.bind_some]
    simp only [z41 h41, nI_clamp (show h < 2 ^ 31 by omega)]
    by_cases hl : x.2.1.2.2.2.2.2.2.1 h = 0
    · rw [lb_0 hR hh hl, if_pos (by decide)]
      exact no (Or.inl hl)
    · rw [if_neg (lb_1 hR hh hl)]
      by_cases hl2 : x.2.1.2.2.2.2.2.2.1 h = 2
      · rw [if_pos (by rw [(hR.le hh).1, if_pos hl2])]
        exact no (Or.inr hl2)
      · have hl1 : x.2.1.2.2.2.2.2.2.1 h = 1 := by
          rcases (hS.e hh).2.2.2.2.1 with z | z | z
          · exact absurd z hl
          · exact z
          · exact absurd z hl2
        rw [if_neg (by rw [(hR.le hh).1, if_neg hl2, hk]; decide)]
        obtain ⟨g', k', ln', pr', lb', mk', m, x', e1, e2, e3, e4⟩ := op_omit hI hR hh hk hl1 (nI q) (nI s)
        rw [hch] at e2
        rw [e1, Option.bind_some]
        unfold j_L_omitted_150
        simp only [zlet_e, z41 h41, nI_clamp (show h < 2 ^ 31 by omega)]
        rw [e2, Option.bind_some]
        simp only []
        rw [if_pos trivial]
        exact ⟨x', n - m, L, g', upd k' h 5, ln', pr', lb', mk', rfl, e3, e4⟩
theorem acts_30 (hI : IX x n L) (hR : LR x.2.1 n L g k ln pr lb mk) {q p : Nat} (hq : q < 100000) (hp : 0 < n → p < n) (p7 : Int32) : Done (j_L_acts_30 p7 x g k ln pr lb mk (nI q) (nI n) (nI p)) := by
  have hS : SOK x.2.1 n L := hI.1
  have hn := hR.2.2.1
  obtain ⟨a, ha, e⟩ := low_l p7 (d := 16) (by decide) (by decide)
  have e : L_low p7 16 = some (nI a) := e
  unfold j_L_acts_30
  rw [e, Option.bind_some]
  by_cases h3 : n < 3
  · rw [if_pos (show nI n < (3 : Int32) from nI_lt (b := 3) h3 (by decide))]
    exact acts_54 hI hR hq p7
  rw [if_neg (show ¬ nI n < (3 : Int32) from nI_nlt (b := 3) (by omega) (by omega))]
  have hp := hp (by omega)
  have h41 := hR.lt hp
  by_cases a7 : a < 7
  · rw [if_neg (show ¬ (7 : Int32) ≤ nI a from nI_ge (b := 7) a7 (by decide))]
    exact acts_54 hI hR hq p7
  rw [if_pos (show (7 : Int32) ≤ nI a from nI_le (a := 7) (by omega) (by omega))]
  have eqs : ∀ b : Nat, b < 100 → (nI a = nI b ↔ a = b) := fun b hb => nI_eq (by omega) (by omega)
  have rm : Done ((L_heads k (nI p)).bind fun q50 => if q50 = 0 then (j_L_acts_470 p7 x g k ln pr lb mk (nI p)) else (zix (nI p) 41 (zlet (lb (nI p).toNatClampNeg) fun u54 => if u54 < 0 then (j_L_acts_470 p7 x g k ln pr lb mk (nI p)) else ((L_drops x (nI p)).bind fun q55 => if q55.1 = (-100003) then (some (1, q55.2, g, k, ln, pr, lb, mk)) else (some (0, q55.2, g, k, ln, pr, lb, mk)))))) := by
    rw [heads_l hS hR hp, Option.bind_some]
    simp only [zlet_e, z41 h41, nI_clamp (show p < 2 ^ 31 by omega)]
    by_cases h0 : x.2.1.2.2.1 p = 0
    · rw [if_pos h0, if_neg (by decide)]
      by_cases hl : x.2.1.2.2.2.2.2.2.1 p = 0
      · rw [lb_0 hR hp hl, if_pos (by decide)]
        exact acts_470 hI hR hp hl p7
      · rw [if_neg (lb_1 hR hp hl), op_locked hI hp hl, Option.bind_some]
        simp only []
        rw [if_pos trivial]
        exact ⟨x, n, L, g, k, ln, pr, lb, mk, rfl, hI, hR⟩
    · rw [if_neg h0, if_pos rfl]
      exact acts_470 hI hR hp (hS.un hp h0) p7
  have lw : ∀ w, 0 < w → w ≤ 400 → Done (j_L_acts_537 p7 x g k ln pr lb mk (nI p) (1 + (nI q / 41 - nI q / 41 / nI w * nI w)) (nI p)) := by
    intro w w0 w1
    rw [show (41 : Int32) = nI 41 from rfl, pk_div (by omega) (by decide) (by decide), pk_rem (by omega) w0 (by omega), show (1 : Int32) = nI 1 from rfl, nI_add]
    have := Nat.mod_lt (q / 41) w0
    exact acts_537 hI hR hp (by omega) (by omega) p7
  have e7 : nI a = (7 : Int32) ↔ a = 7 := eqs 7 (by decide)
  by_cases c7 : a = 7
  · rw [if_pos (e7.mpr c7)]; exact rm
  rw [if_neg (fun z => c7 (e7.mp z))]
  have e8 : nI a = (8 : Int32) ↔ a = 8 := eqs 8 (by decide)
  by_cases c8 : a = 8
  · rw [if_pos (e8.mpr c8)]; exact rm
  rw [if_neg (fun z => c8 (e8.mp z))]
  have e9 : nI a = (9 : Int32) ↔ a = 9 := eqs 9 (by decide)
  by_cases c9 : a = 9
  · rw [if_pos (e9.mpr c9)]
    simp only [zlet_e]
    by_cases c : nI q - nI q / 3 * 3 = 0
    · rw [if_pos c]; exact lw 400 (by decide) (by decide)
    · rw [if_neg c]; exact lw 130 (by decide) (by decide)
  rw [if_neg (fun z => c9 (e9.mp z))]
  have e10 : nI a = (10 : Int32) ↔ a = 10 := eqs 10 (by decide)
  by_cases c10 : a = 10
  · rw [if_pos (e10.mpr c10)]
    simp only [zlet_e]
    by_cases c : nI q - nI q / 3 * 3 = 0
    · rw [if_pos c]; exact lw 400 (by decide) (by decide)
    · rw [if_neg c]; exact lw 130 (by decide) (by decide)
  rw [if_neg (fun z => c10 (e10.mp z))]
  have e11 : nI a = (11 : Int32) ↔ a = 11 := eqs 11 (by decide)
  by_cases c11 : a = 11
  · rw [if_pos (e11.mpr c11)]
    simp only [zlet_e, zg1, cl1]
    rw [hR.2.1]
    by_cases c : nI q - nI q / 2 * 2 = 0
    · rw [if_pos c]; exact acts_593 hI hR (M := 20) (by decide) (by decide) p7
    · rw [if_neg c, show (2 : Int32) = nI 2 from rfl, pk_div (by omega) (by decide) (by decide), show (41 : Int32) = nI 41 from rfl, pk_rem (by omega) (by decide) (by decide), show (20 : Int32) = nI 20 from rfl, nI_add]
      have := Nat.mod_lt (q / 2) (show 0 < 41 by decide)
      exact acts_593 hI hR (by omega) (by omega) p7
  rw [if_neg (fun z => c11 (e11.mp z))]
  have e12 : nI a = (12 : Int32) ↔ a = 12 := eqs 12 (by decide)
  by_cases c12 : a = 12
  · rw [if_pos (e12.mpr c12)]
    obtain ⟨to, t1, t2⟩ := labels_l hS hR z0R
    obtain ⟨lb', b1, b2⟩ := acts_lock hI hR p7 t2
    obtain ⟨x', e1, e2, e3⟩ := op_lock hI hR t2 b2
    rw [t1, Option.bind_some, b1, Option.bind_some, e1, Option.bind_some]
    simp only []
    rw [if_pos trivial]
    exact ⟨x', n, L, g, k, ln, pr, lb', mk, rfl, e2, e3⟩
  rw [if_neg (fun z => c12 (e12.mp z))]
  have e13 : nI a = (13 : Int32) ↔ a = 13 := eqs 13 (by decide)
  by_cases c13 : a = 13
  · rw [if_pos (e13.mpr c13)]
    obtain ⟨x', n', L', g', k', ln', pr', lb', mk', e1, e2, e3⟩ := acts_omit hI hR hq
    rw [e1, Option.bind_some]
    unfold zbl
    rw [if_pos (Or.inr rfl)]
    exact ⟨x', n', L', g', k', ln', pr', lb', mk', rfl, e2, e3⟩
  rw [if_neg (fun z => c13 (e13.mp z))]
  simp only [zlet_e, zg1, cl1]
  obtain ⟨c, pN, xs, us, e1, e2, e3, e4, e5⟩ := op_pages hI hR
  obtain ⟨mk', m1, m2⟩ := acts_page (p7 := p7) (x0 := x) (us := us) (g := g) (k := k) (ln := ln) (pr := pr) (lb := lb) (mk := mk) (x17 := nI c) (c := 0) hn e3 e4
  obtain ⟨x', f1, f2, f3⟩ := e5 mk' m2
  rw [hR.2.1, e1, Option.bind_some]
  simp only []
  rw [m1, Option.bind_some, if_neg (nI_pos (by omega)), f1, Option.bind_some]
  simp only []
  rw [if_pos trivial]
  exact ⟨x', n, L, g, k, ln, pr, lb, mk', rfl, f2, f3⟩
theorem acts_l (hI : IX x n L) (hR : LR x.2.1 n L g k ln pr lb mk) (z : Int32) : Done (L_acts x g k ln pr lb mk z) := by
  have hn := hR.2.2.1
  obtain ⟨q, hq, e⟩ := low_l (z >>> (4 &&& 31)) (d := 100000) (by decide) (by decide)
  have e : L_low (z >>> (4 &&& 31)) 100000 = some (nI q) := e
  unfold L_acts
  simp only [zlet_e, zg0, cl0]
  rw [e, Option.bind_some, hR.1]
  by_cases h0 : n = 0
  · rw [if_pos (by rw [h0]; rfl)]
    exact acts_30 hI hR hq (p := 0) (fun w => absurd w (by omega)) z
  · rw [if_neg (nI_ne0 (by omega) (by omega)), zdv_nI (by omega) (by omega), pk_rem (by omega) (by omega) (by omega)]
    exact acts_30 hI hR hq (fun w => Nat.mod_lt _ w) z
end PT
