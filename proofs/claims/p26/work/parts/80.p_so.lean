-- what the class answers, asked beside the law's own arrays
theorem val_l (x : t_SP) : N_valueOf x 0 = some x.2.1.1 ∧ N_valueOf x 1 = some x.2.2.2.1.1 ∧ N_valueOf x 3 = some x.2.1.2.1 ∧ N_valueOf x 4 = some x.2.2.2.1.2.1 ∧ N_valueOf x 5 = some x.2.2.2.2.2.1.2.1 ∧ N_valueOf x 6 = some x.2.2.2.1.2.2.1 := by
  refine ⟨rfl, rfl, rfl, rfl, rfl, rfl⟩
theorem el_l {x : t_SP} {n L i : Nat} (hS : SOK x.2.1 n L) (hi : i < n) : N_elementOf x (nI i) 0 = some (x.2.1.2.2.1 i) ∧ N_elementOf x (nI i) 1 = some (x.2.1.2.2.2.1 i) ∧ N_elementOf x (nI i) 2 = some (x.2.1.2.2.2.2.1 i) ∧ N_elementOf x (nI i) 3 = some (X5_linesOf x.2.1 (nI i)) ∧ N_elementOf x (nI i) 4 = some (x.2.2.2.1.2.2.2.2.2.2.2.2.2.2.1 i) ∧ N_elementOf x (nI i) 5 = some (x.2.1.2.2.2.2.2.1 i) ∧ N_elementOf x (nI i) 9 = some (x.2.2.2.1.2.2.2.2.2.2.2.2.2.2.2 i) := by
  have hn := hS.2.2.1
  have h60 := hS.lt hi
  have h1 : X5_has x.2.1 (nI i) = 1 := by rw [has_x hS (by omega), if_pos hi]
  unfold N_elementOf X6n_element
  simp only [zlet_e]
  rw [h1]
  refine ⟨congrArg some (rAt_nI (by decide) _ h60), congrArg some (rAt_nI (by decide) _ h60), congrArg some (rAt_nI (by decide) _ h60), rfl, congrArg some (rAt_nI (by decide) _ h60), congrArg some (rAt_nI (by decide) _ h60), congrArg some (rAt_nI (by decide) _ h60)⟩
theorem sc_l {x : t_SP} {n L h : Nat} (hS : SOK x.2.1 n L) (hC : CSok x.2.2.2.1 x.2.1 n) (hh : h < n) (hk : x.2.1.2.2.1 h = 0) : N_sceneOf x (nI (hcN x.2.1.2.2.1 h)) 0 = some (lbA x.2.1 n h) ∧ N_sceneOf x (nI (hcN x.2.1.2.2.1 h)) 1 = some (lbB x.2.1 n h) ∧ N_sceneOf x (nI (hcN x.2.1.2.2.1 h)) 2 = some (lbC x.2.1 n h) ∧ N_sceneOf x (nI (hcN x.2.1.2.2.1 h)) 3 = some (if x.2.1.2.2.2.2.2.2.1 h = 0 then 0 else 1) ∧ N_sceneOf x (nI (hcN x.2.1.2.2.1 h)) 4 = some (if x.2.1.2.2.2.2.2.2.1 h = 2 then 1 else 0) ∧ N_sceneOf x (nI (hcN x.2.1.2.2.1 h)) 5 = some (nI h) ∧ N_sceneOf x (nI (hcN x.2.1.2.2.1 h)) 6 = some (nI (cnN x.2.1.2.2.1 (hcN x.2.1.2.2.1 h) n)) ∧ N_sceneOf x (nI (hcN x.2.1.2.2.1 h)) 7 = some (smN x.2.1 (hcN x.2.1.2.2.1 h) n) ∧ N_sceneOf x (nI (hcN x.2.1.2.2.1 h)) 8 = some ((8 * smN x.2.1 (hcN x.2.1.2.2.1 h) n + nI L - 1) / nI L) := by
  have hn := hS.2.2.1
  have hs := hc_lt hh hk
  have hcl := hc_le x.2.1.2.2.1 n
  have hL := hS.2.2.2.1
  have hL2 := hS.2.2.2.2.1
  obtain ⟨c1, c2, c3, c4⟩ := hC.2.2.2.1 h hh hk
  obtain ⟨c5, c6⟩ := hC.2.2.2.2.1 _ hs
  obtain ⟨s, e⟩ : ∃ s, s = hcN x.2.1.2.2.1 h := ⟨_, rfl⟩
  rw [← e] at hs c1 c2 c3 c4 c5 c6 ⊢
  have s60 : s < 60 := by omega
  have hl := lock_x hS hh
  have ho := omit_x hS hh
  unfold N_sceneOf X6n_scene
  simp only [zlet_e]
  rw [has_s hS hC hs]
  have r := fun (f : Rw) => rAt_nI (n := 60) (by decide) f s60
  refine ⟨(congrArg some (r _)).trans (congrArg some c2), (congrArg some (r _)).trans (congrArg some c3), (congrArg some (r _)).trans (congrArg some c4), ?_, ?_, (congrArg some (r _)).trans (congrArg some c1), (congrArg some (r _)).trans (congrArg some c5), (congrArg some (r _)).trans (congrArg some c6), ?_⟩
  · rw [if_neg (by decide), if_neg (by decide)]
    unfold X6_sceneFact
    simp only [zlet_e]
    rw [if_neg (by decide), if_neg (by decide), if_neg (by decide), if_pos trivial, r, c1, hl]
    by_cases c : x.2.1.2.2.2.2.2.2.1 h = 0
    · rw [if_pos c]; rfl
    · rw [if_neg c]; rfl
  · rw [if_neg (by decide), if_neg (by decide)]
    unfold X6_sceneFact
    simp only [zlet_e]
    rw [if_neg (by decide), if_neg (by decide), if_neg (by decide), if_neg (by decide), if_pos trivial, r, c1, ho]
    by_cases c : x.2.1.2.2.2.2.2.2.1 h = 2
    · rw [if_pos c]; rfl
    · rw [if_neg c]; rfl
  · rw [if_neg (by decide), if_neg (by decide)]
    unfold X6_sceneFact X6_eighths
    simp only [zlet_e]
    iterate 8 rw [if_neg (by decide)]
    rw [if_pos trivial, r, c6, hS.2.1, if_neg (nI_nle (by omega) (by omega)), zdv_nI (by omega) (by omega), Int32.mul_comm]
    rfl
theorem find_s {x : t_SP} {n L : Nat} (hI : IX x n L) (hn : n ≤ 40) {a b c : Int32} {s : Nat} (hs : s ≤ hcN x.2.1.2.2.1 n) (lo : ∀ h, h < n → x.2.1.2.2.1 h = 0 → hcN x.2.1.2.2.1 h < s → ¬ (lbA x.2.1 n h = a ∧ lbB x.2.1 n h = b ∧ lbC x.2.1 n h = c))
    (at_ : s < hcN x.2.1.2.2.1 n → ∃ h, h < n ∧ x.2.1.2.2.1 h = 0 ∧ hcN x.2.1.2.2.1 h = s ∧ lbA x.2.1 n h = a ∧ lbB x.2.1 n h = b ∧ lbC x.2.1 n h = c) : P_find x a b c = some (if s < hcN x.2.1.2.2.1 n then nI s else -1) := by
  obtain ⟨tl, S, D, C, E, G, F, Hs, tx⟩ := x
  obtain ⟨hS, hC, -⟩ := hI
  have hS : SOK S n L := hS
  have hC : CSok C S n := hC
  have hcl := hc_le S.2.2.1 n
  have hs : s ≤ hcN S.2.2.1 n := hs
  have rows : ∀ h, h < n → S.2.2.1 h = 0 → rAt 60 C.2.2.2.2.2.2.1 (nI (hcN S.2.2.1 h)) = lbA S n h ∧ rAt 60 C.2.2.2.2.2.2.2.1 (nI (hcN S.2.2.1 h)) = lbB S n h ∧ rAt 60 C.2.2.2.2.2.2.2.2.1 (nI (hcN S.2.2.1 h)) = lbC S n h := by
    intro h hh hk
    have := hc_lt hh hk
    obtain ⟨c1, c2, c3, c4⟩ := hC.2.2.2.1 h hh hk
    rw [rAt_nI (by decide) _ (by omega), rAt_nI (by decide) _ (by omega), rAt_nI (by decide) _ (by omega)]
    exact ⟨c2, c3, c4⟩
  obtain ⟨X, h1, h2⟩ := zl_up (body := b_X6_find_3 tl S D C E G F Hs tx a b c) (fun j v => v = nI j) (fun X => X = if s < hcN S.2.2.1 n then .inr (nI s) else .inl ()) s
    (fun rec v hv => by
      subst hv
      unfold b_X6_find_3
      simp only [zlet_e]
      rw [show C.1 = nI (hcN S.2.2.1 n) from hC.1]
      by_cases z : s < hcN S.2.2.1 n
      · obtain ⟨h, a1, a2, a3, a4, a5, a6⟩ := at_ z
        obtain ⟨r1, r2, r3⟩ := rows h a1 a2
        have a3 : hcN S.2.2.1 h = s := a3
        rw [a3] at r1 r2 r3
        rw [if_neg (nI_ge z (by omega)), r1, r2, r3, if_pos a4, if_pos a5, if_pos a6]
        exact ⟨_, rfl, by rw [if_pos z]⟩
      · rw [if_pos (nI_le (by omega) (by omega))]
        exact ⟨_, rfl, by rw [if_neg z]⟩)
    (fun rec j v hj hv kk => by
      subst hv
      unfold b_X6_find_3
      simp only [zlet_e]
      rw [show C.1 = nI (hcN S.2.2.1 n) from hC.1, if_neg (nI_ge (by omega) (by omega))]
      obtain ⟨h, a1, a2, a3⟩ := hc_ex (kd := S.2.2.1) (s := j) (n := n) (by omega)
      obtain ⟨r1, r2, r3⟩ := rows h a1 a2
      have no := lo h a1 a2 (show hcN S.2.2.1 h < s by omega)
      rw [a3] at r1 r2 r3
      rw [r1, r2, r3, nI_1]
      by_cases z1 : lbA S n h = a
      · rw [if_pos z1]
        by_cases z2 : lbB S n h = b
        · rw [if_pos z2, if_neg (fun z3 => no ⟨z1, z2, z3⟩)]
          exact kk _ rfl
        · rw [if_neg z2]
          exact kk _ rfl
      · rw [if_neg z1]
        exact kk _ rfl)
    FU 0 0 (Nat.zero_le _) rfl (show s - 0 < 3000 by omega)
  show X6_find tl S D C E G F Hs tx a b c = some (if s < hcN S.2.2.1 n then nI s else -1)
  unfold X6_find
  rw [h1, Option.bind_some, h2]
  by_cases z : s < hcN S.2.2.1 n
  · rw [if_pos z, if_pos z]; rfl
  · rw [if_neg z, if_neg z]; rfl
/-- said by one of the first m persons -/
def whB (p : Nat → Bool) (pr : Rw) (m i : Nat) : Bool := p i && decide (∃ q, q < m ∧ pr i = nI q)
def whE (p : Nat → Bool) (pr : Rw) (m i : Nat) : Bool := p i && decide (pr i = nI m)
theorem ct_cong {p q : Nat → Bool} : ∀ j, (∀ i, i < j → p i = q i) → ctN p j = ctN q j
  | 0, _ => rfl
  | j + 1, h => by
    show ctN p j + (if p j then 1 else 0) = ctN q j + (if q j then 1 else 0)
    rw [ct_cong j (fun i hi => h i (by omega)), h j (by omega)]
theorem ct_mono {p q : Nat → Bool} : ∀ j, (∀ i, i < j → p i = true → q i = true) → ctN p j ≤ ctN q j
  | 0, _ => Nat.le_refl _
  | j + 1, h => by
    have ih := ct_mono (p := p) (q := q) j (fun i hi => h i (by omega))
    by_cases c : p j = true
    · rw [ct_s1 c, ct_s1 (h j (by omega) c)]
      omega
    · rw [ct_s0 c]
      by_cases d : q j = true
      · rw [ct_s1 d]; omega
      · rw [ct_s0 d]; exact ih
theorem wh_step {p : Nat → Bool} {pr : Rw} {m : Nat} (hm : m < 1000) : ∀ j, ctN (whB p pr (m + 1)) j = ctN (whB p pr m) j + ctN (whE p pr m) j
  | 0 => rfl
  | j + 1 => by
    have ih := wh_step (p := p) (pr := pr) hm j
    by_cases hp : p j = true
    · by_cases c : pr j = nI m
      · have a : whB p pr (m + 1) j = true := by
          unfold whB; rw [hp]; exact decide_eq_true ⟨m, by omega, c⟩
        have b : ¬ whB p pr m j = true := by
          unfold whB; rw [hp]
          intro z
          obtain ⟨q, q1, q2⟩ := of_decide_eq_true z
          have := (nI_eq (by omega) (by omega)).mp (c.symm.trans q2)
          omega
        have e : whE p pr m j = true := by
          unfold whE; rw [hp]; exact decide_eq_true c
        rw [ct_s1 a, ct_s0 b, ct_s1 e, ih]
        omega
      · have e : ¬ whE p pr m j = true := by
          unfold whE; rw [hp]; exact fun z => c (of_decide_eq_true z)
        by_cases b : whB p pr m j = true
        · have a : whB p pr (m + 1) j = true := by
            unfold whB at b ⊢; rw [hp] at b ⊢
            obtain ⟨q, q1, q2⟩ := of_decide_eq_true b
            exact decide_eq_true ⟨q, by omega, q2⟩
          rw [ct_s1 a, ct_s1 b, ct_s0 e, ih]
          omega
        · have a : ¬ whB p pr (m + 1) j = true := by
            intro z
            apply b
            unfold whB at z ⊢; rw [hp] at z ⊢
            obtain ⟨q, q1, q2⟩ := of_decide_eq_true z
            refine decide_eq_true ⟨q, ?_, q2⟩
            by_cases w : q = m
            · subst w; exact absurd q2 c
            · omega
          rw [ct_s0 a, ct_s0 b, ct_s0 e, ih]
    · have f : ∀ t, ¬ whB p pr t j = true := fun t z => by
        unfold whB at z
        cases hj : p j
        · rw [hj, Bool.false_and] at z; exact absurd z (by decide)
        · exact hp hj
      have e : ¬ whE p pr m j = true := fun z => by
        unfold whE at z
        cases hj : p j
        · rw [hj, Bool.false_and] at z; exact absurd z (by decide)
        · exact hp hj
      rw [ct_s0 (f _), ct_s0 (f _), ct_s0 e, ih]
theorem wh_0 {p : Nat → Bool} {pr : Rw} : ∀ j, ctN (whB p pr 0) j = 0
  | 0 => rfl
  | j + 1 => by
    rw [ct_s0, wh_0 j]
    intro z
    unfold whB at z
    have := (Bool.and_eq_true _ _ ▸ z : _ ∧ _).2
    obtain ⟨q, q1, -⟩ := of_decide_eq_true this
    omega
theorem names_l {x : t_SP} {n L : Nat} (hI : IX x n L) (hn : n ≤ 40) {w : Nat} (hw : w < 10) : N_namesBy x (nI w) 0 = some (nI (ctN (whE (fun _ => true) x.2.1.2.2.2.2.1 w) n)) ∧ N_namesBy x (nI w) 1 = some (nI (ctN (whE (crN x.2.1.2.2.1 x.2.1.2.2.2.2.1) x.2.1.2.2.2.2.1 w) n)) := by
  obtain ⟨tl, S, D, C, E, G, F, Hs, tx⟩ := x
  obtain ⟨hS, hC, -⟩ := hI
  have hS : SOK S n L := hS
  have hC : CSok C S n := hC
  have go : ∀ (p2 : Int32) (p : Nat → Bool), (p2 = 0 ∧ p = fun _ => true) ∨ (p2 = 1 ∧ p = crN S.2.2.1 S.2.2.2.2.1) → X6n_names tl S D C E G F Hs tx (nI w) p2 = some (nI (ctN (whE p S.2.2.2.2.1 w) n)) := by
    intro p2 p hp
    obtain ⟨X, h1, h2⟩ := zl_up (body := b_X6n_names_25 tl S D C E G F Hs tx (nI w) p2) (fun j v => v = (nI (ctN (whE p S.2.2.2.2.1 w) j), nI j)) (fun X => X = nI (ctN (whE p S.2.2.2.2.1 w) n)) n
      (fun rec v hv => by
        subst hv
        unfold b_X6n_names_25
        simp only [zlet_e]
        rw [hS.1, if_pos (nI_le (Nat.le_refl _) (by omega))]
        exact ⟨_, rfl, rfl⟩)
      (fun rec j v hj hv kk => by
        subst hv
        unfold b_X6n_names_25
        simp only [zlet_e, nI_1]
        rw [hS.1, if_neg (nI_ge hj (by omega)), rAt_nI (by decide) _ (hS.lt hj), rAt_nI (by decide) _ (hS.lt hj), (hC.2.2.2.2.2 j hj).2]
        by_cases c : S.2.2.2.2.1 j = nI w
        · rw [if_pos c]
          rcases hp with ⟨e1, e2⟩ | ⟨e1, e2⟩
          · rw [if_pos e1]
            refine kk _ ?_
            rw [ct_s1]
            unfold whE; rw [e2]; exact decide_eq_true c
          · rw [if_neg (by rw [e1]; decide)]
            by_cases d : crN S.2.2.1 S.2.2.2.2.1 j = true
            · rw [if_pos d, if_pos rfl]
              refine kk _ ?_
              rw [ct_s1]
              unfold whE; rw [e2, d]; exact decide_eq_true c
            · rw [if_neg d, if_neg (by decide)]
              refine kk _ ?_
              rw [ct_s0]
              unfold whE; rw [e2]
              intro z
              exact d (Bool.and_eq_true _ _ ▸ z : _ ∧ _).1
        · rw [if_neg c]
          refine kk _ ?_
          rw [ct_s0]
          unfold whE
          intro z
          exact c (of_decide_eq_true (Bool.and_eq_true _ _ ▸ z : _ ∧ _).2))
      FU 0 (0, 0) (Nat.zero_le _) rfl (show n - 0 < 3000 by omega)
    unfold X6n_names
    rw [if_neg (nI_pos (by omega)), if_pos (show nI w ≤ (9 : Int32) from nI_le (b := 9) (by omega) (by decide)), h1, Option.bind_some, h2]
  exact ⟨go 0 _ (Or.inl ⟨rfl, rfl⟩), go 1 _ (Or.inr ⟨rfl, rfl⟩)⟩
