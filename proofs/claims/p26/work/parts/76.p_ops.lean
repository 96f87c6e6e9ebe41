-- the changes that the law asks for, one by one
theorem kind_ok {kd l1 p1 : Int32} (h : ENew kd l1 p1) : X6_isKind kd = 1 ∧ X6_isLength l1 = 1 ∧ X6_isPersonOf kd p1 = 1 := by
  obtain ⟨h1, ⟨l, a, b, rfl⟩, h3, h4⟩ := h
  refine ⟨?_, ?_, ?_⟩
  · rcases h1 with e | e | e | e | e <;> rw [e] <;> decide
  · unfold X6_isLength
    rw [if_neg (show ¬ nI l < (1 : Int32) from nI_nlt (b := 1) a (by omega)), if_neg (show ¬ (400 : Int32) < nI l from nI_nlt (a := 400) b (by decide))]
  · unfold X6_isPersonOf
    by_cases c : kd = 2
    · obtain ⟨q, q1, q2⟩ := h3 c
      rw [if_pos c, q2, if_neg (nI_pos (by omega)), if_neg (show ¬ (9 : Int32) < nI q from nI_nlt (a := 9) q1 (by decide))]
    · rw [if_neg c, h4 c]; decide
section PO
variable {x : t_SP} {n L p : Nat} {g k ln pr lb mk g' k' ln' pr' lb' mk' : Rw}
theorem op_insert (hI : IX x n L) (hR : LR x.2.1 n L g k ln pr lb mk) (hn : n < 40) (hp : p ≤ n) {kd l1 p1 : Int32} (hE : ENew kd l1 p1)
    (hk : Opened k k' n p kd) (hl : Opened ln ln' n p l1) (hpr : Opened pr pr' n p p1) (hlb : Opened lb lb' n p (-1)) (hmk : Opened mk mk' n p 0) (h0 : g' 0 = nI (n + 1)) (h1 : g' 1 = nI L) :
    ∃ T', SOK T' (n + 1) L ∧ LR T' (n + 1) L g' k' ln' pr' lb' mk' ∧ (¬ (kd = 0 ∧ DUP T' (n + 1)) → ∃ x', L_inserts x (nI p) kd l1 p1 = some (nI (n + 1), x') ∧ IX x' (n + 1) L ∧ LR x'.2.1 (n + 1) L g' k' ln' pr' lb' mk') ∧
      (kd = 0 → DUP T' (n + 1) → ∃ x', L_inserts x (nI p) kd l1 p1 = some (-100003, x') ∧ IX x' n L ∧ x'.2.1 = x.2.1) := by
  obtain ⟨tl, S, D, C, E, G, F, Hs, tx⟩ := x
  obtain ⟨hS, hC, hG, hH, hd⟩ := hI
  have hS : SOK S n L := hS
  have hR : LR S n L g k ln pr lb mk := hR
  have hd : ¬ DUP S n := hd
  have hH : HO Hs := hH
  have cp := copy_eq (S := S) (D := D) hS.2.2.1
  have dS := cp.ok hS
  have dR := LR_seq cp hR
  obtain ⟨T', t1, t2, lo, hi, eq⟩ := comes_x dS (by omega) hp hE
  obtain ⟨rT, ins⟩ := LR_comes dR hn hp lo hi eq hk hl hpr hlb hmk h0 h1
  obtain ⟨k1, k2, k3⟩ := kind_ok hE
  have full : X5_isFull S = 0 := by
    unfold X5_isFull
    rw [hS.1, if_pos (show nI n < (60 : Int32) from nI_lt (b := 60) (by omega) (by decide))]
  have i10 : ¬ ((1 : Int32) = 0) := by decide
  have good : ¬ DUP T' (n + 1) → ∀ E' : t_Scenes, ∃ R, j_X6_insert_122 tl F tx (nI p) kd l1 p1 S T' C E' G Hs = some (.inl (nI (n + 1)), R) ∧ IX (tl, R.1, R.2.1, R.2.2.1, R.2.2.2.1, R.2.2.2.2.1, F, R.2.2.2.2.2, tx) (n + 1) L ∧ LR R.1 (n + 1) L g' k' ln' pr' lb' mk' := by
    intro nd E'
    obtain ⟨S', C', G', Hs', q1, q2, q3, q4⟩ := keep_l hH t2 rT nd tl S C E' G F tx
    refine ⟨(S', T', C', E', G', Hs'), ?_, q4 _ _ _ _ _, q3⟩
    unfold j_X6_insert_122
    rw [q1, Option.bind_some]
    show some (Sum.inl S'.1, _) = _
    rw [q2.1.trans t2.1]
  have ev : X6_insert tl S D C E G F Hs tx (nI p) kd l1 p1 = if kd = 0 then ((X6_repeatsLabel tl S T' C E G F Hs tx).bind fun q8 => if q8.1 = 0 then (j_X6_insert_122 tl F tx (nI p) kd l1 p1 S T' C q8.2 G Hs) else (some (.inr 2, S, T', C, q8.2, G, Hs))) else (j_X6_insert_122 tl F tx (nI p) kd l1 p1 S T' C E G Hs) := by
    unfold X6_insert
    simp only [zlet_e]
    rw [if_neg (nI_pos (by omega)), show S.1 = nI n from hS.1, if_pos (nI_le hp (by omega)), k1, if_neg i10, k2, if_neg i10, k3, if_neg i10, full, if_pos rfl, t1]
  refine ⟨T', t2, rT, fun nd => ?_, fun h d => ?_⟩
  · have nodup : ¬ DUP T' (n + 1) := by
      by_cases c : kd = 0
      · exact fun d => nd ⟨c, d⟩
      · intro d
        exact hd (leq_dup hS dS cp.leq (ins_dup0' dS t2 ins (by rw [eq.1]; exact c) d))
    have fin : ∀ R, X6_insert tl S D C E G F Hs tx (nI p) kd l1 p1 = some (.inl (nI (n + 1)), R) → IX (tl, R.1, R.2.1, R.2.2.1, R.2.2.2.1, R.2.2.2.2.1, F, R.2.2.2.2.2, tx) (n + 1) L → LR R.1 (n + 1) L g' k' ln' pr' lb' mk' → ∃ x', L_inserts (tl, S, D, C, E, G, F, Hs, tx) (nI p) kd l1 p1 = some (nI (n + 1), x') ∧ IX x' (n + 1) L ∧ LR x'.2.1 (n + 1) L g' k' ln' pr' lb' mk' := by
      intro R e a b
      refine ⟨_, ?_, a, b⟩
      unfold L_inserts
      show (X6_insert tl S D C E G F Hs tx (nI p) kd l1 p1).bind _ = _
      rw [e]
      rfl
    by_cases c : kd = 0
    · obtain ⟨C2, d1, d2⟩ := survey_t t2 E
      obtain ⟨r, r1, r2⟩ := hasTwins_t t2 d2
      have r0 : r = 0 := by
        rcases r2 with ⟨a, b⟩ | ⟨a, b⟩
        · exact absurd b nodup
        · exact a
      have rep : X6_repeatsLabel tl S T' C E G F Hs tx = some (0, C2) := by
        unfold X6_repeatsLabel
        rw [d1, Option.bind_some, r1, Option.bind_some, r0]
        unfold zbl
        rw [if_pos (Or.inl rfl)]
      obtain ⟨R, a1, a2, a3⟩ := good nodup C2
      refine fin R ?_ a2 a3
      rw [ev, if_pos c, rep, Option.bind_some, if_pos rfl]
      exact a1
    · obtain ⟨R, a1, a2, a3⟩ := good nodup E
      refine fin R ?_ a2 a3
      rw [ev, if_neg c]
      exact a1
  · obtain ⟨C2, d1, d2⟩ := survey_t t2 E
    obtain ⟨r, r1, r2⟩ := hasTwins_t t2 d2
    have r0 : r = 1 := by
      rcases r2 with ⟨a, b⟩ | ⟨a, b⟩
      · exact a
      · exact absurd d b
    have rep : X6_repeatsLabel tl S T' C E G F Hs tx = some (1, C2) := by
      unfold X6_repeatsLabel
      rw [d1, Option.bind_some, r1, Option.bind_some, r0]
      unfold zbl
      rw [if_pos (Or.inr rfl)]
    refine ⟨(tl, S, T', C, C2, G, F, Hs, tx), ?_, ⟨hS, hC, hG, hH, hd⟩, rfl⟩
    unfold L_inserts
    show (X6_insert tl S D C E G F Hs tx (nI p) kd l1 p1).bind _ = _
    rw [ev, if_pos h, rep, Option.bind_some, if_neg i10]
    rfl
/-- an index behind the end is refused -/
theorem op_over (hI : IX x n L) {i : Nat} (hi : n < i) (hi2 : i < 1000) (kd l1 p1 : Int32) : L_inserts x (nI i) kd l1 p1 = some (-100001, x) := by
  obtain ⟨tl, S, D, C, E, G, F, Hs, tx⟩ := x
  have hS : SOK S n L := hI.1
  have ev : X6_insert tl S D C E G F Hs tx (nI i) kd l1 p1 = some (.inr 0, S, D, C, E, G, Hs) := by
    unfold X6_insert j_X6_insert_15
    rw [if_neg (nI_pos (by omega)), show S.1 = nI n from hS.1, if_neg (nI_ge hi (by omega))]
  unfold L_inserts
  show (X6_insert tl S D C E G F Hs tx (nI i) kd l1 p1).bind _ = _
  rw [ev]
  rfl
theorem op_locked (hI : IX x n L) (hp : p < n) (hl : x.2.1.2.2.2.2.2.2.1 p ≠ 0) : L_drops x (nI p) = some (-100003, x) := by
  obtain ⟨tl, S, D, C, E, G, F, Hs, tx⟩ := x
  have hS : SOK S n L := hI.1
  have hl : S.2.2.2.2.2.2.1 p ≠ 0 := hl
  have hn := hS.2.2.1
  have ev : X6_remove tl S D C E G F Hs tx (nI p) = some (.inr 2, S, D, C, G, Hs) := by
    unfold X6_remove
    simp only [zlet_e]
    rw [has_x hS (by omega), if_pos hp, if_neg (by decide), lock_x hS hp, if_neg hl, if_neg (by decide)]
  unfold L_drops
  show (X6_remove tl S D C E G F Hs tx (nI p)).bind _ = _
  rw [ev]
  rfl
end PO
section PO2
variable {x : t_SP} {m n L p : Nat} {g k ln pr lb mk : Rw}
theorem op_remove (hI : IX x (m + 1) L) (hR : LR x.2.1 (m + 1) L g k ln pr lb mk) (hp : p < m + 1) (hu : x.2.1.2.2.2.2.2.2.1 p = 0) :
    ∃ g' k' ln' pr' lb' mk' x', L_drop g k ln pr lb mk (nI p) = some (g', k', ln', pr', lb', mk') ∧ g' 0 = nI m ∧ L_drops x (nI p) = some (nI m, x') ∧ IX x' m L ∧ LR x'.2.1 m L g' k' ln' pr' lb' mk' := by
  obtain ⟨tl, S, D, C, E, G, F, Hs, tx⟩ := x
  obtain ⟨hS, hC, hG, hH, hd⟩ := hI
  have hS : SOK S (m + 1) L := hS
  have hR : LR S (m + 1) L g k ln pr lb mk := hR
  have hd : ¬ DUP S (m + 1) := hd
  have hH : HO Hs := hH
  have hu : S.2.2.2.2.2.2.1 p = 0 := hu
  have cp := copy_eq (S := S) (D := D) hS.2.2.1
  have dS := cp.ok hS
  have dR := LR_seq cp hR
  have du : (X5_copyFrom D S).2.2.2.2.2.2.1 p = 0 := by rw [(cp.2.2 p hp).1.2.2.2.1]; exact hu
  obtain ⟨g', k', ln', pr', lb', mk', T', a1, a2, a3, a4, a5, a6⟩ := drop_l dS dR hp du
  have nodup : ¬ DUP T' m := by
    intro d
    refine hd (leq_dup hS dS cp.leq ?_)
    by_cases c : (X5_copyFrom D S).2.2.1 p = 0
    · exact ins_dup1 a3 dS a5 c d
    · exact ins_dup0 a3 dS a5 c d
  obtain ⟨S', C', G', Hs', q1, q2, q3, q4⟩ := keep_l hH a3 a4 nodup tl S C E G F tx
  have ev : X6_remove tl S D C E G F Hs tx (nI p) = some (.inl (nI m), S', T', C', G', Hs') := by
    unfold X6_remove
    simp only [zlet_e]
    rw [has_x hS (by have := hS.2.2.1; omega), if_pos hp, if_neg (by decide), lock_x hS hp, if_pos hu, if_pos rfl, a2, Option.bind_some, q1, Option.bind_some]
    show some (Sum.inl S'.1, _) = _
    rw [q2.1.trans a3.1]
  refine ⟨g', k', ln', pr', lb', mk', (tl, S', T', C', E, G', F, Hs', tx), a1, a6, ?_, q4 _ _ _ _ _, q3⟩
  unfold L_drops
  show (X6_remove tl S D C E G F Hs tx (nI p)).bind _ = _
  rw [ev]
  rfl
theorem op_length (hI : IX x n L) (hR : LR x.2.1 n L g k ln pr lb mk) (hp : p < n) {l : Nat} (hl1 : 1 ≤ l) (hl2 : l ≤ 400) :
    ∃ v x', L_lengths x (nI p) (nI l) = some (v, x') ∧ L_lines k (upd ln p (nI l)) (nI p) = some v ∧ IX x' n L ∧ LR x'.2.1 n L g k (upd ln p (nI l)) pr lb mk := by
  obtain ⟨tl, S, D, C, E, G, F, Hs, tx⟩ := x
  obtain ⟨hS, hC, hG, hH, hd⟩ := hI
  have hS : SOK S n L := hS
  have hR : LR S n L g k ln pr lb mk := hR
  have hd : ¬ DUP S n := hd
  have hH : HO Hs := hH
  have hn := hS.2.2.1
  have cp := copy_eq (S := S) (D := D) hS.2.2.1
  have dS := cp.ok hS
  have dR := LR_seq cp hR
  obtain ⟨T, hT⟩ : ∃ T, T = X5_copyFrom D S := ⟨_, rfl⟩
  rw [← hT] at cp dS dR
  obtain ⟨T2, hT2⟩ : ∃ T2 : t_Script, T2 = (T.1, T.2.1, T.2.2.1, upd T.2.2.2.1 p (nI l), T.2.2.2.2.1, T.2.2.2.2.2.1, T.2.2.2.2.2.2.1, T.2.2.2.2.2.2.2.1, T.2.2.2.2.2.2.2.2.1, T.2.2.2.2.2.2.2.2.2) := ⟨_, rfl⟩
  have row : ∀ i, T2.2.2.1 i = T.2.2.1 i ∧ T2.2.2.2.2.1 i = T.2.2.2.2.1 i ∧ T2.2.2.2.2.2.1 i = T.2.2.2.2.2.1 i ∧ T2.2.2.2.2.2.2.1 i = T.2.2.2.2.2.2.1 i ∧ T2.2.2.2.2.2.2.2.1 i = T.2.2.2.2.2.2.2.1 i ∧ T2.2.2.2.2.2.2.2.2.1 i = T.2.2.2.2.2.2.2.2.1 i ∧ T2.2.2.2.2.2.2.2.2.2 i = T.2.2.2.2.2.2.2.2.2 i := by
    intro i; rw [hT2]; exact ⟨rfl, rfl, rfl, rfl, rfl, rfl, rfl⟩
  have eln : T2.2.2.2.1 = upd T.2.2.2.1 p (nI l) := by rw [hT2]
  have s2 : SOK T2 n L := by
    refine ⟨by rw [hT2]; exact dS.1, by rw [hT2]; exact dS.2.1, hn, dS.2.2.2.1, dS.2.2.2.2.1, fun i hi => ?_⟩
    obtain ⟨r1, r2, r3, r4, r5, r6, r7⟩ := row i
    obtain ⟨e1, e2, e3, e4, e5, e6, e7⟩ := dS.e hi
    unfold EOK
    rw [r1, r2, r4, r5, eln]
    refine ⟨e1, ?_, e3, e4, e5, e6, e7⟩
    by_cases c : i = p
    · subst c; rw [pk_us]; exact ⟨l, hl1, hl2, rfl⟩
    · rw [pk_un c]; exact e2
  have leq : LEq T T2 n := fun i hi => by
    obtain ⟨r1, r2, r3, r4, r5, r6, r7⟩ := row i
    exact ⟨r1, by rw [r4], fun _ => ⟨r5, r6, r7⟩⟩
  have rT : LR T2 n L g k (upd ln p (nI l)) pr lb mk := by
    refine ⟨dR.1, dR.2.1, dR.2.2.1, fun i hi => ?_⟩
    obtain ⟨r1, r2, r3, r4, r5, r6, r7⟩ := row i
    obtain ⟨e1, e2, e3, e4, e5⟩ := dR.le hi
    have el := (leq_lo leq i (by omega)).1
    refine ⟨by rw [r1, r4]; exact e1, ?_, by rw [r2]; exact e3, ?_, by rw [r3]; exact e5⟩
    · rw [eln]
      by_cases c : i = p
      · subst c; rw [pk_us, pk_us]
      · rw [pk_un c, pk_un c]; exact e2
    · unfold LBr at e4 ⊢
      rw [r4, r5, r6, r7, el]
      exact e4
  have nodup : ¬ DUP T2 n := fun d => hd (leq_dup hS dS cp.leq (leq_dup dS s2 leq d))
  obtain ⟨S', C', G', Hs', q1, q2, q3, q4⟩ := keep_l hH s2 rT nodup tl S C E G F tx
  have kl : X6_isLength (nI l) = 1 := by
    unfold X6_isLength
    rw [if_neg (show ¬ nI l < (1 : Int32) from nI_nlt (b := 1) hl1 (by omega)), if_neg (show ¬ (400 : Int32) < nI l from nI_nlt (a := 400) hl2 (by decide))]
  have ev : X6_setLength tl S D C E G F Hs tx (nI p) (nI l) = some (.inl (X5_linesOf S' (nI p)), S', T2, C', G', Hs') := by
    unfold X6_setLength
    simp only [zlet_e]
    rw [has_x hS (by omega), if_pos hp, if_neg (by decide), kl, if_neg (by decide), ← hT, rPut_nI (by decide) _ (by omega), ← hT2, q1, Option.bind_some]
  refine ⟨X5_linesOf S' (nI p), (tl, S', T2, C', E, G', F, Hs', tx), ?_, lines_l (q4 tl T2 E F tx).1 q3 hp, q4 _ _ _ _ _, q3⟩
  unfold L_lengths
  show (X6_setLength tl S D C E G F Hs tx (nI p) (nI l)).bind _ = _
  rw [ev]
  rfl
theorem op_size (hI : IX x n L) (hR : LR x.2.1 n L g k ln pr lb mk) {M : Nat} (hM1 : 20 ≤ M) (hM2 : M ≤ 60) :
    ∃ x', L_sizes x (nI M) = some (nI L, x') ∧ IX x' n M ∧ LR x'.2.1 n M (upd g 1 (nI M)) k ln pr lb mk := by
  obtain ⟨tl, S, D, C, E, G, F, Hs, tx⟩ := x
  obtain ⟨hS, hC, hG, hH, hd⟩ := hI
  have hS : SOK S n L := hS
  have hR : LR S n L g k ln pr lb mk := hR
  have hd : ¬ DUP S n := hd
  have hH : HO Hs := hH
  have hn := hS.2.2.1
  have cp := copy_eq (S := S) (D := D) hS.2.2.1
  have dS := cp.ok hS
  have dR := LR_seq cp hR
  obtain ⟨T, hT⟩ : ∃ T, T = X5_copyFrom D S := ⟨_, rfl⟩
  rw [← hT] at cp dS dR
  obtain ⟨T2, hT2⟩ : ∃ T2 : t_Script, T2 = (T.1, nI M, T.2.2.1, T.2.2.2.1, T.2.2.2.2.1, T.2.2.2.2.2.1, T.2.2.2.2.2.2.1, T.2.2.2.2.2.2.2.1, T.2.2.2.2.2.2.2.2.1, T.2.2.2.2.2.2.2.2.2) := ⟨_, rfl⟩
  have s2 : SOK T2 n M := by
    refine ⟨by rw [hT2]; exact dS.1, by rw [hT2], hn, hM1, hM2, fun i hi => ?_⟩
    rw [hT2]
    exact dS.e hi
  have leq : LEq T T2 n := fun i hi => by
    rw [hT2]
    exact ⟨rfl, Iff.rfl, fun _ => ⟨rfl, rfl, rfl⟩⟩
  have rT : LR T2 n M (upd g 1 (nI M)) k ln pr lb mk := by
    refine ⟨by rw [pk_un (by decide)]; exact dR.1, pk_us, dR.2.2.1, fun i hi => ?_⟩
    rw [hT2]
    exact dR.le hi
  have nodup : ¬ DUP T2 n := fun d => hd (leq_dup hS dS cp.leq (leq_dup dS s2 leq d))
  obtain ⟨S', C', G', Hs', q1, q2, q3, q4⟩ := keep_l hH s2 rT nodup tl S C E G F tx
  have kl : X6_isPageLines (nI M) = 1 := by
    unfold X6_isPageLines
    rw [if_neg (show ¬ nI M < (20 : Int32) from nI_nlt (b := 20) hM1 (by omega)), if_neg (show ¬ (60 : Int32) < nI M from nI_nlt (a := 60) hM2 (by decide))]
  have ev : X6_setPage tl S D C E G F Hs tx (nI M) = some (.inl (nI L), S', T2, C', G', Hs') := by
    unfold X6_setPage
    simp only [zlet_e]
    rw [kl, if_neg (by decide), ← hT, ← hT2, q1, Option.bind_some, show S.2.1 = nI L from hS.2.1]
  refine ⟨(tl, S', T2, C', E, G', F, Hs', tx), ?_, q4 _ _ _ _ _, q3⟩
  unfold L_sizes
  show (X6_setPage tl S D C E G F Hs tx (nI M)).bind _ = _
  rw [ev]
  rfl
end PO2
