-- the law's arrays where an element comes or goes
theorem RowEq.sym {S D : t_Script} {i j : Nat} (h : RowEq S D j i) : RowEq D S i j := ⟨h.1.symm, h.2.1.symm, h.2.2.1.symm, h.2.2.2.1.symm, h.2.2.2.2.1.symm, h.2.2.2.2.2.1.symm, h.2.2.2.2.2.2.symm⟩
theorem SEq.leq {S D : t_Script} {n : Nat} (h : SEq S D n) : LEq S D n := fun i hi => by
  obtain ⟨r1, r2, r3, r4, r5, r6, r7⟩ := (h.2.2 i hi).1
  exact ⟨r1, by rw [r4], fun _ => ⟨r5, r6, r7⟩⟩
/-- element i of D is element j of S -/
theorem LE_row {S D : t_Script} {k ln pr lb mk k' ln' pr' lb' mk' : Rw} {i j : Nat} (h : LE S k ln pr lb mk j) (r : RowEq S D j i) (e1 : k' i = k j) (e2 : ln' i = ln j) (e3 : pr' i = pr j) (e4 : lb' i = lb j) (e5 : MKr (D.2.2.2.2.2.1 i) (mk' i)) (e6 : lkN D.2.2.2.2.2.2.1 i = lkN S.2.2.2.2.2.2.1 j) : LE D k' ln' pr' lb' mk' i := by
  obtain ⟨h1, h2, h3, h4, h5⟩ := h
  obtain ⟨r1, r2, r3, r4, r5, r6, r7⟩ := r
  refine ⟨by rw [e1, h1, r1, r4], by rw [e2, h2, r2], by rw [e3, h3, r3], ?_, e5⟩
  unfold LBr at h4 ⊢
  rw [e4, r4, r5, r6, r7, e6]
  exact h4
section PE
variable {S D : t_Script} {n L p : Nat} {g k ln pr lb mk g' k' ln' pr' lb' mk' : Rw}
theorem LR_seq (h : SEq S D n) (hR : LR S n L g k ln pr lb mk) : LR D n L g k ln pr lb mk :=
  ⟨hR.1, hR.2.1, hR.2.2.1, fun i hi => LE_row (hR.le hi) (h.2.2 i hi).1 rfl rfl rfl rfl (by rw [(h.2.2 i hi).2]; exact (hR.le hi).2.2.2.2) (leq_lo h.leq i (by omega)).1⟩
theorem LR_cong (hR : LR S n L g k ln pr lb mk) (e0 : g' 0 = g 0) (e1 : g' 1 = g 1) (h : ∀ i, i < n → k' i = k i ∧ ln' i = ln i ∧ pr' i = pr i ∧ lb' i = lb i ∧ mk' i = mk i) : LR S n L g' k' ln' pr' lb' mk' := by
  refine ⟨e0.trans hR.1, e1.trans hR.2.1, hR.2.2.1, fun i hi => ?_⟩
  obtain ⟨a1, a2, a3, a4, a5⟩ := h i hi
  have := hR.le hi
  unfold LE at this ⊢
  rw [a1, a2, a3, a4, a5]
  exact this
/-- what opens makes of a row, and what closes makes of it again -/
def Opened (f f' : Rw) (n p : Nat) (x : Int32) : Prop := ∀ t, f' t = if t = p then x else if p < t ∧ t ≤ n then f (t - 1) else f t
theorem LR_comes (hR : LR S n L g k ln pr lb mk) (hn : n < 40) (hp : p ≤ n) {kd l1 p1 : Int32} (lo : ∀ i, i < p → RowEq S D i i ∧ D.2.2.2.2.2.1 i = S.2.2.2.2.2.1 i) (hi : ∀ i, p < i → i < n + 1 → RowEq S D (i - 1) i ∧ D.2.2.2.2.2.1 i = S.2.2.2.2.2.1 (i - 1)) (eq : D.2.2.1 p = kd ∧ D.2.2.2.1 p = l1 ∧ D.2.2.2.2.1 p = p1 ∧ D.2.2.2.2.2.1 p = -1 ∧ D.2.2.2.2.2.2.1 p = 0 ∧ D.2.2.2.2.2.2.2.1 p = 0 ∧ D.2.2.2.2.2.2.2.2.1 p = 0 ∧ D.2.2.2.2.2.2.2.2.2 p = 0)
    (hk : Opened k k' n p kd) (hl : Opened ln ln' n p l1) (hpr : Opened pr pr' n p p1) (hlb : Opened lb lb' n p (-1)) (hmk : Opened mk mk' n p 0) (h0 : g' 0 = nI (n + 1)) (h1 : g' 1 = nI L) : LR D (n + 1) L g' k' ln' pr' lb' mk' ∧ INS S D n p := by
  have ins : INS S D n p := ⟨hp, fun i h => (lo i h).1, fun i a b => by
    have := (hi (i + 1) (by omega) (by omega)).1
    rw [Nat.add_sub_cancel] at this
    exact this, eq.2.2.2.2.1⟩
  refine ⟨⟨h0, h1, by omega, fun i hin => ?_⟩, ins⟩
  by_cases c : i < p
  · have e : ∀ {f f' : Rw} {x : Int32}, Opened f f' n p x → f' i = f i := fun h => by rw [h i, if_neg (by omega), if_neg (by omega)]
    exact LE_row (hR.le (by omega)) (lo i c).1 (e hk) (e hl) (e hpr) (e hlb) (by rw [(lo i c).2, e hmk]; exact (hR.le (by omega)).2.2.2.2) (ins_lo ins i (by omega)).1
  · by_cases c2 : i = p
    · subst c2
      have e : ∀ {f f' : Rw} {x : Int32}, Opened f f' n i x → f' i = x := fun h => by rw [h i, if_pos rfl]
      obtain ⟨q1, q2, q3, q4, q5, q6, q7, q8⟩ := eq
      exact ⟨by rw [e hk, q1, q5, if_neg (by decide)], by rw [e hl, q2], by rw [e hpr, q3], Or.inl ⟨q5, e hlb⟩, Or.inl ⟨q4, e hmk⟩⟩
    · have e : ∀ {f f' : Rw} {x : Int32}, Opened f f' n p x → f' i = f (i - 1) := fun h => by rw [h i, if_neg c2, if_pos (by omega)]
      have el := (ins_hi ins (i - 1 - p) (by omega)).1
      rw [show p + (i - 1 - p) = i - 1 by omega, show i - 1 + 1 = i by omega] at el
      exact LE_row (hR.le (show i - 1 < n by omega)) (hi i (by omega) hin).1 (e hk) (e hl) (e hpr) (e hlb) (by rw [(hi i (by omega) hin).2, e hmk]; exact (hR.le (show i - 1 < n by omega)).2.2.2.2) el
end PE
section PD
variable {S : t_Script} {m L p : Nat} {g k ln pr lb mk : Rw}
/-- the law takes an element out where the class does -/
theorem drop_l (hS : SOK S (m + 1) L) (hR : LR S (m + 1) L g k ln pr lb mk) (hp : p < m + 1) (hu : S.2.2.2.2.2.2.1 p = 0) : ∃ g' k' ln' pr' lb' mk' T', L_drop g k ln pr lb mk (nI p) = some (g', k', ln', pr', lb', mk') ∧ X5_takeOut S (nI p) = some T' ∧ SOK T' m L ∧ LR T' m L g' k' ln' pr' lb' mk' ∧ INS T' S m p ∧ g' 0 = nI m := by
  have h41 : p < 41 := hR.lt hp
  have hn := hR.2.2.1
  obtain ⟨T', t1, t2, t3, t4⟩ := goes_x hS hp
  rw [Nat.add_sub_cancel] at t2 t4
  obtain ⟨k', k1, k2⟩ := closes_l k (n := m + 1) (i := p) (by omega) hp
  obtain ⟨ln', l1, l2⟩ := closes_l ln (n := m + 1) (i := p) (by omega) hp
  obtain ⟨pr', p1, p2⟩ := closes_l pr (n := m + 1) (i := p) (by omega) hp
  obtain ⟨lb', b1, b2⟩ := closes_l lb (n := m + 1) (i := p) (by omega) hp
  obtain ⟨mk', m1, m2⟩ := closes_l mk (n := m + 1) (i := p) (by omega) hp
  have ins : INS T' S m p := ⟨by omega, fun i h => (t3 i h).1.sym, fun i a b => (t4 i a b).1.sym, hu⟩
  obtain ⟨mf, hmf⟩ : ∃ mf : Rw, mf = if p < m ∧ mk' p = 0 then upd mk' p (mk p) else mk' := ⟨_, rfl⟩
  refine ⟨upd g 0 (nI m), k', ln', pr', lb', mf, T', ?_, t1, t2, ⟨pk_us, by rw [pk_un (by decide)]; exact hR.2.1, by omega, fun i hi => ?_⟩, ins, pk_us⟩
  · unfold L_drop
    simp only [zlet_e, zg0, cl0, z41 h41, nI_clamp (show p < 2 ^ 31 by omega), hR.1]
    rw [k1, Option.bind_some, l1, Option.bind_some, p1, Option.bind_some, b1, Option.bind_some, m1, Option.bind_some]
    rw [nI_pred, pk_us, hmf]
    by_cases c : p < m
    · rw [if_neg (nI_ge c (by omega))]
      by_cases c2 : mk' p = 0
      · rw [if_pos c2, if_pos ⟨c, c2⟩]
      · rw [if_neg c2, if_neg (fun h => c2 h.2)]
    · rw [if_pos (nI_le (by omega) (by omega)), if_neg (fun h => c h.1)]
  · by_cases c : i < p
    · have e : ∀ {f f' : Rw}, (∀ t, f' t = if p ≤ t ∧ t + 1 < m + 1 then f (t + 1) else f t) → f' i = f i := fun h => by rw [h i, if_neg (by omega)]
      have em : mf i = mk i := by
        rw [hmf]
        split
        · rw [pk_un (by omega)]; exact e m2
        · exact e m2
      exact LE_row (hR.le (show i < m + 1 by omega)) (t3 i c).1 (e k2) (e l2) (e p2) (e b2) (by rw [(t3 i c).2, em]; exact (hR.le (show i < m + 1 by omega)).2.2.2.2) (ins_lo ins i (by omega)).1.symm
    · have e : ∀ {f f' : Rw}, (∀ t, f' t = if p ≤ t ∧ t + 1 < m + 1 then f (t + 1) else f t) → f' i = f (i + 1) := fun h => by rw [h i, if_pos (by omega)]
      have el := (ins_hi ins (i - p) (by omega)).1
      rw [show p + (i - p) = i by omega] at el
      have r := (hR.le (show i + 1 < m + 1 by omega)).2.2.2.2
      have em : MKr (T'.2.2.2.2.2.1 i) (mf i) := by
        rw [(t4 i (by omega) hi).2]
        by_cases c2 : i = p
        · subst c2
          have e9 : mk' i = mk (i + 1) := e m2
          by_cases c3 : S.2.2.2.2.2.1 (i + 1) = -1
          · have z : mk (i + 1) = 0 := by
              rcases r with ⟨-, z⟩ | ⟨q, q1, q2, q3, q4⟩
              · exact z
              · exfalso
                have := nI_pos (n := q) (by omega)
                rw [← q3, c3] at this
                exact this (by decide)
            rw [if_pos ⟨rfl, c3⟩, hmf, if_pos ⟨hi, by rw [e9, z]⟩, pk_us]
            exact (hR.le hp).2.2.2.2
          · have z : ¬ mk (i + 1) = 0 := by
              rcases r with ⟨z, -⟩ | ⟨q, q1, q2, q3, q4⟩
              · exact absurd z c3
              · rw [q4]; exact nI_ne0 (by omega) (by omega)
            rw [if_neg (fun h => c3 h.2), hmf, if_neg (fun h => z (by rw [← e9]; exact h.2)), e9]
            exact r
        · rw [if_neg (fun h => c2 h.1), hmf]
          split
          · rw [pk_un c2, e m2]; exact r
          · rw [e m2]; exact r
      exact LE_row (hR.le (show i + 1 < m + 1 by omega)) (t4 i (by omega) hi).1 (e k2) (e l2) (e p2) (e b2) em el.symm
end PD
