-- worlds of this claim, loops, and what the walks need beside the wrappers
abbrev Rw : Type := Nat → Int32
abbrev t_Reader : Type := Int32 × Int32 × Int32
def w_Row (cI : ClassId) (n a q : Nat) (f : Rw) : va_W := [(a, .inr (3, [.ref q])), (q, .inl (cI, n, .inl f))]
def w_Arr (cI : ClassId) (n a : Nat) (f : Rw) : va_W := [(a, .inl (cI, n, .inl f))]
def w_Reader (a t : Nat) (S : t_Reader) : va_W := [(a, .inr (2, [.ref t, .int S.1, .int S.2.1, .int S.2.2]))]
abbrev t_Script : Type := Int32 × Int32 × Rw × Rw × Rw × Rw × Rw × Rw × Rw × Rw
def l_Script (cI : ClassId) (A : Nat → Nat) (x0 : Int32) (x1 : Int32) (x2 : Rw) (x3 : Rw) (x4 : Rw) (x5 : Rw) (x6 : Rw) (x7 : Rw) (x8 : Rw) (x9 : Rw) : List va_W := [[(A 0, .inr (5, [.int x0, .int x1, .ref (A 1), .ref (A 3), .ref (A 5), .ref (A 7), .ref (A 9), .ref (A 11), .ref (A 13), .ref (A 15)]))], w_Row cI 60 (A 1) (A 2) x2, w_Row cI 60 (A 3) (A 4) x3, w_Row cI 60 (A 5) (A 6) x4, w_Row cI 60 (A 7) (A 8) x5, w_Row cI 60 (A 9) (A 10) x6, w_Row cI 60 (A 11) (A 12) x7, w_Row cI 60 (A 13) (A 14) x8, w_Row cI 60 (A 15) (A 16) x9]
def w_Script (cI : ClassId) (A : Nat → Nat) (S : t_Script) : va_W := (l_Script cI A S.1 S.2.1 S.2.2.1 S.2.2.2.1 S.2.2.2.2.1 S.2.2.2.2.2.1 S.2.2.2.2.2.2.1 S.2.2.2.2.2.2.2.1 S.2.2.2.2.2.2.2.2.1 S.2.2.2.2.2.2.2.2.2).flatten
abbrev t_Scenes : Type := Int32 × Int32 × Int32 × Rw × Rw × Rw × Rw × Rw × Rw × Rw × Rw × Rw
def l_Scenes (cI : ClassId) (A : Nat → Nat) (x0 : Int32) (x1 : Int32) (x2 : Int32) (x3 : Rw) (x4 : Rw) (x5 : Rw) (x6 : Rw) (x7 : Rw) (x8 : Rw) (x9 : Rw) (x10 : Rw) (x11 : Rw) : List va_W := [[(A 0, .inr (4, [.int x0, .int x1, .int x2, .ref (A 1), .ref (A 3), .ref (A 5), .ref (A 7), .ref (A 9), .ref (A 11), .ref (A 13), .ref (A 15), .ref (A 17)]))], w_Row cI 60 (A 1) (A 2) x3, w_Row cI 60 (A 3) (A 4) x4, w_Row cI 60 (A 5) (A 6) x5, w_Row cI 60 (A 7) (A 8) x6, w_Row cI 60 (A 9) (A 10) x7, w_Row cI 60 (A 11) (A 12) x8, w_Row cI 60 (A 13) (A 14) x9, w_Row cI 60 (A 15) (A 16) x10, w_Row cI 60 (A 17) (A 18) x11]
def w_Scenes (cI : ClassId) (A : Nat → Nat) (S : t_Scenes) : va_W := (l_Scenes cI A S.1 S.2.1 S.2.2.1 S.2.2.2.1 S.2.2.2.2.1 S.2.2.2.2.2.1 S.2.2.2.2.2.2.1 S.2.2.2.2.2.2.2.1 S.2.2.2.2.2.2.2.2.1 S.2.2.2.2.2.2.2.2.2.1 S.2.2.2.2.2.2.2.2.2.2.1 S.2.2.2.2.2.2.2.2.2.2.2).flatten
abbrev t_Pages : Type := Int32 × Int32 × Int32 × Int32 × Int32 × Rw × Rw × Rw × Rw × Rw × Rw × Rw × Rw × Rw
def l_Pages (cI : ClassId) (A : Nat → Nat) (x0 : Int32) (x1 : Int32) (x2 : Int32) (x3 : Int32) (x4 : Int32) (x5 : Rw) (x6 : Rw) (x7 : Rw) (x8 : Rw) (x9 : Rw) (x10 : Rw) (x11 : Rw) (x12 : Rw) (x13 : Rw) : List va_W := [[(A 0, .inr (1, [.int x0, .int x1, .int x2, .int x3, .int x4, .ref (A 1), .ref (A 3), .ref (A 5), .ref (A 7), .ref (A 9), .ref (A 11), .ref (A 13), .ref (A 15), .ref (A 17)]))], w_Row cI 60 (A 1) (A 2) x5, w_Row cI 60 (A 3) (A 4) x6, w_Row cI 60 (A 5) (A 6) x7, w_Row cI 60 (A 7) (A 8) x8, w_Row cI 60 (A 9) (A 10) x9, w_Row cI 60 (A 11) (A 12) x10, w_Row cI 60 (A 13) (A 14) x11, w_Row cI 60 (A 15) (A 16) x12, w_Row cI 60 (A 17) (A 18) x13]
def w_Pages (cI : ClassId) (A : Nat → Nat) (S : t_Pages) : va_W := (l_Pages cI A S.1 S.2.1 S.2.2.1 S.2.2.2.1 S.2.2.2.2.1 S.2.2.2.2.2.1 S.2.2.2.2.2.2.1 S.2.2.2.2.2.2.2.1 S.2.2.2.2.2.2.2.2.1 S.2.2.2.2.2.2.2.2.2.1 S.2.2.2.2.2.2.2.2.2.2.1 S.2.2.2.2.2.2.2.2.2.2.2.1 S.2.2.2.2.2.2.2.2.2.2.2.2.1 S.2.2.2.2.2.2.2.2.2.2.2.2.2).flatten
abbrev t_Model : Type := Rw × Rw × Rw × Int32 × Rw × Int32 × Int32 × Int32 × Int32 × Rw × Rw × Rw × Rw × Rw × Rw × Rw × Int32 × Int32 × Int64
def FU : Nat := 3000
def zloop {σ τ : Type} (body : (σ → Option τ) → σ → Option τ) : Nat → σ → Option τ
  | 0, _ => none
  | n + 1, v => body (zloop body n) v
theorem z_loopE {σ τ : Type} {body : (σ → Option τ) → σ → Option τ} {G : σ → τ → Prop} (step : ∀ rec : σ → Option τ, (∀ v X, rec v = some X → G v X) → ∀ v X, body rec v = some X → G v X) : ∀ (n : Nat) (v : σ) (X : τ), zloop body n v = some X → G v X
  | 0, _, _, h => by cases h
  | n + 1, v, X, h => step (zloop body n) (z_loopE step n) v X h
theorem z_inl {α β γ : Type} {f : α → γ} {g : β → γ} {a : α} {R : γ} (e : Sum.elim f g (.inl a) = R) : f a = R := e
theorem z_inr {α β γ : Type} {f : α → γ} {g : β → γ} {a : β} {R : γ} (e : Sum.elim f g (.inr a) = R) : g a = R := e
def zbl {α : Type} (x : Int32) (e : Option α) : Option α := if x = 0 ∨ x = 1 then e else none
theorem z_bl {α : Type} {x : Int32} {y : Option α} {R : α} {G : Prop} (e : zbl x y = some R) (k : (x = 0 ∨ x = 1) → y = some R → G) : G := by
  unfold zbl at e
  by_cases h : x = 0 ∨ x = 1
  · rw [if_pos h] at e; exact k h e
  · rw [if_neg h] at e; cases e
theorem z_bool {x : Int32} (h : x = 0 ∨ x = 1) : narrow .boolean (.int x) = .int x := by rcases h with h | h <;> subst h <;> rfl
theorem zq_ro {v : Option Value} {a : Array Value} {st t : State} (h : va_F (fun _ => False) st t) : zQro v a st (.returned v) t := ⟨rfl, h⟩
theorem zq_mu {Z : zZ} {w w' : va_W} {v : Option Value} {a : Array Value} {st t : State} (hP : va_P Z.1 vwCl w' t.heap) (h : va_F (zA w) st t) : zQmu Z w w' v a st (.returned v) t := ⟨rfl, hP, h⟩
theorem zP_nil {D : va_G} {cl : List vw_C} {H : Heap} : va_P D cl [] H := fun k q h => by simp at h
theorem zfl_eq (l L : List va_W) : (l ++ L).flatten = (l.flatten :: L).flatten := by simp
theorem zfl {D : va_G} {cl : List vw_C} {l L : List va_W} {H : Heap} (h : va_P D cl (l ++ L).flatten H) : va_P D cl (l.flatten :: L).flatten H := by rw [← zfl_eq]; exact h
theorem zfr {D : va_G} {cl : List vw_C} {l L : List va_W} {H : Heap} (h : va_P D cl (l.flatten :: L).flatten H) : va_P D cl (l ++ L).flatten H := by rw [zfl_eq]; exact h
theorem zfrD {A : Nat → Prop} {l L : List va_W} (h : va_D A (l.flatten :: L).flatten) : va_D A (l ++ L).flatten := by rw [zfl_eq]; exact h
theorem zflD {A : Nat → Prop} {l L : List va_W} (h : va_D A (l ++ L).flatten) : va_D A (l.flatten :: L).flatten := by rw [← zfl_eq]; exact h
theorem zfw2 (a b : va_W) : List.flatten [a, b] = a ++ b := by simp
theorem zfw3 (a b c : va_W) : List.flatten [a, b, c] = a ++ (b ++ c) := by simp
theorem zP_r2 {D : va_G} {cl : List vw_C} {L : List va_W} {H : Heap} (h : va_P D cl L.flatten H) (i j : Nat) {a b : va_W} (hi : L[i]? = some a) (hj : L[j]? = some b) : va_P D cl (List.flatten [a, b]) H := by rw [zfw2]; exact zP_reg2 h i j hi hj
theorem zP_r3 {D : va_G} {cl : List vw_C} {L : List va_W} {H : Heap} (h : va_P D cl L.flatten H) (i j k : Nat) {a b c : va_W} (hi : L[i]? = some a) (hj : L[j]? = some b) (hk : L[k]? = some c) : va_P D cl (List.flatten [a, b, c]) H := by rw [zfw3]; exact zP_reg3 h i j k hi hj hk
theorem zD_r2 {A : Nat → Prop} {L : List va_W} (h : va_D A L.flatten) (i j : Nat) {a b : va_W} (hi : L[i]? = some a) (hj : L[j]? = some b) (hn : i ≠ j) : va_D A (List.flatten [a, b]) := by rw [zfw2]; exact zD_reg2 h i j hi hj hn
theorem zD_r3 {A : Nat → Prop} {L : List va_W} (h : va_D A L.flatten) (i j k : Nat) {a b c : va_W} (hi : L[i]? = some a) (hj : L[j]? = some b) (hk : L[k]? = some c) (h1 : i ≠ j) (h2 : i ≠ k) (h3 : j ≠ k) : va_D A (List.flatten [a, b, c]) := by rw [zfw3]; exact zD_reg3 h i j k hi hj hk h1 h2 h3
theorem zfl_eq2 (l L : List va_W) : (l ++ L).flatten = List.flatten [l.flatten, L.flatten] := by simp
theorem zfl2 {D : va_G} {cl : List vw_C} {l L : List va_W} {H : Heap} (h : va_P D cl (l ++ L).flatten H) : va_P D cl (List.flatten [l.flatten, L.flatten]) H := by rw [← zfl_eq2]; exact h
theorem zfr2 {D : va_G} {cl : List vw_C} {l L : List va_W} {H : Heap} (h : va_P D cl (List.flatten [l.flatten, L.flatten]) H) : va_P D cl (l ++ L).flatten H := by rw [zfl_eq2]; exact h
theorem zfr2D_ {A : Nat → Prop} {l L : List va_W} (h : va_D A (List.flatten [l.flatten, L.flatten])) : va_D A (l ++ L).flatten := by rw [zfl_eq2]; exact h
theorem adr_Script (cI : ClassId) (A : Nat → Nat) (S' S : t_Script) : (w_Script cI A S').map (·.1) = (w_Script cI A S).map (·.1) := rfl
theorem adr_Scenes (cI : ClassId) (A : Nat → Nat) (S' S : t_Scenes) : (w_Scenes cI A S').map (·.1) = (w_Scenes cI A S).map (·.1) := rfl
theorem adr_Pages (cI : ClassId) (A : Nat → Nat) (S' S : t_Pages) : (w_Pages cI A S').map (·.1) = (w_Pages cI A S).map (·.1) := rfl
theorem zadr2 {a a' b b' : va_W} (h1 : a'.map (·.1) = a.map (·.1)) (h2 : b'.map (·.1) = b.map (·.1)) : (List.flatten [a', b']).map (·.1) = (List.flatten [a, b]).map (·.1) := by rw [zfw2, zfw2, List.map_append, List.map_append, h1, h2]
theorem zadr3 {a a' b b' c c' : va_W} (h1 : a'.map (·.1) = a.map (·.1)) (h2 : b'.map (·.1) = b.map (·.1)) (h3 : c'.map (·.1) = c.map (·.1)) : (List.flatten [a', b', c']).map (·.1) = (List.flatten [a, b, c]).map (·.1) := by rw [zfw3, zfw3, List.map_append, List.map_append, List.map_append, List.map_append, h1, h2, h3]
theorem zfl2D {A : Nat → Prop} {l L : List va_W} (h : va_D A (l ++ L).flatten) : va_D A (List.flatten [l.flatten, L.flatten]) := by rw [← zfl_eq2]; exact h
theorem zfr2D {A : Nat → Prop} {l L : List va_W} (h : va_D A (List.flatten [l.flatten, L.flatten])) : va_D A (l ++ L).flatten := by rw [zfl_eq2]; exact h
theorem zflat_at : ∀ {L : List va_W} {i : Nat} {x : Nat × va_E}, L[i]? = some [x] → L.flatten[(L.take i).flatten.length]? = some x
  | [], i, x, h => by simp at h
  | y :: L, 0, x, h => by
    simp only [List.getElem?_cons_zero, Option.some.injEq] at h
    subst h
    simp
  | y :: L, i + 1, x, h => by
    simp only [List.getElem?_cons_succ] at h
    rw [List.take_succ_cons, List.flatten_cons, List.flatten_cons, List.length_append, List.getElem?_append_right (by omega), Nat.add_sub_cancel_left]
    exact zflat_at h
theorem zflat_set : ∀ {L : List va_W} {i : Nat} {x y : Nat × va_E}, L[i]? = some [x] → L.flatten.set (L.take i).flatten.length y = (L.set i [y]).flatten
  | [], i, x, y, h => by simp at h
  | z :: L, 0, x, y, h => by
    simp only [List.getElem?_cons_zero, Option.some.injEq] at h
    subst h
    simp
  | z :: L, i + 1, x, y, h => by
    simp only [List.getElem?_cons_succ] at h
    rw [List.take_succ_cons, List.flatten_cons, List.flatten_cons, List.length_append, List.set_append_right _ _ (by omega), Nat.add_sub_cancel_left, zflat_set h, List.set_cons_succ, List.flatten_cons]
section ZPut
variable {p : Program} {l : Launch} {e : Env} {R : Room} {s : State} {m : MethodId} {args : Array Value} {below : List Frame} {meth : Method} {c : Code} {H : Heap} {locs : List Loc} {cells slots : Nat} {Q : State → Prop}
variable {cc : ByteArray} {pc : Nat} {ls : Array Slot} {rest : List Value} {A : Nat → Prop} {H0 : Heap} {Z : zZ} {L L' : List va_W} {a : Nat}
theorem z_put (hx : p.tables.exec = Jvm.exec) (hb : c.code = cc) {own ref C : String} {T : u_T} {N ci index : Nat} {Ts : List Cond} (hts : ∀ w ∈ Ts, w.before args s = true) (hin : ∀ w ∈ u_ws C T N, w ∈ Ts) (ty0 : Nat → FieldType) (hty : ∀ k, k < N → parseFieldDescriptor (T k).2.2.1 = some (ty0 k)) (hnm : ∀ a, a < N → ∀ b, b < N → a ≠ b → (T a).2.1 ≠ (T b).2.1) (hown : s.vm.findClass own = some m.cls) (hK : zK Z s) (hP : va_P Z.1 vwCl L.flatten H) (hD : va_D A L.flatten) (hS0 : va_S A H0 H locs) (i : Nat) {fs : List Value} (he : L[i]? = some [(a, .inr (ci, fs))]) (hc : vwCl[ci]? = some (C, T, N)) (k : Nat) (hk : k < N) (hlink : (Cond.fieldLink own index ref (T k).2.1 (T k).2.2.1).before args s = true) (hsame : ∀ x, s.fieldFound? (T k).1 (T k).2.1 (T k).2.2.1 = some x → s.fieldFound? ref (T k).2.1 (T k).2.2.1 = some x) (hfin : (T k).2.2.2 = false) {ty : FieldType} {v : Value} (hd : parseFieldDescriptor (T k).2.2.1 = some ty) (hn : narrow ty v = v) (hfit : fits ty v = true) (hl : k < fs.length) (hL : L.set i [(a, .inr (ci, fs.set k v))] = L')
    (hdg : decode cc pc = .ok (.putfield index, 3)) (kk : ∀ (H1 : Heap) (locs1 : List Loc), va_P Z.1 vwCl L'.flatten H1 → va_D A L'.flatten → va_S A H0 H1 locs1 → W p l e R s m args below meth c H1 locs1 cells slots Q (F0 m (pc + 3) ls rest)) : W p l e R s m args below meth c H locs cells slots Q (F0 m pc ls (v :: .ref a :: rest)) := by
  subst hL
  refine va_put (D := Z.1) (cl := vwCl) hx hb hts hin ty0 hty hnm hown hK.1 hP hD hS0 _ (zflat_at he) hc k hk hlink hsame hfin hd hn hfit hl hdg (fun H1 l1 h1 h2 h3 => ?_)
  rw [zflat_set he] at h1 h2
  exact kk H1 l1 h1 h2 h3
theorem z_putN (hx : p.tables.exec = Jvm.exec) (hb : c.code = cc) {own ref C host : String} {T : u_T} {N ci index : Nat} {Ts : List Cond} (hts : ∀ w ∈ Ts, w.before args s = true) (hin : ∀ w ∈ u_ws C T N, w ∈ Ts) (ty0 : Nat → FieldType) (hty : ∀ k, k < N → parseFieldDescriptor (T k).2.2.1 = some (ty0 k)) (hnm : ∀ a, a < N → ∀ b, b < N → a ≠ b → (T a).2.1 ≠ (T b).2.1) (hown : s.vm.findClass own = some m.cls) (hK : zK Z s) (hP : va_P Z.1 vwCl L.flatten H) (hD : va_D A L.flatten) (hS0 : va_S A H0 H locs) (i : Nat) {fs : List Value} (he : L[i]? = some [(a, .inr (ci, fs))]) (hc : vwCl[ci]? = some (C, T, N)) (k : Nat) (hk : k < N) (hlink : (Cond.fieldLinkNest own index ref (T k).2.1 (T k).2.2.1 host).before args s = true) (hsame : ∀ x, s.fieldFound? (T k).1 (T k).2.1 (T k).2.2.1 = some x → s.fieldFound? ref (T k).2.1 (T k).2.2.1 = some x) (hfin : (T k).2.2.2 = false) {ty : FieldType} {v : Value} (hd : parseFieldDescriptor (T k).2.2.1 = some ty) (hn : narrow ty v = v) (hfit : fits ty v = true) (hl : k < fs.length) (hL : L.set i [(a, .inr (ci, fs.set k v))] = L')
    (hdg : decode cc pc = .ok (.putfield index, 3)) (kk : ∀ (H1 : Heap) (locs1 : List Loc), va_P Z.1 vwCl L'.flatten H1 → va_D A L'.flatten → va_S A H0 H1 locs1 → W p l e R s m args below meth c H1 locs1 cells slots Q (F0 m (pc + 3) ls rest)) : W p l e R s m args below meth c H locs cells slots Q (F0 m pc ls (v :: .ref a :: rest)) := by
  subst hL
  refine va_putN (D := Z.1) (cl := vwCl) hx hb hts hin ty0 hty hnm hown hK.1 hP hD hS0 _ (zflat_at he) hc k hk hlink hsame hfin hd hn hfit hl hdg (fun H1 l1 h1 h2 h3 => ?_)
  rw [zflat_set he] at h1 h2
  exact kk H1 l1 h1 h2 h3
theorem z_iast (hx : p.tables.exec = Jvm.exec) (hb : c.code = cc) (hK : zK Z s) (hP : va_P Z.1 vwCl L.flatten H) (hD : va_D A L.flatten) (hS : va_S A H0 H locs) (q0 : Nat) {n : Nat} {f g : Nat → Int32} (ha : L[q0]? = some [(a, .inl (Z.2.1, n, .inl f))]) {i : Int32} {x : Int32} (hin : vp_in i n) (hg : upd f i.toNatClampNeg x = g) (hL : L.set q0 [(a, .inl (Z.2.1, n, .inl g))] = L') (hdg : decode cc pc = .ok (.iastore, 1))
    (kk : ∀ (H1 : Heap) (locs1 : List Loc), va_P Z.1 vwCl L'.flatten H1 → va_D A L'.flatten → va_S A H0 H1 locs1 → W p l e R s m args below meth c H1 locs1 cells slots Q (F0 m (pc + 1) ls rest)) : W p l e R s m args below meth c H locs cells slots Q (F0 m pc ls (.int x :: .int i :: .ref a :: rest)) := by
  subst hg; subst hL
  refine va_iast (D := Z.1) (cl := vwCl) hx hb hK.1 hP hD hS _ 0 (zflat_at ha) rfl hin hdg (fun H1 l1 h1 h2 h3 => ?_)
  rw [zflat_set ha] at h1 h2
  exact kk H1 l1 h1 h2 h3
theorem z_iastR {ws ws' : va_W} (hx : p.tables.exec = Jvm.exec) (hb : c.code = cc) (hK : zK Z s) (hP : va_P Z.1 vwCl ws H) (hD : va_D A ws) (hS : va_S A H0 H locs) (q0 : Nat) {n : Nat} {f g : Nat → Int32} (ha : ws[q0]? = some (a, .inl (Z.2.1, n, .inl f))) {i : Int32} {x : Int32} (hin : vp_in i n) (hg : upd f i.toNatClampNeg x = g) (hL : ws.set q0 (a, .inl (Z.2.1, n, .inl g)) = ws') (hdg : decode cc pc = .ok (.iastore, 1))
    (kk : ∀ (H1 : Heap) (locs1 : List Loc), va_P Z.1 vwCl ws' H1 → va_D A ws' → va_S A H0 H1 locs1 → W p l e R s m args below meth c H1 locs1 cells slots Q (F0 m (pc + 1) ls rest)) : W p l e R s m args below meth c H locs cells slots Q (F0 m pc ls (.int x :: .int i :: .ref a :: rest)) := by
  subst hg; subst hL
  exact va_iast (D := Z.1) (cl := vwCl) hx hb hK.1 hP hD hS q0 0 ha rfl hin hdg kk
theorem z_ro_r {pc : Nat} {st0 : List Value} {x : Nat} {A0 : Nat → Prop} {a : Array Value} {ws : va_W} (hr : va_Run p l e R s m args below meth c H locs cells slots 0 0 (F0 m pc ls st0) rest (zQro (some (.ref x)) a) (fun _ => False)) (hS : va_S A0 H0 H locs) (hP : va_P Z.1 vwCl ws H)
    (kk : ∀ (H1 : Heap) (locs1 : List Loc), va_P Z.1 vwCl ws H1 → va_S A0 H0 H1 locs1 → W p l e R s m args below meth c H1 locs1 cells slots Q (F0 m (pc + 3) ls (.ref x :: rest))) : W p l e R s m args below meth c H locs cells slots Q (F0 m pc ls st0) := z_ro hr hS hP kk
theorem lv_topE {x y : Int32} (h : x = y) (k : W p l e R s m args below meth c H locs cells slots Q (F0 m pc ls (.int y :: rest))) : W p l e R s m args below meth c H locs cells slots Q (F0 m pc ls (.int x :: rest)) := by subst h; exact k
theorem lv_topEl {x y : Int64} (h : x = y) (k : W p l e R s m args below meth c H locs cells slots Q (F0 m pc ls (.long y :: rest))) : W p l e R s m args below meth c H locs cells slots Q (F0 m pc ls (.long x :: rest)) := by subst h; exact k
end ZPut
theorem z_ofi1 : Int32.ofInt 1 = 1 := by decide
theorem z_ofim1 : Int32.ofInt (-1) = -1 := by decide
theorem z_ofi5 : Int32.ofInt 5 = 5 := by decide
theorem z_inc1 {x a : Int32} (h : x + 1 = a) : x + Int32.ofInt 1 = a := by rw [z_ofi1]; exact h
theorem z_incm1 {x a : Int32} (h : x + (-1) = a) : x + Int32.ofInt (-1) = a := by rw [z_ofim1]; exact h
theorem z_inc5 {x a : Int32} (h : x + 5 = a) : x + Int32.ofInt 5 = a := by rw [z_ofi5]; exact h
theorem z_01a : (0 : Int32) = 0 ∨ (0 : Int32) = 1 := Or.inl rfl
theorem z_01b : (1 : Int32) = 0 ∨ (1 : Int32) = 1 := Or.inr rfl
theorem z_01i {c : Prop} {_ : Decidable c} {a b : Int32} (ha : a = 0 ∨ a = 1) (hb : b = 0 ∨ b = 1) : (if c then a else b) = 0 ∨ (if c then a else b) = 1 := by
  by_cases h : c
  · rw [if_pos h]; exact ha
  · rw [if_neg h]; exact hb
theorem z_01l {α : Type} {x : α} {f : α → Int32} (h : ∀ q, f q = 0 ∨ f q = 1) : zlet x f = 0 ∨ zlet x f = 1 := h x
