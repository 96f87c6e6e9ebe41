-- worlds of this claim, loops, and what the walks need beside the wrappers
abbrev Rw : Type := Nat → Int32
abbrev t_Reader : Type := Int32 × Int32 × Int32
def w_Row (cI : ClassId) (n a q : Nat) (f : Rw) : va_W := [(a, .inr (3, [.ref q])), (q, .inl (cI, n, .inl f))]
def w_Arr (cI : ClassId) (n a : Nat) (f : Rw) : va_W := [(a, .inl (cI, n, .inl f))]
def w_Reader (a t : Nat) (S : t_Reader) : va_W := [(a, .inr (2, [.ref t, .int S.1, .int S.2.1, .int S.2.2]))]
abbrev t_Script : Type := Int32 × Int32 × Rw × Rw × Rw × Rw × Rw × Rw × Rw × Rw
def l_Script (cI : ClassId) (A : Nat → Nat) (x0 : Int32) (x1 : Int32) (x2 : Rw) (x3 : Rw) (x4 : Rw) (x5 : Rw) (x6 : Rw) (x7 : Rw) (x8 : Rw) (x9 : Rw) : List va_W := [[(A 0, .inr (5, [.int x0, .int x1, .ref (A 1), .ref (A 3), .ref (A 5), .ref (A 7), .ref (A 9), .ref (A 11), .ref (A 13), .ref (A 15)]))], w_Row cI 60 (A 1) (A 2) x2, w_Row cI 60 (A 3) (A 4) x3, w_Row cI 60 (A 5) (A 6) x4, w_Row cI 60 (A 7) (A 8) x5, w_Row cI 60 (A 9) (A 10) x6, w_Row cI 60 (A 11) (A 12) x7, w_Row cI 60 (A 13) (A 14) x8, w_Row cI 60 (A 15) (A 16) x9]
def w_Script (cI : ClassId) (A : Nat → Nat) (S : t_Script) : va_W := (l_Script cI A S.1 S.2.1 S.2.2.1 S.2.2.2.1 S.2.2.2.2.1 S.2.2.2.2.2.1 S.2.2.2.2.2.2.1 S.2.2.2.2.2.2.2.1 S.2.2.2.2.2.2.2.2.1 S.2.2.2.2.2.2.2.2.2).flatten
abbrev t_Scenes : Type := Int32 × Int32 × Int32 × Rw × Rw × Rw × Rw × Rw × Rw × Rw × Rw × Rw
def l_Scenes (cI : ClassId) (A : Nat → Nat) (x0 : Int32) (x1 : Int32) (x2 : Int32) (x3 : Rw) (x4 : Rw) (x5 : Rw) (x6 : Rw) (x7 : Rw) (x8 : Rw) (x9 : Rw) (x10 : Rw) (x11 : Rw) : List va_W := [[(A 0, .inr (4, [.int x0, .int x1, .int x2, .ref (A 1), .ref (A 3), .ref (A 5), .ref (A 7), .ref (A 9), .ref (A 11), .ref (A 13), .ref (A 15), .ref (A 17)]))], w_Row cI 60 (A 1) (A 2) x3, w_Row cI 60 (A 3) (A 4) x4, w_Row cI 60 (A 5) (A 6) x5, w_Row cI 60 (A 7) (A 8) x6, w_Row cI 60 (A 9) (A 10) x7, w_Row cI 60 (A 11) (A 12) x8, w_Row cI 60 (A 13) (A 14) x9, w_Row cI 60 (A 15) (A 16) x10, w_Row cI 60 (A 17) (A 18) x11]
def w_Scenes (cI : ClassId) (A : Nat → Nat) (S : t_Scenes) : va_W := (l_Scenes cI A S.1 S.2.1 S.2.2.1 S.2.2.2.1 S.2.2.2.2.1 S.2.2.2.2.2.1 S.2.2.2.2.2.2.1 S.2.2.2.2.2.2.2.1 S.2.2.2.2.2.2.2.2.1 S.2.2.2.2.2.2.2.2.2.1 S.2.2.2.2.2.2.2.2.2.2.1 S.2.2.2.2.2.2.2.2.2.2.2).flatten
abbrev t_Pages : Type := Int32 × Int32 × Int32 × Int32 × Int32 × Rw × Rw × Rw × Rw × Rw × Rw × Rw × Rw × Rw
def l_Pages (cI : ClassId) (A : Nat → Nat) (x0 : Int32) (x1 : Int32) (x2 : Int32) (x3 : Int32) (x4 : Int32) (x5 : Rw) (x6 : Rw) (x7 : Rw) (x8 : Rw) (x9 : Rw) (x10 : Rw) (x11 : Rw) (x12 : Rw) (x13 : Rw) : List va_W := [[(A 0, .inr (1, [.int x0, .int x1, .int x2, .int x3, .int x4, .ref (A 1), .ref (A 3), .ref (A 5), .ref (A 7), .ref (A 9), .ref (A 11), .ref (A 13), .ref (A 15), .ref (A 17)]))], w_Row cI 60 (A 1) (A 2) x5, w_Row cI 60 (A 3) (A 4) x6, w_Row cI 60 (A 5) (A 6) x7, w_Row cI 60 (A 7) (A 8) x8, w_Row cI 60 (A 9) (A 10) x9, w_Row cI 60 (A 11) (A 12) x10, w_Row cI 60 (A 13) (A 14) x11, w_Row cI 60 (A 15) (A 16) x12, w_Row cI 60 (A 17) (A 18) x13]
def w_Pages (cI : ClassId) (A : Nat → Nat) (S : t_Pages) : va_W := (l_Pages cI A S.1 S.2.1 S.2.2.1 S.2.2.2.1 S.2.2.2.2.1 S.2.2.2.2.2.1 S.2.2.2.2.2.2.1 S.2.2.2.2.2.2.2.1 S.2.2.2.2.2.2.2.2.1 S.2.2.2.2.2.2.2.2.2.1 S.2.2.2.2.2.2.2.2.2.2.1 S.2.2.2.2.2.2.2.2.2.2.2.1 S.2.2.2.2.2.2.2.2.2.2.2.2.1 S.2.2.2.2.2.2.2.2.2.2.2.2.2).flatten
abbrev t_Model : Type := Rw × Rw × Rw × Int32 × Rw × Int32 × Int32 × Int32 × Int32 × Rw × Rw × Rw × Rw × Rw × Rw × Rw × Int32 × Int32 × Int64
def l_Model (cI : ClassId) (A : Nat → Nat) (x0 : Rw) (x1 : Rw) (x2 : Rw) (x3 : Int32) (x4 : Rw) (x5 : Int32) (x6 : Int32) (x7 : Int32) (x8 : Int32) (x9 : Rw) (x10 : Rw) (x11 : Rw) (x12 : Rw) (x13 : Rw) (x14 : Rw) (x15 : Rw) (x16 : Int32) (x17 : Int32) (x18 : Int64) : List va_W := [[(A 0, .inr (7, [.ref (A 1), .ref (A 2), .ref (A 3), .int x3, .ref (A 4), .int x5, .int x6, .int x7, .int x8, .ref (A 5), .ref (A 6), .ref (A 7), .ref (A 8), .ref (A 9), .ref (A 10), .ref (A 11), .int x16, .int x17, .long x18]))], w_Arr cI 542 (A 1) x0, w_Arr cI 2168 (A 2) x1, w_Arr cI 542 (A 3) x2, w_Arr cI 200 (A 4) x4, w_Arr cI 60 (A 5) x9, w_Arr cI 60 (A 6) x10, w_Arr cI 60 (A 7) x11, w_Arr cI 130 (A 8) x12, w_Arr cI 130 (A 9) x13, w_Arr cI 130 (A 10) x14, w_Arr cI 180 (A 11) x15]
def w_Model (cI : ClassId) (A : Nat → Nat) (S : t_Model) : va_W := (l_Model cI A S.1 S.2.1 S.2.2.1 S.2.2.2.1 S.2.2.2.2.1 S.2.2.2.2.2.1 S.2.2.2.2.2.2.1 S.2.2.2.2.2.2.2.1 S.2.2.2.2.2.2.2.2.1 S.2.2.2.2.2.2.2.2.2.1 S.2.2.2.2.2.2.2.2.2.2.1 S.2.2.2.2.2.2.2.2.2.2.2.1 S.2.2.2.2.2.2.2.2.2.2.2.2.1 S.2.2.2.2.2.2.2.2.2.2.2.2.2.1 S.2.2.2.2.2.2.2.2.2.2.2.2.2.2.1 S.2.2.2.2.2.2.2.2.2.2.2.2.2.2.2.1 S.2.2.2.2.2.2.2.2.2.2.2.2.2.2.2.2.1 S.2.2.2.2.2.2.2.2.2.2.2.2.2.2.2.2.2.1 S.2.2.2.2.2.2.2.2.2.2.2.2.2.2.2.2.2.2).flatten
def FU : Nat := 3000
def zloop {σ τ : Type} (body : (σ → Option τ) → σ → Option τ) : Nat → σ → Option τ
  | 0, _ => none
  | n + 1, v => body (zloop body n) v
theorem z_loopE {σ τ : Type} {body : (σ → Option τ) → σ → Option τ} {G : σ → τ → Prop} (step : ∀ rec : σ → Option τ, (∀ v X, rec v = some X → G v X) → ∀ v X, body rec v = some X → G v X) : ∀ (n : Nat) (v : σ) (X : τ), zloop body n v = some X → G v X
  | 0, _, _, h => by cases h
  | n + 1, v, X, h => step (zloop body n) (z_loopE step n) v X h
theorem z_inl {α β γ : Type} {f : α → γ} {g : β → γ} {a : α} {R : γ} (e : Sum.elim f g (.inl a) = R) : f a = R := e
theorem z_inr {α β γ : Type} {f : α → γ} {g : β → γ} {a : β} {R : γ} (e : Sum.elim f g (.inr a) = R) : g a = R := e
def zbl {α : Type} (x : Int32) (e : Option α) : Option α := if x = 0 ∨ x = 1 then e else none
theorem z_bl {α : Type} {x : Int32} {y : Option α} {R : α} {G : Prop} (e : zbl x y = some R) (k : (x = 0 ∨ x = 1) → y = some R → G) : G := by
  unfold zbl at e
  by_cases h : x = 0 ∨ x = 1
  · rw [if_pos h] at e; exact k h e
  · rw [if_neg h] at e; cases e
theorem z_bool {x : Int32} (h : x = 0 ∨ x = 1) : narrow .boolean (.int x) = .int x := by rcases h with h | h <;> subst h <;> rfl
theorem zq_ro {v : Option Value} {a : Array Value} {st t : State} (h : va_F (fun _ => False) st t) : zQro v a st (.returned v) t := ⟨rfl, h⟩
theorem zq_mu {Z : zZ} {w w' : va_W} {v : Option Value} {a : Array Value} {st t : State} (hP : va_P Z.1 vwCl w' t.heap) (h : va_F (zA w) st t) : zQmu Z w w' v a st (.returned v) t := ⟨rfl, hP, h⟩
theorem zP_nil {D : va_G} {cl : List vw_C} {H : Heap} : va_P D cl [] H := fun k q h => by simp at h
theorem zfl_eq (l L : List va_W) : (l ++ L).flatten = (l.flatten :: L).flatten := by simp
theorem zfl {D : va_G} {cl : List vw_C} {l L : List va_W} {H : Heap} (h : va_P D cl (l ++ L).flatten H) : va_P D cl (l.flatten :: L).flatten H := by rw [← zfl_eq]; exact h
theorem zfr {D : va_G} {cl : List vw_C} {l L : List va_W} {H : Heap} (h : va_P D cl (l.flatten :: L).flatten H) : va_P D cl (l ++ L).flatten H := by rw [zfl_eq]; exact h
theorem zfrD {A : Nat → Prop} {l L : List va_W} (h : va_D A (l.flatten :: L).flatten) : va_D A (l ++ L).flatten := by rw [zfl_eq]; exact h
theorem zflD {A : Nat → Prop} {l L : List va_W} (h : va_D A (l ++ L).flatten) : va_D A (l.flatten :: L).flatten := by rw [← zfl_eq]; exact h
theorem zfw2 (a b : va_W) : List.flatten [a, b] = a ++ b := by simp
theorem zfw3 (a b c : va_W) : List.flatten [a, b, c] = a ++ (b ++ c) := by simp
theorem zP_r2 {D : va_G} {cl : List vw_C} {L : List va_W} {H : Heap} (h : va_P D cl L.flatten H) (i j : Nat) {a b : va_W} (hi : L[i]? = some a) (hj : L[j]? = some b) : va_P D cl (List.flatten [a, b]) H := by rw [zfw2]; exact zP_reg2 h i j hi hj
theorem zP_r3 {D : va_G} {cl : List vw_C} {L : List va_W} {H : Heap} (h : va_P D cl L.flatten H) (i j k : Nat) {a b c : va_W} (hi : L[i]? = some a) (hj : L[j]? = some b) (hk : L[k]? = some c) : va_P D cl (List.flatten [a, b, c]) H := by rw [zfw3]; exact zP_reg3 h i j k hi hj hk
theorem zD_r2 {A : Nat → Prop} {L : List va_W} (h : va_D A L.flatten) (i j : Nat) {a b : va_W} (hi : L[i]? = some a) (hj : L[j]? = some b) (hn : i ≠ j) : va_D A (List.flatten [a, b]) := by rw [zfw2]; exact zD_reg2 h i j hi hj hn
theorem zD_r3 {A : Nat → Prop} {L : List va_W} (h : va_D A L.flatten) (i j k : Nat) {a b c : va_W} (hi : L[i]? = some a) (hj : L[j]? = some b) (hk : L[k]? = some c) (h1 : i ≠ j) (h2 : i ≠ k) (h3 : j ≠ k) : va_D A (List.flatten [a, b, c]) := by rw [zfw3]; exact zD_reg3 h i j k hi hj hk h1 h2 h3
theorem zfl_eq2 (l L : List va_W) : (l ++ L).flatten = List.flatten [l.flatten, L.flatten] := by simp
theorem zfl2 {D : va_G} {cl : List vw_C} {l L : List va_W} {H : Heap} (h : va_P D cl (l ++ L).flatten H) : va_P D cl (List.flatten [l.flatten, L.flatten]) H := by rw [← zfl_eq2]; exact h
theorem zfr2 {D : va_G} {cl : List vw_C} {l L : List va_W} {H : Heap} (h : va_P D cl (List.flatten [l.flatten, L.flatten]) H) : va_P D cl (l ++ L).flatten H := by rw [zfl_eq2]; exact h
theorem zfrD2 {A : Nat → Prop} {l L : List va_W} (h : va_D A (List.flatten [l.flatten, L.flatten])) : va_D A (l ++ L).flatten := by rw [zfl_eq2]; exact h
