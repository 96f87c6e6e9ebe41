-- ScriptPages: the object with all that hangs on it, and methods that may throw
def w_Main (mm : Nat) (As Bs Ac Bc Ag Bg : Nat → Nat) (hh rt : Nat) (tl : Int32) : va_W := [(mm, .inr (6, [.ref (As 0), .ref (Bs 0), .ref (Ac 0), .ref (Bc 0), .ref (Ag 0), .ref (Bg 0), .ref hh, .ref rt, .int tl]))]
theorem zfm_eq (pre l post : List va_W) : (pre ++ (l ++ post)).flatten = (pre ++ (l.flatten :: post)).flatten := by simp
theorem zfm {D : va_G} {cl : List vw_C} {pre l post : List va_W} {H : Heap} (h : va_P D cl (pre ++ (l.flatten :: post)).flatten H) : va_P D cl (pre ++ (l ++ post)).flatten H := by rw [zfm_eq]; exact h
theorem zfn {D : va_G} {cl : List vw_C} {pre l post : List va_W} {H : Heap} (h : va_P D cl (pre ++ (l ++ post)).flatten H) : va_P D cl (pre ++ (l.flatten :: post)).flatten H := by rw [← zfm_eq]; exact h
theorem zfmD {A : Nat → Prop} {pre l post : List va_W} (h : va_D A (pre ++ (l.flatten :: post)).flatten) : va_D A (pre ++ (l ++ post)).flatten := by rw [zfm_eq]; exact h
theorem zfnD {A : Nat → Prop} {pre l post : List va_W} (h : va_D A (pre ++ (l ++ post)).flatten) : va_D A (pre ++ (l.flatten :: post)).flatten := by rw [← zfm_eq]; exact h
theorem zadr_cons {a a' : va_W} {L L' : List va_W} (h1 : a'.map (·.1) = a.map (·.1)) (h2 : L'.flatten.map (·.1) = L.flatten.map (·.1)) : (a' :: L').flatten.map (·.1) = (a :: L).flatten.map (·.1) := by rw [List.flatten_cons, List.flatten_cons, List.map_append, List.map_append, h1, h2]
/-! what a throw needs: the strings, the tables' words, two statics of Throwable -/
def zStr : List (Nat × String) := [(64, "index is out of range"), (82, "kind, length or person is out of range"), (91, "there are 60 elements"), (105, "two scenes would have the same label"), (113, "no such element"), (118, "it is the heading of a locked scene"), (123, "length is out of range"), (139, "lines is out of range"), (166, "no such scene"), (171, "it is not locked, or is omitted already"), (187, "what is out of range"), (204, "person is out of range")]
abbrev zXn : List String := ["java/lang/RuntimeException", "java/lang/Exception"]
def zXc : List (Nat × Nat × String) := [(62, 66, "java/lang/IndexOutOfBoundsException"), (80, 84, "java/lang/IllegalArgumentException"), (89, 93, "java/lang/IllegalStateException")]
def zTh (sa : Nat → Nat) (A : Nat → Prop) (U : State) (H : Heap) : Prop :=
  (∀ q ∈ zStr, vk_R RX6 q.1 q.2 (sa q.1) U) ∧ (∀ q ∈ zXc, ∀ w ∈ vx_atS RX6 q.2.1 q.2.2 zXn, w.before #[] U = true) ∧ vx_Zq Bundle.tN "UNASSIGNED_STACK" Bundle.steD A U H ∧ vx_Zq Bundle.tN "SUPPRESSED_SENTINEL" Bundle.listD A U H
theorem zXc_ot : ∀ q ∈ zXc, ∀ w ∈ vx_atS RX6 q.2.1 q.2.2 zXn, vx_ot w = true := by
  intro q hq w hw
  have h : (zXc.all fun q => (vx_atS RX6 q.2.1 q.2.2 zXn).all vx_ot) = true := by decide +kernel
  exact List.all_eq_true.mp (List.all_eq_true.mp h q hq) w hw
theorem zTh.warm {sa : Nat → Nat} {A : Nat → Prop} {s U : State} {H : Heap} (hW : s.WarmedH U.vm) (h : zTh sa A s H) : zTh sa A U H := by
  refine ⟨fun q hq => vk_R.warm hW (h.1 q hq), fun q hq w hw => ?_, vx_Zq.moved hW.alike h.2.2.1, vx_Zq.moved hW.alike h.2.2.2⟩
  have h1 : w.before #[] (s.setVm U.vm) = true := Cond.before_shiftedFace (State.Shifted.of_warmed hW) w (Bundle.ownAtoms_keepsFace w (List.mem_filter.mp hw).1) (h.2.1 q hq w hw)
  exact vx_ot_at (State.WarmedH.refl (s.setVm U.vm)) rfl (zXc_ot q hq w hw) h1
theorem zTh.same {sa : Nat → Nat} {A : Nat → Prop} {u U : State} {H : Heap} (hv : u.vm = U.vm) (h : zTh sa A u H) : zTh sa A U H := by
  refine zTh.warm (s := u) ?_ h
  rw [← hv]
  exact State.WarmedH.refl u
theorem zTh.kept {sa : Nat → Nat} {A : Nat → Prop} {U : State} {H H1 : Heap} (h : zTh sa A U H) (hq : ∀ a : Nat, a < H.size → ¬ A a → H1[a]? = H[a]?) : zTh sa A U H1 := ⟨h.1, h.2.1, h.2.2.1.kept hq, h.2.2.2.kept hq⟩
theorem zTh.narrow {sa : Nat → Nat} {A B : Nat → Prop} {U : State} {H : Heap} (h : zTh sa A U H) (hAB : ∀ q, B q → A q) : zTh sa B U H := ⟨h.1, h.2.1, h.2.2.1.narrow hAB, h.2.2.2.narrow hAB⟩
def zr : Int32 ⊕ Nat → Value ⊕ String
  | .inl v => .inl (.int v)
  | .inr 0 => .inr "java/lang/IndexOutOfBoundsException"
  | .inr 1 => .inr "java/lang/IllegalArgumentException"
  | .inr (_ + 2) => .inr "java/lang/IllegalStateException"
def zPx (Z : zZ) (sa : Nat → Nat) (w : va_W) (av : List Value) : Array Value → State → Prop := va_Pc av (fun U => va_P Z.1 vwCl w U.heap ∧ zK Z U ∧ va_D (fun _ => True) w ∧ zTh sa (zA w) U U.heap)
def zQx (Z : zZ) (w w' : va_W) (r : Value ⊕ String) : Array Value → State → Outcome → State → Prop := fun _ st oc t => (∃ v, r = .inl v ∧ oc = .returned (some v)) ∧ va_P Z.1 vwCl w' t.heap ∧ va_F (zA w) st t
def zXx (Z : zZ) (w w' : va_W) (r : Value ⊕ String) : String → State → State → Prop := fun E st t => r = .inr E ∧ va_P Z.1 vwCl w' t.heap ∧ va_F (zA w) st t
/-- a method that returns or throws, and writes in its world alone; a throw makes one object of six fields -/
def zXM (l : Launch) (y : MethodName) (ws : List Cond) (rm : Room) (Z : zZ) (sa : Nat → Nat) (av : List Value) (w w' : va_W) (r : Value ⊕ String) : Prop := vx_Met l y ws rm (zPx Z sa w av) (zQx Z w w' r) (zXx Z w w' r) 1 6 (zA w)
theorem zPx_blind {Z : zZ} {sa : Nat → Nat} {w : va_W} {av : List Value} : FrameBlind (zPx Z sa w av) := fun a U g mk h => ⟨h.1, h.2.1, h.2.2.1.same rfl, h.2.2.2.1, zTh.same (u := U) (H := U.heap) rfl h.2.2.2.2⟩
theorem zXM_of {l : Launch} {y : MethodName} {cc : ByteArray} {maxL : Nat} {ret : Option FieldType} {rm : Room} {Z : zZ} {sa : Nat → Nat} {av : List Value} {w w' : va_W} {r : Value ⊕ String} (hy : plainName y.cls = true) (hn : (lg_sl av).length ≤ maxL)
    (body : ∀ (p : Program) (e : Env) (s : State) (m : MethodId) (below : List Frame) (meth : Method) (c : Code), p.tables.exec = Jvm.exec → c.code = cc → meth.sig.returnType = ret → c.maxLocals = maxL → s.vm.findClass y.cls = some m.cls → (∀ w ∈ zG, w.before av.toArray s = true) → meth.locks = false → zK Z s →
      ∀ A, A = zA w → zTh sa A s s.heap → (∀ x ∈ c.exceptionTable.toList, False) → ∀ Q, Q = vx_MQ below (zQx Z w w' r) (zXx Z w w' r) av.toArray s 1 6 A → ∀ ls, lv_has ls maxL (lv_args 0 av) → va_P Z.1 vwCl w s.heap → va_D A w → va_S A s.heap s.heap [] → W p l e rm s m av.toArray below meth c s.heap [] 0 0 Q (F0 m 0 ls [])) : zXM l y (zw y cc maxL ret) rm Z sa av w w' r := by
  refine vx_ofW (cc := cc) (maxL := maxL) (ret := ret) hy rfl ?_
  intro p e s m args below meth c s₁ B hml hnt hv
  obtain ⟨rfl, hP, hK, hD, hT⟩ := hv
  have hts := atoms_spec (ws := zw y cc maxL ret) B.pre
  have hl := lv_entry av (n := maxL) hn
  rw [lg_entry_eq]
  exact body p e s m below meth c B.exec B.bytes B.returns hml (findClass_of_methodNamed B.named) (fun w h => hts w (List.mem_cons_of_mem _ h)) B.notSynchronized hK _ rfl hT hnt _ rfl _ hl hP (zD_self hD) va_S.rf
section ZX
variable {p : Program} {l : Launch} {e : Env} {R : Room} {s : State} {m : MethodId} {args : Array Value} {below : List Frame} {meth : Method} {c : Code} {H : Heap} {locs : List Loc}
variable {cc : ByteArray} {pc : Nat} {ls : Array Slot} {Z : zZ} {w w' : va_W} {r : Value ⊕ String} {sa : Nat → Nat}
theorem z_xret {v : Int32} (hx : p.tables.exec = Jvm.exec) (hb : c.code = cc) (hr : meth.sig.returnType = some .int) (hlocks : meth.locks = false) (hrr : r = .inl (.int v)) (hP : va_P Z.1 vwCl w' H) (hS : va_S (zA w) s.heap H locs) (hdg : decode cc pc = .ok (.ireturn, 1)) :
    W p l e R s m args below meth c H locs 0 0 (vx_MQ below (zQx Z w w' r) (zXx Z w w' r) args s 1 6 (zA w)) (F0 m pc ls [.int v]) :=
  vx_ret (W.widen (Nat.zero_le _) (Nat.zero_le _) (W.iret hx hb hr (fun t ht hW => ⟨⟨_, hrr, rfl⟩, by rw [ht]; exact hP, hS.F ht⟩) hS.2.2 hdg hlocks))
theorem z_throw {ik ic is : Nat} {cls text : String} (hq : (ik, ic, cls) ∈ zXc) (hst : (is, text) ∈ zStr) (hx : p.tables.exec = Jvm.exec) (hb : c.code = cc) (hlt : l.stackTraces = false) (hown : s.vm.findClass RX6 = some m.cls) (hts : ∀ w ∈ zG, w.before args s = true) (hT : zTh sa (zA w) s s.heap) (hnt : ∀ x ∈ c.exceptionTable.toList, False) (hlocks : meth.locks = false)
    (hk : Cond.classLink RX6 ik cls ∈ zG) (hini : Cond.initialized cls ∈ zG) (hS : va_S (zA w) s.heap H locs) (hsz : ls.size = c.maxLocals) (hrr : r = .inr cls) (hP : va_P Z.1 vwCl w' H)
    (hR : (6 ≤ R.frames ∧ 82 ≤ R.locals) ∧ 1 ≤ R.cells ∧ 6 ≤ R.slots)
    (d0 : decode cc pc = .ok (.new ik, 3)) (d3 : decode cc (pc + 3) = .ok (.dup, 1)) (d4 : decode cc (pc + 4) = .ok (.ldc is, 2)) (d6 : decode cc (pc + 6) = .ok (.invokespecial ic, 3)) (d9 : decode cc (pc + 9) = .ok (.athrow, 1)) :
    W p l e R s m args below meth c H locs 0 0 (vx_MQ below (zQx Z w w' r) (zXx Z w w' r) args s 1 6 (zA w)) (F0 m pc ls []) := by
  have hat : ∀ w ∈ vx_atS RX6 ic cls zXn, w.before args s = true := fun w hw => vx_ot_at (State.WarmedH.refl s) rfl (zXc_ot _ hq w hw) (hT.2.1 _ hq w hw)
  have hgood : ∀ w ∈ Cond.classLink RX6 ik cls :: Cond.initialized cls :: vx_atS RX6 ic cls zXn, vx_ot w = true := by
    intro w hw
    rcases List.mem_cons.mp hw with h | hw
    · subst h; rfl
    · rcases List.mem_cons.mp hw with h | hw
      · subst h; rfl
      · exact zXc_ot _ hq w hw
  have hcls : Bundle.fit cls = true := by
    have h : (zXc.all fun q => Bundle.fit q.2.2) = true := by decide +kernel
    exact List.all_eq_true.mp h _ hq
  have hnm : ∀ n ∈ zXn, Bundle.fit n = true := by
    have h : (zXn.all fun q => Bundle.fit q) = true := by decide +kernel
    exact fun n hn => List.all_eq_true.mp h n hn
  exact vx_throwS (own := RX6) (names := zXn) (rest := []) (A := zA w) hx hb hlt hown hcls hnm (hts _ hk) (hts _ hini) (hT.1 _ hst) hat hgood hT.2.2.1 hT.2.2.2 hS hsz d0 d3 d4 d6 d9 (fun x h => (hnt x h).elim)
    (show 2 + 3 < R.frames by omega) (show 0 + (13 * (2 + 1) + 43) ≤ R.locals by omega) (by omega) (by omega) hlocks
    (fun t hA hz hk9 => ⟨hrr, hP.kept fun k q hq => hk9 q.1 (hP k q hq).lt, Nat.le_trans hS.1 hz, fun q h1 h2 => by rw [hk9 q (Nat.lt_of_lt_of_le h1 hS.1)]; exact hS.2.1 q h1 h2⟩) hS.2.2 (Nat.le_refl _) (Nat.le_refl _)
end ZX
