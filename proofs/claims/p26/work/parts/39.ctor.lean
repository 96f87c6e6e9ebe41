-- constructors: contracts of methods that make things
abbrev w_Obj (q ci : Nat) (fs : List Value) : va_W := [(q, .inr (ci, fs))]
abbrev w_ArrL (cL : ClassId) (n q : Nat) (f : Nat → Int64) : va_W := [(q, .inl (cL, n, .inr (.inl f)))]
abbrev w_ArrQ (cS : ClassId) (n q : Nat) (f : Nat → Option Nat) : va_W := [(q, .inl (cS, n, .inr (.inr (.inr (.inr f)))))]
def zA0 (h : Nat) (u : Nat → Nat) : Nat → Nat
  | 0 => h
  | k + 1 => u k
def zi (L : List Nat) : Nat → Nat := fun k => L.getD k 0
def zPin (Z : zZ) (w : va_W) (sz : Nat) (av : List Value) : Array Value → State → Prop := va_Pc av (fun U => U.heap.size = sz ∧ va_P Z.1 vwCl w U.heap ∧ zK Z U ∧ va_D (fun _ => True) w ∧ va_AO RX5 U)
def zQin {α : Type} (Z : zZ) (w : va_W) (sz : Nat) (W' : α → va_W) : Array Value → State → Outcome → State → Prop := fun _ st oc t => (∃ u : α, oc = .returned none ∧ va_P Z.1 vwCl (W' u) t.heap ∧ va_D (va_A w sz) (W' u)) ∧ va_F (va_A w sz) st t
/-- a constructor: the world w becomes W' u, what is new in it lies behind sz -/
def zIN {α : Type} (l : Launch) (y : MethodName) (ws : List Cond) (rm : Room) (Z : zZ) (sz : Nat) (av : List Value) (w : va_W) (W' : α → va_W) (mc ms : Nat) : Prop := Met l y ws rm (zPin Z w sz av) (zQin Z w sz W') mc ms (va_A w sz)
theorem zPin_blind {Z : zZ} {w : va_W} {sz : Nat} {av : List Value} : FrameBlind (zPin Z w sz av) := fun a U g mk h => ⟨h.1, h.2.1, h.2.2.1, h.2.2.2.1.same rfl, h.2.2.2.2.1, va_AO.moved (u := U) (Vm.Alike.refl U.vm) h.2.2.2.2.2⟩
theorem zIN_of {α : Type} {l : Launch} {y : MethodName} {cc : ByteArray} {maxL : Nat} {rm : Room} {Z : zZ} {sz : Nat} {av : List Value} {w : va_W} {W' : α → va_W} {mc ms : Nat} (hy : plainName y.cls = true) (hyn : y.name = "<init>") (hn : (lg_sl av).length ≤ maxL)
    (body : ∀ (p : Program) (e : Env) (s : State) (m : MethodId) (below : List Frame) (meth : Method) (c : Code), p.tables.exec = Jvm.exec → c.code = cc → meth.sig.returnType = none → c.maxLocals = maxL → s.vm.findClass y.cls = some m.cls → (∀ w ∈ zG, w.before av.toArray s = true) → meth.locks = false → meth.name = "<init>" → zK Z s → va_AO RX5 s →
      ∀ A, A = va_A w sz → (∀ q, s.heap.size ≤ q → A q) → ∀ Q, Q = MQ below (zQin Z w sz W') av.toArray s mc ms A → ∀ ls, lv_has ls maxL (lv_args 0 av) → va_P Z.1 vwCl w s.heap → va_D A w → va_S A s.heap s.heap [] → W p l e rm s m av.toArray below meth c s.heap [] 0 0 Q (F0 m 0 ls [])) : zIN l y (zw y cc maxL none) rm Z sz av w W' mc ms := by
  refine Met.ofW (cc := cc) (maxL := maxL) (ret := none) hy rfl ?_
  intro p e s m args below meth c s₁ B hml hv
  obtain ⟨rfl, hsz, hP, hK, hD, hO⟩ := hv
  have hts := atoms_spec (ws := zw y cc maxL none) B.pre
  have hl := lv_entry av (n := maxL) hn
  rw [lg_entry_eq]
  exact body p e s m below meth c B.exec B.bytes B.returns hml (findClass_of_methodNamed B.named) (fun w h => hts w (List.mem_cons_of_mem _ h)) B.notSynchronized ((name_of_methodNamed B.named B.method).1.trans hyn) hK hO _ rfl (fun q h => Or.inr (by rw [← hsz]; exact h)) _ rfl _ hl hP hD.self va_S.rf
theorem zap1 (L : List va_W) (x : Nat × va_E) : L.flatten ++ [x] = (L ++ [[x]]).flatten := by simp
section ZI
variable {p : Program} {l : Launch} {e : Env} {R : Room} {s : State} {m : MethodId} {args : Array Value} {below : List Frame} {meth : Method} {c : Code} {H : Heap} {locs : List Loc} {cells slots : Nat} {Q : State → Prop}
variable {cc : ByteArray} {pc : Nat} {ls : Array Slot} {rest st0 : List Value} {A : Nat → Prop} {H0 : Heap} {Z : zZ} {L L' : List va_W} {a : Nat}
theorem z_vretI {α : Type} {w : va_W} {sz mc ms : Nat} {W' : α → va_W} (u : α) (hx : p.tables.exec = Jvm.exec) (hb : c.code = cc) (hr : meth.sig.returnType = none) (hlocks : meth.locks = false) (hW : W' u = L.flatten) (hP : va_P Z.1 vwCl L.flatten H) (hD : va_D (va_A w sz) L.flatten) (hS : va_S (va_A w sz) s.heap H locs) (h1 : cells ≤ mc) (h2 : slots ≤ ms) (hdg : decode cc pc = .ok (.return_, 1)) :
    W p l e R s m args below meth c H locs cells slots (MQ below (zQin Z w sz W') args s mc ms (va_A w sz)) (F0 m pc ls []) :=
  W.widen h1 h2 (W.vret hx hb hr (fun t ht hW9 => ⟨⟨u, rfl, by rw [ht, hW]; exact hP, by rw [hW]; exact hD⟩, hS.F ht⟩) hS.2.2 hdg hlocks)
theorem z_new (hx : p.tables.exec = Jvm.exec) (hb : c.code = cc) {own C : String} {T : u_T} {N ci index : Nat} (hts : ∀ w ∈ zG, w.before args s = true) (hin : ∀ w ∈ u_ws C T N, w ∈ zG) (ty : Nat → FieldType) (hty : ∀ k, k < N → parseFieldDescriptor (T k).2.2.1 = some (ty k)) (hown : s.vm.findClass own = some m.cls) (hcl : Cond.classLink own index C ∈ zG) (hinst : Cond.instantiable C N ∈ zG) (hini : Cond.initialized C ∈ zG)
    (hK : zK Z s) (hP : va_P Z.1 vwCl L.flatten H) (hD : va_D A L.flatten) (hS : va_S A H0 H locs) (hA : ∀ q, H0.size ≤ q → A q) (hc : vwCl[ci]? = some (C, T, N)) {fs : List Value} (hfs : ∀ j, j < N → defaultValue (ty j) = vp_V fs j) (hcells : cells + 1 ≤ R.cells) (hslots : slots + N ≤ R.slots) (hdg : decode cc pc = .ok (.new index, 3)) (hd3 : decode cc (pc + 3) = .ok (.dup, 1))
    (kk : ∀ (q : Nat) (H : Heap), va_P Z.1 vwCl (L ++ [w_Obj q ci fs]).flatten H → va_D A (L ++ [w_Obj q ci fs]).flatten → va_S A H0 H locs →
      W p l e R s m args below meth c H locs (cells + 1) (slots + N) Q (F0 m (pc + 4) ls (.ref q :: .ref q :: rest))) : W p l e R s m args below meth c H locs cells slots Q (F0 m pc ls rest) := by
  refine va_new (D := Z.1) (cl := vwCl) hx hb hts hin ty hty hown (hts _ hcl) (hts _ hinst) (hts _ hini) hK.1 hP hD hS hA hc hfs hcells hslots hdg (fun q H1 h1 h2 h3 => ?_)
  rw [zap1] at h1 h2
  exact lv_dup hx hb hd3 rfl (kk q H1 h1 h2 h3)
theorem z_init {α : Type} {w : va_W} {W' : α → va_W} {mc ms : Nat} {a : Array Value} (hr : va_Run p l e R s m args below meth c H locs cells slots mc ms (F0 m pc ls st0) rest (zQin Z w H.size W' a) (va_A w H.size)) (hP : va_P Z.1 vwCl (L ++ [w]).flatten H) (hD : va_D A (L ++ [w]).flatten) (hS : va_S A H0 H locs) (hA : ∀ q, H0.size ≤ q → A q)
    (kk : ∀ (u : α) (H : Heap) (locs : List Loc), va_P Z.1 vwCl (L ++ [W' u]).flatten H → va_D A (L ++ [W' u]).flatten → va_S A H0 H locs → W p l e R s m args below meth c H locs (cells + mc) (slots + ms) Q (F0 m (pc + 3) ls rest)) : W p l e R s m args below meth c H locs cells slots Q (F0 m pc ls st0) := by
  have efl : ∀ x : va_W, (L ++ [x]).flatten = L.flatten ++ x := fun x => by simp
  rw [efl] at hP hD
  have hw : ∀ q, va_A w H.size q → A q := by
    intro q h
    rcases h with ⟨k, e9, hk⟩ | h
    · exact (zD_right hD).2 k _ hk
    · exact hA q (Nat.le_trans hS.1 h)
  intro T hT X
  obtain ⟨v', st₀, t, T', Lc, h0, X', hL, e1, e2, ⟨⟨u, hv, hp, hd⟩, hz, hk⟩, st⟩ := hr T hT X
  cases hv
  rw [h0] at hz hk
  have hk' : ∀ q : Nat, q < H.size → ¬ va_A w H.size q → T'.heap[q]? = H[q]? := fun q h h2 => by rw [e1]; exact hk q h h2
  have hne : ∀ q ∈ L.flatten, q.1 < H.size ∧ ¬ va_A w H.size q.1 := by
    intro q hq
    have hlt := (zP_mem.mp hP q (List.mem_append_left _ hq)).lt
    refine ⟨hlt, fun h => ?_⟩
    rcases h with ⟨k, e9, hk9⟩ | h
    · exact zD_ne hD hq (List.mem_of_getElem? hk9) rfl
    · exact absurd hlt (Nat.not_lt.mpr h)
  obtain ⟨t2, a1, b1⟩ := kk u T'.heap (locs ++ Lc)
    (by
      rw [efl]
      refine zP_mem.mpr fun q hq => ?_
      rcases List.mem_append.mp hq with h | h
      · exact (zP_mem.mp hP q (List.mem_append_left _ h)).kept (hk' q.1 (hne q h).1 (hne q h).2)
      · rw [e1]; exact zP_mem.mp hp q h)
    (by
      rw [efl]
      refine zD_two (zD_left hD) (hd.weaken fun k q hq9 h => hw _ h) (fun q hq r hr9 e9 => ?_)
      obtain ⟨j, hj⟩ := List.getElem?_of_mem hr9
      exact (hne q hq).2 (by rw [e9]; exact hd.2 j r hj))
    ⟨Nat.le_trans hS.1 (by rw [e1]; exact hz), fun q h1 h2 => by rw [hk' q (Nat.lt_of_lt_of_le h1 hS.1) (fun z => h2 (hw q z))]; exact hS.2.1 q h1 h2, fun q hq => by
      rcases List.mem_append.mp hq with h | h
      · exact hS.2.2 q h
      · exact hw _ (hL q h)⟩ T' rfl X'
  exact ⟨t2, st t2 a1, b1⟩
theorem z_putF (hx : p.tables.exec = Jvm.exec) (hb : c.code = cc) {own ref C : String} {T : u_T} {N ci index : Nat} {Ts : List Cond} (hts : ∀ w ∈ Ts, w.before args s = true) (hin : ∀ w ∈ u_ws C T N, w ∈ Ts) (ty0 : Nat → FieldType) (hty : ∀ k, k < N → parseFieldDescriptor (T k).2.2.1 = some (ty0 k)) (hnm : ∀ a, a < N → ∀ b, b < N → a ≠ b → (T a).2.1 ≠ (T b).2.1) (hown : s.vm.findClass own = some m.cls) (hK : zK Z s) (hP : va_P Z.1 vwCl L.flatten H) (hD : va_D A L.flatten) (hS0 : va_S A H0 H locs) (i : Nat) {fs : List Value} (he : L[i]? = some [(a, .inr (ci, fs))]) (hc : vwCl[ci]? = some (C, T, N)) (k : Nat) (hk : k < N) (hlink : (Cond.fieldLink own index ref (T k).2.1 (T k).2.2.1).before args s = true) (hsame : ∀ x, s.fieldFound? (T k).1 (T k).2.1 (T k).2.2.1 = some x → s.fieldFound? ref (T k).2.1 (T k).2.2.1 = some x) (hfin : (T k).2.2.2 = true) (hin2 : meth.name = "<init>") (hdecl : (T k).1 = own) {ty : FieldType} {v : Value} (hd : parseFieldDescriptor (T k).2.2.1 = some ty) (hn : narrow ty v = v) (hfit : fits ty v = true) (hl : k < fs.length) (hL : L.set i [(a, .inr (ci, fs.set k v))] = L')
    (hdg : decode cc pc = .ok (.putfield index, 3)) (kk : ∀ (H1 : Heap) (locs1 : List Loc), va_P Z.1 vwCl L'.flatten H1 → va_D A L'.flatten → va_S A H0 H1 locs1 → W p l e R s m args below meth c H1 locs1 cells slots Q (F0 m (pc + 3) ls rest)) : W p l e R s m args below meth c H locs cells slots Q (F0 m pc ls (v :: .ref a :: rest)) := by
  subst hL
  refine va_putF (D := Z.1) (cl := vwCl) hx hb hts hin ty0 hty hnm hown hK.1 hP hD hS0 _ (zflat_at he) hc k hk hlink hsame hfin hin2 hdecl hd hn hfit hl hdg (fun H1 l1 h1 h2 h3 => ?_)
  rw [zflat_set he] at h1 h2
  exact kk H1 l1 h1 h2 h3
theorem z_newarr {n : Int32} {N' : Nat} (hx : p.tables.exec = Jvm.exec) (hb : c.code = cc) (harr : (Cond.arrayClass .int).before args s = true) (hK : zK Z s) (hP : va_P Z.1 vwCl L.flatten H) (hD : va_D A L.flatten) (hS : va_S A H0 H locs) (hA : ∀ q, H0.size ≤ q → A q) (hn : ¬ n < 0) (hN : n.toNatClampNeg = N') (hbytes : N' * 4 ≤ 536870912) (hcells : cells + 1 ≤ R.cells) (hslots : slots + N' ≤ R.slots) (hdg : decode cc pc = .ok (.newarray .int, 2))
    (kk : ∀ (q : Nat) (H : Heap), va_P Z.1 vwCl (L ++ [w_Arr Z.2.1 N' q (fun _ => 0)]).flatten H → va_D A (L ++ [w_Arr Z.2.1 N' q (fun _ => 0)]).flatten → va_S A H0 H locs →
      W p l e R s m args below meth c H locs (cells + 1) (slots + N') Q (F0 m (pc + 2) ls (.ref q :: rest))) : W p l e R s m args below meth c H locs cells slots Q (F0 m pc ls (.int n :: rest)) := by
  refine va_newa (D := Z.1) (cl := vwCl) (atype := .int) (ty := .int) (a0 := (N', .inl fun _ => 0)) hx hb harr rfl hK.1 hP hD hS hA (fun cA => rfl) hn hN hbytes hcells hslots hdg (fun q cA H1 k1 h1 h2 h3 => ?_)
  have e1 : s.vm.findClass ("[" ++ FieldType.int.toString) = some cA := (k1.2 2 (cA, .int) rfl).2
  have e2 : s.vm.findClass ("[" ++ FieldType.int.toString) = some Z.2.1 := (hK.1.2 0 (Z.2.1, .int) rfl).2
  cases Option.some.inj (e1.symm.trans e2)
  rw [zap1] at h1 h2
  exact kk q H1 h1 h2 h3
theorem z_newq {own : String} {index : Nat} {n : Int32} {N' : Nat} (hx : p.tables.exec = Jvm.exec) (hb : c.code = cc) (hown : s.vm.findClass own = some m.cls) (hcl : (Cond.classLink own index RX5).before args s = true) (hO : va_AO RX5 s) (hK : zK Z s) (hP : va_P Z.1 vwCl L.flatten H) (hD : va_D A L.flatten) (hS : va_S A H0 H locs) (hA : ∀ q, H0.size ≤ q → A q) (hn : ¬ n < 0) (hN : n.toNatClampNeg = N') (hbytes : N' * 4 ≤ 536870912) (hcells : cells + 1 ≤ R.cells) (hslots : slots + N' ≤ R.slots) (hdg : decode cc pc = .ok (.anewarray index, 3))
    (kk : ∀ (q : Nat) (H : Heap), va_P Z.1 vwCl (L ++ [w_ArrQ Z.2.2.1 N' q (fun _ => none)]).flatten H → va_D A (L ++ [w_ArrQ Z.2.2.1 N' q (fun _ => none)]).flatten → va_S A H0 H locs →
      W p l e R s m args below meth c H locs (cells + 1) (slots + N') Q (F0 m (pc + 3) ls (.ref q :: rest))) : W p l e R s m args below meth c H locs cells slots Q (F0 m pc ls (.int n :: rest)) := by
  refine va_newq (D := Z.1) (cl := vwCl) (C := RX5) hx hb hown hcl hO hK.1 hP hD hS hA hn hN hbytes hcells hslots hdg (fun q cA H1 k1 h1 h2 h3 => ?_)
  obtain ⟨-, -, -, -, -, e1⟩ : va_RA s cA (.object RX5) := (k1.2 2 (cA, .object RX5) rfl).2
  obtain ⟨-, -, -, -, -, e2⟩ : va_RA s Z.2.2.1 (.object RX5) := (hK.1.2 1 (Z.2.2.1, .object RX5) rfl).2
  cases Option.some.inj (e1.symm.trans e2)
  rw [zap1] at h1 h2
  exact kk q H1 h1 h2 h3
theorem z_astq {f : Nat → Option Nat} {n v : Nat} (i : Nat) (ha : L[i]? = some [(a, .inl (Z.2.2.1, n, .inr (.inr (.inr (.inr f)))))]) {vs : List Value} (hv : (v, (Sum.inr (5, vs) : va_E)) ∈ L.flatten) (hx : p.tables.exec = Jvm.exec) (hb : c.code = cc) (hK : zK Z s) (hP : va_P Z.1 vwCl L.flatten H) (hD : va_D A L.flatten) (hS : va_S A H0 H locs) {j : Int32} (hin : vp_in j n) (hL : L.set i [(a, .inl (Z.2.2.1, n, .inr (.inr (.inr (.inr (va_up f j.toNatClampNeg (some v)))))))] = L') (hdg : decode cc pc = .ok (.aastore, 1))
    (kk : ∀ (H1 : Heap) (locs1 : List Loc), va_P Z.1 vwCl L'.flatten H1 → va_D A L'.flatten → va_S A H0 H1 locs1 → W p l e R s m args below meth c H1 locs1 cells slots Q (F0 m (pc + 1) ls rest)) : W p l e R s m args below meth c H locs cells slots Q (F0 m pc ls (.ref v :: .int j :: .ref a :: rest)) := by
  subst hL
  obtain ⟨qk, hq⟩ := List.getElem?_of_mem hv
  refine va_astq (D := Z.1) (cl := vwCl) (r := (RX5, TX5, 10)) hx hb hK.1 hP hD hS _ 1 qk 5 (zflat_at ha) rfl hq rfl hin hdg (fun H1 l1 h1 h2 h3 => ?_)
  rw [zflat_set ha] at h1 h2
  exact kk H1 l1 h1 h2 h3
def zIt (y : MethodName) (cc : ByteArray) (maxL n : Nat) : Prop := Cond.instanceMethod y ∈ zG ∧ Cond.initialized y.cls ∈ zG ∧ Cond.code y cc maxL none ∈ zG ∧ y.name = "<init>" ∧ (y.cls ≠ "java/lang/invoke/MethodHandle" ∧ y.cls ≠ "java/lang/invoke/VarHandle" ∧ (parseMethodDescriptor y.desc).map (fun d => d.parameters.length) = some n)
variable {y : MethodName} {bytes : ByteArray} {maxL nL n index mc ms : Nat} {rm : Room} {own : String} {b : Addr} {As : List Value}
theorem z_rI {α : Type} {w : va_W} {W' : α → va_W} (hx : p.tables.exec = Jvm.exec) (hb : c.code = cc) (hml : c.maxLocals = nL) (hown : s.vm.findClass own = some m.cls) (hts : ∀ w ∈ zG, w.before args s = true) (hv : zIt y bytes maxL n) (hM : zIN l y (zw y bytes maxL none) rm Z H.size (.ref b :: As) w W' mc ms) (hrc : rm.cells = mc) (hrs : rm.slots = ms) (hR : rm.frames + 1 ≤ R.frames ∧ 8 + (maxL + 11) + rm.locals ≤ R.locals) (hl : Cond.methodLink own index y ∈ zG)
    (hK : zK Z s) (hO : va_AO RX5 s) (hP : va_P Z.1 vwCl w H) (hD : va_D A w) (hn : As.length = n) (hls : ls.size = nL) (hW : (rest.map fun v => v.category).sum ≤ 8) (hdg : decode cc pc = .ok (.invokespecial index, 3)) (hf : cells + mc ≤ R.cells ∧ slots + ms ≤ R.slots) :
    va_Run p l e R s m args below meth c H locs cells slots mc ms (F0 m pc ls (As.reverse ++ .ref b :: rest)) rest (zQin Z w H.size W' (Value.ref b :: As).toArray) (va_A w H.size) :=
  va_runI (As := As) (rest := rest) ⟨hx, hb, hml, hown, hts⟩ hM (cwI n hts (z_goodC hv.2.2.1) rfl hrc hrs (hts _ hv.2.1) (hts _ hl) (hts _ hv.1) hv.2.2.2.1 hv.2.2.2.2 hR) ⟨zPin_blind, fun U hU hW => ⟨rfl, by rw [hU], by rw [hU]; exact hP, hK.warm hW, hD.weaken (fun _ _ _ _ => trivial), va_AO.moved hW.alike hO⟩⟩ rfl hn hls rfl (lv_room hW) hdg hf
theorem z_rIN {α : Type} {host : String} {w : va_W} {W' : α → va_W} (hx : p.tables.exec = Jvm.exec) (hb : c.code = cc) (hml : c.maxLocals = nL) (hown : s.vm.findClass own = some m.cls) (hts : ∀ w ∈ zG, w.before args s = true) (hv : zIt y bytes maxL n) (hM : zIN l y (zw y bytes maxL none) rm Z H.size (.ref b :: As) w W' mc ms) (hrc : rm.cells = mc) (hrs : rm.slots = ms) (hR : rm.frames + 1 ≤ R.frames ∧ 8 + (maxL + 11) + rm.locals ≤ R.locals) (hl : va_Nw (.methodLinkNest own index y host) s)
    (hK : zK Z s) (hO : va_AO RX5 s) (hP : va_P Z.1 vwCl w H) (hD : va_D A w) (hn : As.length = n) (hls : ls.size = nL) (hW : (rest.map fun v => v.category).sum ≤ 8) (hdg : decode cc pc = .ok (.invokespecial index, 3)) (hf : cells + mc ≤ R.cells ∧ slots + ms ≤ R.slots) :
    va_Run p l e R s m args below meth c H locs cells slots mc ms (F0 m pc ls (As.reverse ++ .ref b :: rest)) rest (zQin Z w H.size W' (Value.ref b :: As).toArray) (va_A w H.size) :=
  va_runIN (As := As) (rest := rest) ⟨hx, hb, hml, hown, hts⟩ hM ⟨va_cnB n hts (z_goodC hv.2.2.1) rfl hrc hrs hl (hts _ hv.2.1) hv.2.2.2.2 hR, hv.2.2.2.1, hts _ hv.1⟩ ⟨zPin_blind, fun U hU hW => ⟨rfl, by rw [hU], by rw [hU]; exact hP, hK.warm hW, hD.weaken (fun _ _ _ _ => trivial), va_AO.moved hW.alike hO⟩⟩ rfl hn hls rfl (lv_room hW) hdg hf
end ZI
