-- the law's own body: rows
section LB
variable {p : Program} {l : Launch} {e : Env} {R : Room} {s : State} {m : MethodId} {args : Array Value} {below : List Frame} {meth : Method} {c : Code} {H : Heap} {locs : List Loc} {cells slots : Nat} {Q : State → Prop}
variable {cc : ByteArray} {pc : Nat} {ls : Array Slot} {rest st0 : List Value} {a : Array Value} {A0 : Nat → Prop} {H0 : Heap} {Z : zZ} {sa : Nat → Nat} {L L' : List va_W}
/-- a number of the script: five instructions -/
theorem z_rd {b N : Nat} {xs : Nat → Int32} {i v q : Int32} {n : Int} {nL i0 i4 : Nat} {lv : List (Nat × Value)} (hx : p.tables.exec = Jvm.exec) (hb : c.code = cc) (hX : va_X b N xs s H0) (hbl : b < H0.size) (hbA : ¬ A0 b) (hS : va_S A0 H0 H locs) (hl : lv_has ls nL lv) (e0 : lv[i0]? = some (0, .ref b)) (e4 : lv[i4]? = some (4, .int i)) (hv : Int32.ofInt n = v) (hin : vp_in (i + v) N) (hq : xs (i + v).toNatClampNeg = q)
    (d0 : decode cc pc = .ok (.aload_n 0, 1)) (d1 : decode cc (pc + 1) = .ok (.iload 4, 2)) (d3 : decode cc (pc + 1 + 2) = .ok (.iconst n, 1)) (d4 : decode cc (pc + 1 + 2 + 1) = .ok (.iadd, 1)) (d5 : decode cc (pc + 1 + 2 + 1 + 1) = .ok (.iaload, 1))
    (k : W p l e R s m args below meth c H locs cells slots Q (F0 m (pc + 6) ls (.int q :: rest))) : W p l e R s m args below meth c H locs cells slots Q (F0 m pc ls rest) := by
  subst hq
  refine lv_aload_n hx hb d0 rfl (lv_at hl i0 e0) ?_
  refine lv_iload hx hb d1 (lv_at hl i4 e4) ?_
  refine lv_iconst hx hb d3 hv ?_
  refine lv_iadd hx hb d4 ?_
  exact va_sld hx hb hX hbl hbA hS hin d5 k
/-- behind a call that may have written in two regions, and may have made things that it left -/
theorem z_muG {wc w1 : va_W} {mc ms : Nat} {v : Option Value} (hr : va_Run p l e R s m args below meth c H locs cells slots mc ms (F0 m pc ls st0) rest (zQmu Z wc w1 v a) (zA wc)) (hS : va_S A0 H0 H locs) (hc : ∀ q, zA wc q → A0 q)
    (hj : ∀ H1 : Heap, (∀ q : Nat, q < H.size → ¬ zA wc q → H1[q]? = H[q]?) → va_P Z.1 vwCl w1 H1 → va_P Z.1 vwCl L'.flatten H1 ∧ va_D A0 L'.flatten)
    (kk : ∀ (H1 : Heap) (locs1 : List Loc), va_P Z.1 vwCl L'.flatten H1 → va_D A0 L'.flatten → va_S A0 H0 H1 locs1 → W p l e R s m args below meth c H1 locs1 (cells + mc) (slots + ms) Q (F0 m (pc + 3) ls (v.toList ++ rest))) : W p l e R s m args below meth c H locs cells slots Q (F0 m pc ls st0) := by
  intro T hT X
  obtain ⟨v', st₀, t, T', Lc, h0, X', hL, e1, e2, ⟨hv, hp, hz, hk⟩, st⟩ := hr T hT X
  cases hv
  rw [h0] at hz hk
  have hk' : ∀ q : Nat, q < H.size → ¬ zA wc q → T'.heap[q]? = H[q]? := fun q h h2 => by rw [e1]; exact hk q h h2
  obtain ⟨hP1, hD1⟩ := hj T'.heap hk' (by rw [e1]; exact hp)
  obtain ⟨t2, a1, b1⟩ := kk T'.heap (locs ++ Lc) hP1 hD1
    ⟨Nat.le_trans hS.1 (by rw [e1]; exact hz), fun q h1 h2 => by rw [hk' q (Nat.lt_of_lt_of_le h1 hS.1) (fun z => h2 (hc q z))]; exact hS.2.1 q h1 h2, fun q hq => by
      rcases List.mem_append.mp hq with h | h
      · exact hS.2.2 q h
      · exact hc _ (hL q h)⟩ T' rfl X'
  exact ⟨t2, st t2 a1, b1⟩
theorem z_mu2i {wa wb a1 b1 : va_W} {x : Int32} (hr : va_Run p l e R s m args below meth c H locs cells slots 1 6 (F0 m pc ls st0) rest (zQmu Z (List.flatten [wa, wb]) (List.flatten [a1, b1]) (some (.int x)) a) (zA (List.flatten [wa, wb]))) (hS : va_S A0 H0 H locs) (hP : va_P Z.1 vwCl L.flatten H) (hD : va_D A0 L.flatten) (i j : Nat) (hi : L[i]? = some wa) (hj : L[j]? = some wb) (hn : i ≠ j) (hL : (L.set i a1).set j b1 = L') (ea : a1.map (·.1) = wa.map (·.1)) (eb : b1.map (·.1) = wb.map (·.1))
    (kk : ∀ (H1 : Heap) (locs1 : List Loc), va_P Z.1 vwCl L'.flatten H1 → va_D A0 L'.flatten → va_S A0 H0 H1 locs1 → W p l e R s m args below meth c H1 locs1 (cells + 1) (slots + 6) Q (F0 m (pc + 3) ls (.int x :: rest))) : W p l e R s m args below meth c H locs cells slots Q (F0 m pc ls st0) := by
  have e1 : List.flatten [wa, wb] = wa ++ wb := by simp
  have e2 : List.flatten [a1, b1] = a1 ++ b1 := by simp
  rw [e1, e2] at hr
  exact z_muG hr hS (z_zA (zD_reg2 hD i j hi hj hn)) (fun _ hk hp => z_set2 hP hD i j hi hj hn hL ea eb hk hp) kk
/-- behind a call of a method that makes things -/
theorem z_mk1 {wc w1 : va_W} {mc ms : Nat} {v : Option Value} (hr : va_Run p l e R s m args below meth c H locs cells slots mc ms (F0 m pc ls st0) rest (zQmk Z wc H.size w1 v a) (va_A wc H.size)) (hS : va_S A0 H0 H locs) (hA : ∀ q, H0.size ≤ q → A0 q) (hP : va_P Z.1 vwCl L.flatten H) (hD : va_D A0 L.flatten) (i : Nat) (hi : L[i]? = some wc) (hL : L.set i w1 = L') (ha : w1.map (·.1) = wc.map (·.1))
    (kk : ∀ (H1 : Heap) (locs1 : List Loc), va_P Z.1 vwCl L'.flatten H1 → va_D A0 L'.flatten → va_S A0 H0 H1 locs1 → W p l e R s m args below meth c H1 locs1 (cells + mc) (slots + ms) Q (F0 m (pc + 3) ls (v.toList ++ rest))) : W p l e R s m args below meth c H locs cells slots Q (F0 m pc ls st0) := by
  have hw : ∀ q, va_A wc H.size q → A0 q := by
    intro q h
    rcases h with ⟨k, e9, hk⟩ | h
    · exact (zD_one hD i wc hi).2 k _ hk
    · exact hA q (Nat.le_trans hS.1 h)
  intro T hT X
  obtain ⟨v', st₀, t, T', Lc, h0, X', hL9, e1, e2, ⟨hv, hp, hz, hk⟩, st⟩ := hr T hT X
  cases hv
  rw [h0] at hz hk
  have hk' : ∀ q : Nat, q < H.size → ¬ zA wc q → T'.heap[q]? = H[q]? := fun q h h2 => by
    rw [e1]
    refine hk q h (fun h3 => ?_)
    rcases h3 with ⟨k, e9, hk9⟩ | h3
    · exact h2 (List.mem_map.mpr ⟨_, List.mem_of_getElem? hk9, rfl⟩)
    · exact absurd h (Nat.not_lt.mpr h3)
  obtain ⟨hP1, hD1⟩ := z_set1 hP hD i hi hL ha hk' (by rw [e1]; exact hp)
  obtain ⟨t2, a1, b1⟩ := kk T'.heap (locs ++ Lc) hP1 hD1
    ⟨Nat.le_trans hS.1 (by rw [e1]; exact hz), fun q h1 h2 => by rw [e1, hk q (Nat.lt_of_lt_of_le h1 hS.1) (fun z => h2 (hw q z))]; exact hS.2.1 q h1 h2, fun q hq => by
      rcases List.mem_append.mp hq with h | h
      · exact hS.2.2 q h
      · exact hw _ (hL9 q h)⟩ T' rfl X'
  exact ⟨t2, st t2 a1, b1⟩
/-- behind a call of a method that may draw -/
theorem z_md {wc w1 : va_W} {x : UInt64} {d0 : Drawn} (hd0 : s.drawn.sameBut d0 lw_cs) (hr : va_RunD lw_cs p l e R (s.setDrawn d0) m args below meth c H locs cells slots 0 0 (F0 m pc ls st0) rest (va_Qd (fun (r : UInt64) (_ : Unit) => alike64 r x = true) (fun _ t => va_P Z.1 vwCl w1 t.heap) (zA wc) a) (zA wc)) (hS : va_S A0 H0 H locs) (hP : va_P Z.1 vwCl L.flatten H) (hD : va_D A0 L.flatten) (i : Nat) (hi : L[i]? = some wc) (hL : L.set i w1 = L') (ha : w1.map (·.1) = wc.map (·.1))
    (kk : ∀ (r : UInt64) (d1 : Drawn) (H1 : Heap) (locs1 : List Loc), alike64 r x = true → s.drawn.sameBut d1 lw_cs → va_P Z.1 vwCl L'.flatten H1 → va_D A0 L'.flatten → va_S A0 H0 H1 locs1 → W p l e R (s.setDrawn d1) m args below meth c H1 locs1 cells slots Q (F0 m (pc + 3) ls (.double r :: rest))) : W p l e R (s.setDrawn d0) m args below meth c H locs cells slots Q (F0 m pc ls st0) := by
  have hc := z_zA (zD_one hD i wc hi)
  refine va_calldD hd0 hr hS (fun q _ h => hc q h) hc (fun r u t H1 locs1 ht hvm hal hB hz1 hk1 hS d1 hd1 => ?_)
  obtain ⟨hP1, hD1⟩ := z_set1 hP hD i hi hL ha hk1 (by rw [← ht]; exact hB)
  exact kk r d1 H1 locs1 hal hd1 hP1 hD1 hS
variable {y : MethodName} {bytes : ByteArray} {maxL nL n index mc ms : Nat} {ret : Option FieldType} {rm : Room} {own : String} {b : Addr} {As : List Value} {hh : List (Nat × Nat × Nat × Nat)}
def zHt (y : MethodName) (cc : ByteArray) (maxL : Nat) (hh : List (Nat × Nat × Nat × Nat)) (n : Nat) : Prop := Cond.static y ∈ zG ∧ Cond.initialized y.cls ∈ zG ∧ Cond.codeWith y cc maxL (some .int) hh ∈ zG ∧ (y.cls ≠ "java/lang/invoke/MethodHandle" ∧ y.cls ≠ "java/lang/invoke/VarHandle" ∧ (parseMethodDescriptor y.desc).map (fun d => d.parameters.length) = some n)
theorem z_goodL (hl : Cond.methodLink own index y ∈ zG) (hv : zHt y bytes maxL hh n) : GoodIn zG (va_wsS own index y (zwL y bytes maxL hh)) := by
  intro w0 h
  unfold va_wsS at h
  rcases List.mem_append.mp h with h | h
  · simp only [List.mem_cons, List.not_mem_nil, or_false] at h
    rcases h with h | h | h <;> subst h
    · exact z_good1 hl
    · exact z_good1 hv.1
    · exact z_good1 hv.2.1
  · rcases List.mem_cons.mp h with h | h
    · subst h; exact z_good1 hv.2.2.1
    · exact z_good1 h
theorem z_rL {w w' : va_W} {v : Option Value} (hx : p.tables.exec = Jvm.exec) (hb : c.code = cc) (hml : c.maxLocals = nL) (hown : s.vm.findClass own = some m.cls) (hts : ∀ w ∈ zG, w.before args s = true) (hv : zHt y bytes maxL hh n) (hM : zLM l y (zwL y bytes maxL hh) rm Z sa As w w' v) (hrc : rm.cells = 1) (hrs : rm.slots = 6) (hR : rm.frames + 1 ≤ R.frames ∧ 8 + (maxL + 11) + rm.locals ≤ R.locals) (hl : Cond.methodLink own index y ∈ zG)
    (hK : zK Z s) (hT : zTh sa (zA w) s H) (hN : zNc s) (hP : va_P Z.1 vwCl w H) (hD : va_D A0 w)
    (hn : As.length = n) (hls : ls.size = nL) (hW : (rest.map fun v => v.category).sum ≤ 8) (hdg : decode cc pc = .ok (.invokestatic index, 3)) (hf : cells + 1 ≤ R.cells ∧ slots + 6 ≤ R.slots) :
    va_Run p l e R s m args below meth c H locs cells slots 1 6 (F0 m pc ls (As.reverse ++ rest)) rest (zQmu Z w w' v As.toArray) (zA w) :=
  vx_runSW (As := As) (rest := rest) ⟨hx, hb, hml, hown, hts⟩ hM (vx_cwSW n hts (z_goodL hl hv) rfl hrc hrs hv.2.2.2 hR) ⟨zPl_blind, fun U hU hW => ⟨rfl, by rw [hU]; exact hP, hK.warm hW, hD.weaken (fun _ _ _ _ => trivial), by rw [hU]; exact zTh.warm hW hT, zNc.moved hW.alike hN⟩⟩ rfl hn hls rfl (lv_room hW) hdg hf
theorem z_rMK {w w' : va_W} {v : Option Value} (hx : p.tables.exec = Jvm.exec) (hb : c.code = cc) (hml : c.maxLocals = nL) (hown : s.vm.findClass own = some m.cls) (hts : ∀ w ∈ zG, w.before args s = true) (hv : zVt y bytes maxL ret n) (hM : zMK l y (zw y bytes maxL ret) rm Z H.size (.ref b :: As) w w' v mc ms) (hrc : rm.cells = mc) (hrs : rm.slots = ms) (hR : rm.frames + 1 ≤ R.frames ∧ 8 + (maxL + 11) + rm.locals ≤ R.locals) (hl : Cond.methodLink own index y ∈ zG)
    (hK : zK Z s) (hO : va_AO RX5 s) (hP : va_P Z.1 vwCl w H) (hD : va_D A0 w) (hrv : ∃ cellB : Cell, H[b]? = some cellB ∧ cellB.vm.isStatics = false ∧ s.vm.findClass y.cls = some cellB.cls)
    (hn : As.length = n) (hls : ls.size = nL) (hW : (rest.map fun v => v.category).sum ≤ 8) (hdg : decode cc pc = .ok (.invokevirtual index, 3)) (hf : cells + mc ≤ R.cells ∧ slots + ms ≤ R.slots) :
    va_Run p l e R s m args below meth c H locs cells slots mc ms (F0 m pc ls (As.reverse ++ .ref b :: rest)) rest (zQmk Z w H.size w' v (Value.ref b :: As).toArray) (va_A w H.size) :=
  va_runV (C := y.cls) (As := As) (rest := rest) ⟨hx, hb, hml, hown, hts⟩ hM (cwV n hts (z_goodV hl hv) rfl hrc hrs ⟨rfl, hv.2.2.2.2⟩ hR) ⟨zPin_blind, hrv, fun U hU hW => ⟨rfl, by rw [hU], by rw [hU]; exact hP, hK.warm hW, hD.weaken (fun _ _ _ _ => trivial), va_AO.moved hW.alike hO⟩⟩ rfl hn hls rfl (lv_room hW) hdg hf
theorem z_rMD {w w' : va_W} {x : UInt64} (hx : p.tables.exec = Jvm.exec) (hb : c.code = cc) (hml : c.maxLocals = nL) (hown : s.vm.findClass own = some m.cls) (hts : ∀ w ∈ zG, w.before args s = true) (hv : zVt y bytes maxL ret n) (hM : zMD l y (zw y bytes maxL ret) rm Z (.ref b :: As) w w' x) (hrc : rm.cells = 0) (hrs : rm.slots = 0) (hR : rm.frames + 1 ≤ R.frames ∧ 8 + (maxL + 11) + rm.locals ≤ R.locals) (hl : Cond.methodLink own index y ∈ zG)
    (hK : zK Z s) (hP : va_P Z.1 vwCl w H) (hD : va_D A0 w) (hrv : ∃ cellB : Cell, H[b]? = some cellB ∧ cellB.vm.isStatics = false ∧ s.vm.findClass y.cls = some cellB.cls)
    (hn : As.length = n) (hls : ls.size = nL) (hW : (rest.map fun v => v.category).sum ≤ 8) (hdg : decode cc pc = .ok (.invokevirtual index, 3)) (hf : cells ≤ R.cells ∧ slots ≤ R.slots) :
    va_RunD lw_cs p l e R s m args below meth c H locs cells slots 0 0 (F0 m pc ls (As.reverse ++ .ref b :: rest)) rest (va_Qd (fun (r : UInt64) (_ : Unit) => alike64 r x = true) (fun _ t => va_P Z.1 vwCl w' t.heap) (zA w) (Value.ref b :: As).toArray) (zA w) :=
  va_runV_D (C := y.cls) (As := As) (rest := rest) ⟨hx, hb, hml, hown, hts⟩ hM (cwV n hts (z_goodV hl hv) rfl hrc hrs ⟨rfl, hv.2.2.2.2⟩ hR) ⟨zPmu_blind, hrv, z_prem hK hP hD⟩ rfl hn hls rfl (lv_room hW) hdg hf
end LB
