theorem vt_X4_survey : zVt yX4_survey cX4_survey 2 none 1 := ⟨zG_at 437 (by decide +kernel) (by decide +kernel), zG_at 438 (by decide +kernel) (by decide +kernel), zG_at 29 (by decide +kernel) (by decide +kernel), zG_at 439 (by decide +kernel) (by decide +kernel), by decide +kernel⟩
theorem vt_X1_arrange : zVt yX1_arrange cX1_arrange 3 (some .int) 1 := ⟨zG_at 517 (by decide +kernel) (by decide +kernel), zG_at 518 (by decide +kernel) (by decide +kernel), zG_at 30 (by decide +kernel) (by decide +kernel), zG_at 519 (by decide +kernel) (by decide +kernel), by decide +kernel⟩
theorem vt_X4_hasTwins : zVt yX4_hasTwins cX4_hasTwins 3 (some .boolean) 0 := ⟨zG_at 491 (by decide +kernel) (by decide +kernel), zG_at 492 (by decide +kernel) (by decide +kernel), zG_at 29 (by decide +kernel) (by decide +kernel), zG_at 493 (by decide +kernel) (by decide +kernel), by decide +kernel⟩
theorem vt_X5_lock : zVt yX5_lock cX5_lock 5 none 4 := ⟨zG_at 652 (by decide +kernel) (by decide +kernel), zG_at 653 (by decide +kernel) (by decide +kernel), zG_at 27 (by decide +kernel) (by decide +kernel), zG_at 654 (by decide +kernel) (by decide +kernel), by decide +kernel⟩
theorem vt_X6_keepDraft : zVt yX6_keepDraft cX6_keepDraft 1 none 0 := ⟨zG_at 501 (by decide +kernel) (by decide +kernel), zG_at 9 (by decide +kernel) (by decide +kernel), zG_at 26 (by decide +kernel) (by decide +kernel), zG_at 502 (by decide +kernel) (by decide +kernel), by decide +kernel⟩
theorem vt_X6_eighths : zVt yX6_eighths cX6_eighths 3 (some .int) 1 := ⟨zG_at 719 (by decide +kernel) (by decide +kernel), zG_at 23 (by decide +kernel) (by decide +kernel), zG_at 26 (by decide +kernel) (by decide +kernel), zG_at 720 (by decide +kernel) (by decide +kernel), by decide +kernel⟩
theorem k_f_X6_42 : Cond.fieldLink RX6 42 "ScriptPages" "history" "LScriptPages$History;" ∈ zG := zG_at 248 (by decide +kernel) (by decide +kernel)
theorem k_f_X6_12 : Cond.fieldLink RX6 12 "ScriptPages" "script" "LScriptPages$Script;" ∈ zG := zG_at 242 (by decide +kernel) (by decide +kernel)
theorem k_m_X6_249 : Cond.methodLink RX6 249 yX0_store ∈ zG := zG_at 503 (by decide +kernel) (by decide +kernel)
theorem k_f_X6_16 : Cond.fieldLink RX6 16 "ScriptPages" "draft" "LScriptPages$Script;" ∈ zG := zG_at 243 (by decide +kernel) (by decide +kernel)
theorem k_m_X6_94 : Cond.methodLink RX6 94 yX5_copyFrom ∈ zG := zG_at 411 (by decide +kernel) (by decide +kernel)
theorem k_f_X6_22 : Cond.fieldLink RX6 22 "ScriptPages" "scenes" "LScriptPages$Scenes;" ∈ zG := zG_at 244 (by decide +kernel) (by decide +kernel)
theorem k_m_X6_242 : Cond.methodLink RX6 242 yX4_survey ∈ zG := zG_at 436 (by decide +kernel) (by decide +kernel)
theorem k_f_X6_32 : Cond.fieldLink RX6 32 "ScriptPages" "pages" "LScriptPages$Pages;" ∈ zG := zG_at 246 (by decide +kernel) (by decide +kernel)
theorem k_m_X6_215 : Cond.methodLink RX6 215 yX1_arrange ∈ zG := zG_at 516 (by decide +kernel) (by decide +kernel)
theorem k_f_X6_26 : Cond.fieldLink RX6 26 "ScriptPages" "draftScenes" "LScriptPages$Scenes;" ∈ zG := zG_at 245 (by decide +kernel) (by decide +kernel)
theorem k_m_X6_252 : Cond.methodLink RX6 252 yX4_hasTwins ∈ zG := zG_at 490 (by decide +kernel) (by decide +kernel)
theorem k_m_X6_150 : Cond.methodLink RX6 150 yX3_at ∈ zG := zG_at 650 (by decide +kernel) (by decide +kernel)
theorem k_m_X6_115 : Cond.methodLink RX6 115 yX5_isLocked ∈ zG := zG_at 607 (by decide +kernel) (by decide +kernel)
theorem k_m_X6_162 : Cond.methodLink RX6 162 yX5_lock ∈ zG := zG_at 651 (by decide +kernel) (by decide +kernel)
theorem k_m_X6_107 : Cond.methodLink RX6 107 yX6_keepDraft ∈ zG := zG_at 499 (by decide +kernel) (by decide +kernel)
theorem k_m_X6_128 : Cond.methodLink RX6 128 yX3_put ∈ zG := zG_at 630 (by decide +kernel) (by decide +kernel)
theorem k_m_X6_132 : Cond.methodLink RX6 132 yX5_linesOf ∈ zG := zG_at 631 (by decide +kernel) (by decide +kernel)
theorem k_m_X6_168 : Cond.methodLink RX6 168 yX5_isOmitted ∈ zG := zG_at 671 (by decide +kernel) (by decide +kernel)
theorem k_m_X6_285 : Cond.methodLink RX6 285 yX6_eighths ∈ zG := zG_at 717 (by decide +kernel) (by decide +kernel)
theorem kn_X6_144 {U : State} (h : zNW U) {args : Array Value} : (Cond.fieldLinkNest RX6 144 "ScriptPages$Scenes" "count" "I" "ScriptPages").before args U = true := h.fld 15 (by decide +kernel)
theorem kn_X6_147 {U : State} (h : zNW U) {args : Array Value} : (Cond.fieldLinkNest RX6 147 "ScriptPages$Scenes" "headings" "LScriptPages$Row;" "ScriptPages").before args U = true := h.fld 18 (by decide +kernel)
theorem kn_X6_153 {U : State} (h : zNW U) {args : Array Value} : (Cond.fieldLinkNest RX6 153 "ScriptPages$Scenes" "firsts" "LScriptPages$Row;" "ScriptPages").before args U = true := h.fld 21 (by decide +kernel)
theorem kn_X6_156 {U : State} (h : zNW U) {args : Array Value} : (Cond.fieldLinkNest RX6 156 "ScriptPages$Scenes" "seconds" "LScriptPages$Row;" "ScriptPages").before args U = true := h.fld 22 (by decide +kernel)
theorem kn_X6_159 {U : State} (h : zNW U) {args : Array Value} : (Cond.fieldLinkNest RX6 159 "ScriptPages$Scenes" "thirds" "LScriptPages$Row;" "ScriptPages").before args U = true := h.fld 23 (by decide +kernel)
theorem kn_X6_59 {U : State} (h : zNW U) {args : Array Value} : (Cond.fieldLinkNest RX6 59 "ScriptPages$Script" "size" "I" "ScriptPages").before args U = true := h.fld 0 (by decide +kernel)
theorem kn_X6_179 {U : State} (h : zNW U) {args : Array Value} : (Cond.fieldLinkNest RX6 179 "ScriptPages$Script" "marks" "LScriptPages$Row;" "ScriptPages").before args U = true := h.fld 11 (by decide +kernel)
theorem kn_X6_182 {U : State} (h : zNW U) {args : Array Value} : (Cond.fieldLinkNest RX6 182 "ScriptPages$Pages" "count" "I" "ScriptPages").before args U = true := h.fld 26 (by decide +kernel)
theorem kn_X6_183 {U : State} (h : zNW U) {args : Array Value} : (Cond.fieldLinkNest RX6 183 "ScriptPages$Pages" "firsts" "LScriptPages$Row;" "ScriptPages").before args U = true := h.fld 32 (by decide +kernel)
theorem kn_X6_141 {U : State} (h : zNW U) {args : Array Value} : (Cond.fieldLinkNest RX6 141 "ScriptPages$Script" "pageLines" "I" "ScriptPages").before args U = true := h.fld 4 (by decide +kernel)
theorem kn_X6_255 {U : State} (h : zNW U) {args : Array Value} : (Cond.fieldLinkNest RX6 255 "ScriptPages$Scenes" "lockedCount" "I" "ScriptPages").before args U = true := h.fld 16 (by decide +kernel)
theorem kn_X6_258 {U : State} (h : zNW U) {args : Array Value} : (Cond.fieldLinkNest RX6 258 "ScriptPages$Pages" "markCount" "I" "ScriptPages").before args U = true := h.fld 27 (by decide +kernel)
theorem kn_X6_261 {U : State} (h : zNW U) {args : Array Value} : (Cond.fieldLinkNest RX6 261 "ScriptPages$Scenes" "carriedCount" "I" "ScriptPages").before args U = true := h.fld 17 (by decide +kernel)
theorem kn_X6_264 {U : State} (h : zNW U) {args : Array Value} : (Cond.fieldLinkNest RX6 264 "ScriptPages$Pages" "splitCount" "I" "ScriptPages").before args U = true := h.fld 28 (by decide +kernel)
theorem kn_X6_267 {U : State} (h : zNW U) {args : Array Value} : (Cond.fieldLinkNest RX6 267 "ScriptPages$Script" "kinds" "LScriptPages$Row;" "ScriptPages").before args U = true := h.fld 6 (by decide +kernel)
theorem kn_X6_125 {U : State} (h : zNW U) {args : Array Value} : (Cond.fieldLinkNest RX6 125 "ScriptPages$Script" "lengths" "LScriptPages$Row;" "ScriptPages").before args U = true := h.fld 7 (by decide +kernel)
theorem kn_X6_206 {U : State} (h : zNW U) {args : Array Value} : (Cond.fieldLinkNest RX6 206 "ScriptPages$Script" "persons" "LScriptPages$Row;" "ScriptPages").before args U = true := h.fld 9 (by decide +kernel)
theorem kn_X6_270 {U : State} (h : zNW U) {args : Array Value} : (Cond.fieldLinkNest RX6 270 "ScriptPages$Scenes" "homes" "LScriptPages$Row;" "ScriptPages").before args U = true := h.fld 24 (by decide +kernel)
theorem kn_X6_273 {U : State} (h : zNW U) {args : Array Value} : (Cond.fieldLinkNest RX6 273 "ScriptPages$Pages" "places" "LScriptPages$Row;" "ScriptPages").before args U = true := h.fld 29 (by decide +kernel)
theorem kn_X6_276 {U : State} (h : zNW U) {args : Array Value} : (Cond.fieldLinkNest RX6 276 "ScriptPages$Pages" "tops" "LScriptPages$Row;" "ScriptPages").before args U = true := h.fld 30 (by decide +kernel)
theorem kn_X6_279 {U : State} (h : zNW U) {args : Array Value} : (Cond.fieldLinkNest RX6 279 "ScriptPages$Pages" "parts" "LScriptPages$Row;" "ScriptPages").before args U = true := h.fld 31 (by decide +kernel)
theorem kn_X6_209 {U : State} (h : zNW U) {args : Array Value} : (Cond.fieldLinkNest RX6 209 "ScriptPages$Scenes" "carries" "LScriptPages$Row;" "ScriptPages").before args U = true := h.fld 25 (by decide +kernel)
theorem kn_X6_173 {U : State} (h : zNW U) {args : Array Value} : (Cond.fieldLinkNest RX6 173 "ScriptPages$Scenes" "sizes" "LScriptPages$Row;" "ScriptPages").before args U = true := h.fld 19 (by decide +kernel)
theorem kn_X6_282 {U : State} (h : zNW U) {args : Array Value} : (Cond.fieldLinkNest RX6 282 "ScriptPages$Scenes" "sums" "LScriptPages$Row;" "ScriptPages").before args U = true := h.fld 20 (by decide +kernel)
def rm_X6_keepDraft : Room := { frames := 5, cells := 0, slots := 0, locals := 119 }
set_option maxRecDepth 100000 in
set_option maxHeartbeats 4000000 in
theorem c_X6_keepDraft (l : Launch) (Z : zZ) (mm : Nat) (As : Nat → Nat) (Bs : Nat → Nat) (Ac : Nat → Nat) (Bc : Nat → Nat) (Ag : Nat → Nat) (Bg : Nat → Nat) (hh ha : Nat) (Ah : Nat → Nat → Nat) (rt rq : Nat) (tl : Int32) (S : t_Script) (D : t_Script) (C : t_Scenes) (E : t_Scenes) (G : t_Pages) (F : t_Pages) (Hs : t_Hist) (tx : Rw) (R : t_Script × t_Scenes × t_Pages × t_Hist) (hF : X6_keepDraft tl S D C E G F Hs tx = some R) : zMU l yX6_keepDraft (zw yX6_keepDraft cX6_keepDraft 1 none) rm_X6_keepDraft Z [.ref mm] (List.flatten [w_Main mm As Bs Ac Bc Ag Bg hh rt tl, w_Script Z.2.1 As S, w_Script Z.2.1 Bs D, w_Scenes Z.2.1 Ac C, w_Scenes Z.2.1 Bc E, w_Pages Z.2.1 Ag G, w_Pages Z.2.1 Bg F, w_Hist Z.2.1 Z.2.2.1 hh ha Ah Hs, w_Row Z.2.1 200 rt rq tx]) (List.flatten [w_Main mm As Bs Ac Bc Ag Bg hh rt tl, w_Script Z.2.1 As R.1, w_Script Z.2.1 Bs D, w_Scenes Z.2.1 Ac R.2.1, w_Scenes Z.2.1 Bc E, w_Pages Z.2.1 Ag R.2.2.1, w_Pages Z.2.1 Bg F, w_Hist Z.2.1 Z.2.2.1 hh ha Ah R.2.2.2, w_Row Z.2.1 200 rt rq tx]) none := by
  refine zMU_of (by decide) (Nat.le_of_ble_eq_true rfl) (fun p e s m below meth c hx hb hr hml hown hts hlocks hK A hA Q hQ ls hl hP hD hS => ?_)
  unfold X6_keepDraft at hF
  have hl : lv_has ls 1 [(0, .ref mm)] := hl
  have hown : s.vm.findClass RX6 = some m.cls := hown
  refine lv_aload_n hx hb (z_d hX6_keepDraft_0 0 rfl) rfl (lv_at hl 0 rfl) ?_
  refine va_get (D := Z.1) (ci := 6) (v := .ref hh) (C := RX6) (T := TX6) (N := 9) hx hb hts zinX6 hown hK.1 (zP_reg hP 0 rfl) 0 rfl rfl 6 (by decide) (hts _ k_f_X6_42) (fun _ h9 => h9) rfl (z_d hX6_keepDraft_0 1 rfl) ?_
  refine lv_aload_n hx hb (z_d hX6_keepDraft_0 2 rfl) rfl (lv_at hl 0 rfl) ?_
  refine va_get (D := Z.1) (ci := 6) (v := .ref (As 0)) (C := RX6) (T := TX6) (N := 9) hx hb hts zinX6 hown hK.1 (zP_reg hP 0 rfl) 0 rfl rfl 0 (by decide) (hts _ k_f_X6_12) (fun _ h9 => h9) rfl (z_d hX6_keepDraft_0 3 rfl) ?_
  refine z_bnd hF (fun q1 hq1 hF => ?_)
  refine z_mu2 (L := [w_Main mm As Bs Ac Bc Ag Bg hh rt tl, w_Script Z.2.1 As S, w_Script Z.2.1 Bs D, w_Scenes Z.2.1 Ac C, w_Scenes Z.2.1 Bc E, w_Pages Z.2.1 Ag G, w_Pages Z.2.1 Bg F, w_Hist Z.2.1 Z.2.2.1 hh ha Ah Hs, w_Row Z.2.1 200 rt rq tx]) (L' := [w_Main mm As Bs Ac Bc Ag Bg hh rt tl, w_Script Z.2.1 As S, w_Script Z.2.1 Bs D, w_Scenes Z.2.1 Ac C, w_Scenes Z.2.1 Bc E, w_Pages Z.2.1 Ag G, w_Pages Z.2.1 Bg F, w_Hist Z.2.1 Z.2.2.1 hh ha Ah q1, w_Row Z.2.1 200 rt rq tx]) (z_rV (As := [.ref (As 0)]) (rest := []) hx hb hml hown hts vt_X0_store (c_X0_store l Z hh ha Ah As Hs S _ hq1) rfl rfl ⟨Nat.le_of_ble_eq_true rfl, Nat.le_of_ble_eq_true rfl⟩ k_m_X6_249 zPmu_blind (z_recv (q := (RX0, TX0, 2)) (ci := 0) (q0 := 0) hK (zP_reg (L := l_Hist Z.2.1 Z.2.2.1 hh ha Ah Hs.1 Hs.2.1 Hs.2.2) (zP_reg hP 7 rfl) 0 rfl) rfl rfl) (z_prem hK (zP_r2 hP 7 1 rfl rfl) (zD_r2 hD 7 1 rfl rfl (by decide))) rfl hl.1 (Nat.le_of_ble_eq_true rfl) (z_d hX6_keepDraft_0 4 rfl) ⟨Nat.zero_le _, Nat.zero_le _⟩) hS hP hD 7 1 rfl rfl (by decide) rfl (adr_Hist _ _ _ _ _ _ _) (adr_Script _ _ _ _) (fun H locs hP hD hS => ?_)
  refine W.eq (g2 := F0 m 11 ls []) rfl ?_
  refine lv_aload_n hx hb (z_d hX6_keepDraft_0 5 rfl) rfl (lv_at hl 0 rfl) ?_
  refine va_get (D := Z.1) (ci := 6) (v := .ref (As 0)) (C := RX6) (T := TX6) (N := 9) hx hb hts zinX6 hown hK.1 (zP_reg hP 0 rfl) 0 rfl rfl 0 (by decide) (hts _ k_f_X6_12) (fun _ h9 => h9) rfl (z_d hX6_keepDraft_0 6 rfl) ?_
  refine lv_aload_n hx hb (z_d hX6_keepDraft_0 7 rfl) rfl (lv_at hl 0 rfl) ?_
  refine va_get (D := Z.1) (ci := 6) (v := .ref (Bs 0)) (C := RX6) (T := TX6) (N := 9) hx hb hts zinX6 hown hK.1 (zP_reg hP 0 rfl) 0 rfl rfl 1 (by decide) (hts _ k_f_X6_16) (fun _ h9 => h9) rfl (z_d hX6_keepDraft_0 8 rfl) ?_
  refine z_let hF (fun q2 hq2 hF => ?_)
  refine z_mu2 (L := [w_Main mm As Bs Ac Bc Ag Bg hh rt tl, w_Script Z.2.1 As S, w_Script Z.2.1 Bs D, w_Scenes Z.2.1 Ac C, w_Scenes Z.2.1 Bc E, w_Pages Z.2.1 Ag G, w_Pages Z.2.1 Bg F, w_Hist Z.2.1 Z.2.2.1 hh ha Ah q1, w_Row Z.2.1 200 rt rq tx]) (L' := [w_Main mm As Bs Ac Bc Ag Bg hh rt tl, w_Script Z.2.1 As q2, w_Script Z.2.1 Bs D, w_Scenes Z.2.1 Ac C, w_Scenes Z.2.1 Bc E, w_Pages Z.2.1 Ag G, w_Pages Z.2.1 Bg F, w_Hist Z.2.1 Z.2.2.1 hh ha Ah q1, w_Row Z.2.1 200 rt rq tx]) (z_rV (As := [.ref (Bs 0)]) (rest := []) hx hb hml hown hts vt_X5_copyFrom (c_X5_copyFrom l Z As Bs S D _ hq2) rfl rfl ⟨Nat.le_of_ble_eq_true rfl, Nat.le_of_ble_eq_true rfl⟩ k_m_X6_94 zPmu_blind (z_recv (q := (RX5, TX5, 10)) (ci := 5) (q0 := 0) hK (zP_reg (L := l_Script Z.2.1 As S.1 S.2.1 S.2.2.1 S.2.2.2.1 S.2.2.2.2.1 S.2.2.2.2.2.1 S.2.2.2.2.2.2.1 S.2.2.2.2.2.2.2.1 S.2.2.2.2.2.2.2.2.1 S.2.2.2.2.2.2.2.2.2) (zP_reg hP 1 rfl) 0 rfl) rfl rfl) (z_prem hK (zP_r2 hP 1 2 rfl rfl) (zD_r2 hD 1 2 rfl rfl (by decide))) rfl hl.1 (Nat.le_of_ble_eq_true rfl) (z_d hX6_keepDraft_0 9 rfl) ⟨Nat.zero_le _, Nat.zero_le _⟩) hS hP hD 1 2 rfl rfl (by decide) rfl (adr_Script _ _ _ _) (adr_Script _ _ _ _) (fun H locs hP hD hS => ?_)
  refine W.eq (g2 := F0 m 22 ls []) rfl ?_
  refine lv_aload_n hx hb (z_d hX6_keepDraft_0 10 rfl) rfl (lv_at hl 0 rfl) ?_
  refine va_get (D := Z.1) (ci := 6) (v := .ref (Ac 0)) (C := RX6) (T := TX6) (N := 9) hx hb hts zinX6 hown hK.1 (zP_reg hP 0 rfl) 0 rfl rfl 2 (by decide) (hts _ k_f_X6_22) (fun _ h9 => h9) rfl (z_d hX6_keepDraft_0 11 rfl) ?_
  refine lv_aload_n hx hb (z_d hX6_keepDraft_0 12 rfl) rfl (lv_at hl 0 rfl) ?_
  refine va_get (D := Z.1) (ci := 6) (v := .ref (As 0)) (C := RX6) (T := TX6) (N := 9) hx hb hts zinX6 hown hK.1 (zP_reg hP 0 rfl) 0 rfl rfl 0 (by decide) (hts _ k_f_X6_12) (fun _ h9 => h9) rfl (z_d hX6_keepDraft_0 13 rfl) ?_
  refine z_bnd hF (fun q3 hq3 hF => ?_)
  refine z_mu2 (L := [w_Main mm As Bs Ac Bc Ag Bg hh rt tl, w_Script Z.2.1 As q2, w_Script Z.2.1 Bs D, w_Scenes Z.2.1 Ac C, w_Scenes Z.2.1 Bc E, w_Pages Z.2.1 Ag G, w_Pages Z.2.1 Bg F, w_Hist Z.2.1 Z.2.2.1 hh ha Ah q1, w_Row Z.2.1 200 rt rq tx]) (L' := [w_Main mm As Bs Ac Bc Ag Bg hh rt tl, w_Script Z.2.1 As q2, w_Script Z.2.1 Bs D, w_Scenes Z.2.1 Ac q3, w_Scenes Z.2.1 Bc E, w_Pages Z.2.1 Ag G, w_Pages Z.2.1 Bg F, w_Hist Z.2.1 Z.2.2.1 hh ha Ah q1, w_Row Z.2.1 200 rt rq tx]) (z_rV (As := [.ref (As 0)]) (rest := []) hx hb hml hown hts vt_X4_survey (c_X4_survey l Z Ac As C q2 _ hq3) rfl rfl ⟨Nat.le_of_ble_eq_true rfl, Nat.le_of_ble_eq_true rfl⟩ k_m_X6_242 zPmu_blind (z_recv (q := (RX4, TX4, 12)) (ci := 4) (q0 := 0) hK (zP_reg (L := l_Scenes Z.2.1 Ac C.1 C.2.1 C.2.2.1 C.2.2.2.1 C.2.2.2.2.1 C.2.2.2.2.2.1 C.2.2.2.2.2.2.1 C.2.2.2.2.2.2.2.1 C.2.2.2.2.2.2.2.2.1 C.2.2.2.2.2.2.2.2.2.1 C.2.2.2.2.2.2.2.2.2.2.1 C.2.2.2.2.2.2.2.2.2.2.2) (zP_reg hP 3 rfl) 0 rfl) rfl rfl) (z_prem hK (zP_r2 hP 3 1 rfl rfl) (zD_r2 hD 3 1 rfl rfl (by decide))) rfl hl.1 (Nat.le_of_ble_eq_true rfl) (z_d hX6_keepDraft_0 14 rfl) ⟨Nat.zero_le _, Nat.zero_le _⟩) hS hP hD 3 1 rfl rfl (by decide) rfl (adr_Scenes _ _ _ _) (adr_Script _ _ _ _) (fun H locs hP hD hS => ?_)
  refine W.eq (g2 := F0 m 33 ls []) rfl ?_
  refine lv_aload_n hx hb (z_d hX6_keepDraft_0 15 rfl) rfl (lv_at hl 0 rfl) ?_
  refine va_get (D := Z.1) (ci := 6) (v := .ref (Ag 0)) (C := RX6) (T := TX6) (N := 9) hx hb hts zinX6 hown hK.1 (zP_reg hP 0 rfl) 0 rfl rfl 4 (by decide) (hts _ k_f_X6_32) (fun _ h9 => h9) rfl (z_d hX6_keepDraft_0 16 rfl) ?_
  refine lv_aload_n hx hb (z_d hX6_keepDraft_0 17 rfl) rfl (lv_at hl 0 rfl) ?_
  refine va_get (D := Z.1) (ci := 6) (v := .ref (As 0)) (C := RX6) (T := TX6) (N := 9) hx hb hts zinX6 hown hK.1 (zP_reg hP 0 rfl) 0 rfl rfl 0 (by decide) (hts _ k_f_X6_12) (fun _ h9 => h9) rfl (z_d hX6_keepDraft_0 18 rfl) ?_
  refine z_bnd hF (fun q4 hq4 hF => ?_)
  refine z_mu2 (L := [w_Main mm As Bs Ac Bc Ag Bg hh rt tl, w_Script Z.2.1 As q2, w_Script Z.2.1 Bs D, w_Scenes Z.2.1 Ac q3, w_Scenes Z.2.1 Bc E, w_Pages Z.2.1 Ag G, w_Pages Z.2.1 Bg F, w_Hist Z.2.1 Z.2.2.1 hh ha Ah q1, w_Row Z.2.1 200 rt rq tx]) (L' := [w_Main mm As Bs Ac Bc Ag Bg hh rt tl, w_Script Z.2.1 As q2, w_Script Z.2.1 Bs D, w_Scenes Z.2.1 Ac q3, w_Scenes Z.2.1 Bc E, w_Pages Z.2.1 Ag q4.2, w_Pages Z.2.1 Bg F, w_Hist Z.2.1 Z.2.2.1 hh ha Ah q1, w_Row Z.2.1 200 rt rq tx]) (z_rV (As := [.ref (As 0)]) (rest := []) hx hb hml hown hts vt_X1_arrange (c_X1_arrange l Z Ag As G q2 _ hq4) rfl rfl ⟨Nat.le_of_ble_eq_true rfl, Nat.le_of_ble_eq_true rfl⟩ k_m_X6_215 zPmu_blind (z_recv (q := (RX1, TX1, 14)) (ci := 1) (q0 := 0) hK (zP_reg (L := l_Pages Z.2.1 Ag G.1 G.2.1 G.2.2.1 G.2.2.2.1 G.2.2.2.2.1 G.2.2.2.2.2.1 G.2.2.2.2.2.2.1 G.2.2.2.2.2.2.2.1 G.2.2.2.2.2.2.2.2.1 G.2.2.2.2.2.2.2.2.2.1 G.2.2.2.2.2.2.2.2.2.2.1 G.2.2.2.2.2.2.2.2.2.2.2.1 G.2.2.2.2.2.2.2.2.2.2.2.2.1 G.2.2.2.2.2.2.2.2.2.2.2.2.2) (zP_reg hP 5 rfl) 0 rfl) rfl rfl) (z_prem hK (zP_r2 hP 5 1 rfl rfl) (zD_r2 hD 5 1 rfl rfl (by decide))) rfl hl.1 (Nat.le_of_ble_eq_true rfl) (z_d hX6_keepDraft_0 19 rfl) ⟨Nat.zero_le _, Nat.zero_le _⟩) hS hP hD 5 1 rfl rfl (by decide) rfl (adr_Pages _ _ _ _) (adr_Script _ _ _ _) (fun H locs hP hD hS => ?_)
  refine W.eq (g2 := F0 m 44 ls [.int q4.1]) rfl ?_
  refine lv_pop hx hb (z_d hX6_keepDraft_0 20 rfl) rfl ?_
  obtain rfl := Option.some.inj hF
  subst hQ
  subst hA
  exact W.vret hx hb hr (fun t ht hW => zq_mu (by rw [ht]; exact hP) (hS.F ht)) hS.2.2 (z_d hX6_keepDraft_0 21 rfl)
def rm_X6_repeatsLabel : Room := { frames := 5, cells := 0, slots := 0, locals := 119 }
set_option maxRecDepth 100000 in
set_option maxHeartbeats 4000000 in
theorem c_X6_repeatsLabel (l : Launch) (Z : zZ) (mm : Nat) (As : Nat → Nat) (Bs : Nat → Nat) (Ac : Nat → Nat) (Bc : Nat → Nat) (Ag : Nat → Nat) (Bg : Nat → Nat) (hh ha : Nat) (Ah : Nat → Nat → Nat) (rt rq : Nat) (tl : Int32) (S : t_Script) (D : t_Script) (C : t_Scenes) (E : t_Scenes) (G : t_Pages) (F : t_Pages) (Hs : t_Hist) (tx : Rw) (R : Int32 × t_Scenes) (hF : X6_repeatsLabel tl S D C E G F Hs tx = some R) : zMU l yX6_repeatsLabel (zw yX6_repeatsLabel cX6_repeatsLabel 1 (some .boolean)) rm_X6_repeatsLabel Z [.ref mm] (List.flatten [w_Main mm As Bs Ac Bc Ag Bg hh rt tl, w_Script Z.2.1 As S, w_Script Z.2.1 Bs D, w_Scenes Z.2.1 Ac C, w_Scenes Z.2.1 Bc E, w_Pages Z.2.1 Ag G, w_Pages Z.2.1 Bg F, w_Hist Z.2.1 Z.2.2.1 hh ha Ah Hs, w_Row Z.2.1 200 rt rq tx]) (List.flatten [w_Main mm As Bs Ac Bc Ag Bg hh rt tl, w_Script Z.2.1 As S, w_Script Z.2.1 Bs D, w_Scenes Z.2.1 Ac C, w_Scenes Z.2.1 Bc R.2, w_Pages Z.2.1 Ag G, w_Pages Z.2.1 Bg F, w_Hist Z.2.1 Z.2.2.1 hh ha Ah Hs, w_Row Z.2.1 200 rt rq tx]) (some (.int R.1)) := by
  refine zMU_of (by decide) (Nat.le_of_ble_eq_true rfl) (fun p e s m below meth c hx hb hr hml hown hts hlocks hK A hA Q hQ ls hl hP hD hS => ?_)
  unfold X6_repeatsLabel at hF
  have hl : lv_has ls 1 [(0, .ref mm)] := hl
  have hown : s.vm.findClass RX6 = some m.cls := hown
  refine lv_aload_n hx hb (z_d hX6_repeatsLabel_0 0 rfl) rfl (lv_at hl 0 rfl) ?_
  refine va_get (D := Z.1) (ci := 6) (v := .ref (Bc 0)) (C := RX6) (T := TX6) (N := 9) hx hb hts zinX6 hown hK.1 (zP_reg hP 0 rfl) 0 rfl rfl 3 (by decide) (hts _ k_f_X6_26) (fun _ h9 => h9) rfl (z_d hX6_repeatsLabel_0 1 rfl) ?_
  refine lv_aload_n hx hb (z_d hX6_repeatsLabel_0 2 rfl) rfl (lv_at hl 0 rfl) ?_
  refine va_get (D := Z.1) (ci := 6) (v := .ref (Bs 0)) (C := RX6) (T := TX6) (N := 9) hx hb hts zinX6 hown hK.1 (zP_reg hP 0 rfl) 0 rfl rfl 1 (by decide) (hts _ k_f_X6_16) (fun _ h9 => h9) rfl (z_d hX6_repeatsLabel_0 3 rfl) ?_
  refine z_bnd hF (fun q1 hq1 hF => ?_)
  refine z_mu2 (L := [w_Main mm As Bs Ac Bc Ag Bg hh rt tl, w_Script Z.2.1 As S, w_Script Z.2.1 Bs D, w_Scenes Z.2.1 Ac C, w_Scenes Z.2.1 Bc E, w_Pages Z.2.1 Ag G, w_Pages Z.2.1 Bg F, w_Hist Z.2.1 Z.2.2.1 hh ha Ah Hs, w_Row Z.2.1 200 rt rq tx]) (L' := [w_Main mm As Bs Ac Bc Ag Bg hh rt tl, w_Script Z.2.1 As S, w_Script Z.2.1 Bs D, w_Scenes Z.2.1 Ac C, w_Scenes Z.2.1 Bc q1, w_Pages Z.2.1 Ag G, w_Pages Z.2.1 Bg F, w_Hist Z.2.1 Z.2.2.1 hh ha Ah Hs, w_Row Z.2.1 200 rt rq tx]) (z_rV (As := [.ref (Bs 0)]) (rest := []) hx hb hml hown hts vt_X4_survey (c_X4_survey l Z Bc Bs E D _ hq1) rfl rfl ⟨Nat.le_of_ble_eq_true rfl, Nat.le_of_ble_eq_true rfl⟩ k_m_X6_242 zPmu_blind (z_recv (q := (RX4, TX4, 12)) (ci := 4) (q0 := 0) hK (zP_reg (L := l_Scenes Z.2.1 Bc E.1 E.2.1 E.2.2.1 E.2.2.2.1 E.2.2.2.2.1 E.2.2.2.2.2.1 E.2.2.2.2.2.2.1 E.2.2.2.2.2.2.2.1 E.2.2.2.2.2.2.2.2.1 E.2.2.2.2.2.2.2.2.2.1 E.2.2.2.2.2.2.2.2.2.2.1 E.2.2.2.2.2.2.2.2.2.2.2) (zP_reg hP 4 rfl) 0 rfl) rfl rfl) (z_prem hK (zP_r2 hP 4 2 rfl rfl) (zD_r2 hD 4 2 rfl rfl (by decide))) rfl hl.1 (Nat.le_of_ble_eq_true rfl) (z_d hX6_repeatsLabel_0 4 rfl) ⟨Nat.zero_le _, Nat.zero_le _⟩) hS hP hD 4 2 rfl rfl (by decide) rfl (adr_Scenes _ _ _ _) (adr_Script _ _ _ _) (fun H locs hP hD hS => ?_)
  refine W.eq (g2 := F0 m 11 ls []) rfl ?_
  refine lv_aload_n hx hb (z_d hX6_repeatsLabel_0 5 rfl) rfl (lv_at hl 0 rfl) ?_
  refine va_get (D := Z.1) (ci := 6) (v := .ref (Bc 0)) (C := RX6) (T := TX6) (N := 9) hx hb hts zinX6 hown hK.1 (zP_reg hP 0 rfl) 0 rfl rfl 3 (by decide) (hts _ k_f_X6_26) (fun _ h9 => h9) rfl (z_d hX6_repeatsLabel_0 6 rfl) ?_
  refine z_bnd hF (fun q2 hq2 hF => ?_)
  refine z_ro_i (z_rV (As := []) (rest := []) hx hb hml hown hts vt_X4_hasTwins (c_X4_hasTwins l Z Bc q1 _ hq2) rfl rfl ⟨Nat.le_of_ble_eq_true rfl, Nat.le_of_ble_eq_true rfl⟩ k_m_X6_252 zPro_blind (z_recv (q := (RX4, TX4, 12)) (ci := 4) (q0 := 0) hK (zP_reg (L := l_Scenes Z.2.1 Bc q1.1 q1.2.1 q1.2.2.1 q1.2.2.2.1 q1.2.2.2.2.1 q1.2.2.2.2.2.1 q1.2.2.2.2.2.2.1 q1.2.2.2.2.2.2.2.1 q1.2.2.2.2.2.2.2.2.1 q1.2.2.2.2.2.2.2.2.2.1 q1.2.2.2.2.2.2.2.2.2.2.1 q1.2.2.2.2.2.2.2.2.2.2.2) (zP_reg hP 4 rfl) 0 rfl) rfl rfl) (z_prec hK (zP_reg hP 4 rfl)) rfl hl.1 (Nat.le_of_ble_eq_true rfl) (z_d hX6_repeatsLabel_0 7 rfl) ⟨Nat.zero_le _, Nat.zero_le _⟩) hS hP (fun H locs hP hS => ?_)
  refine z_bl hF (fun h9 hF => ?_)
  have hz9 := z_bool h9
  obtain rfl := Option.some.inj hF
  subst hQ
  subst hA
  exact W.zret hx hb hr hz9 (fun t ht hW => zq_mu (by rw [ht]; exact hP) (hS.F ht)) hS.2.2 (z_d hX6_repeatsLabel_0 8 rfl)
def rm_X6_lockScenes : Room := { frames := 6, cells := 0, slots := 0, locals := 139 }
set_option maxRecDepth 100000 in
set_option maxHeartbeats 4000000 in
theorem c_X6_lockScenes (l : Launch) (Z : zZ) (mm : Nat) (As : Nat → Nat) (Bs : Nat → Nat) (Ac : Nat → Nat) (Bc : Nat → Nat) (Ag : Nat → Nat) (Bg : Nat → Nat) (hh ha : Nat) (Ah : Nat → Nat → Nat) (rt rq : Nat) (tl : Int32) (S : t_Script) (D : t_Script) (C : t_Scenes) (E : t_Scenes) (G : t_Pages) (F : t_Pages) (Hs : t_Hist) (tx : Rw) (R : Int32 × t_Script × t_Script × t_Scenes × t_Pages × t_Hist) (hF : X6_lockScenes tl S D C E G F Hs tx = some R) : zMU l yX6_lockScenes (zw yX6_lockScenes cX6_lockScenes 4 (some .int)) rm_X6_lockScenes Z [.ref mm] (List.flatten [w_Main mm As Bs Ac Bc Ag Bg hh rt tl, w_Script Z.2.1 As S, w_Script Z.2.1 Bs D, w_Scenes Z.2.1 Ac C, w_Scenes Z.2.1 Bc E, w_Pages Z.2.1 Ag G, w_Pages Z.2.1 Bg F, w_Hist Z.2.1 Z.2.2.1 hh ha Ah Hs, w_Row Z.2.1 200 rt rq tx]) (List.flatten [w_Main mm As Bs Ac Bc Ag Bg hh rt tl, w_Script Z.2.1 As R.2.1, w_Script Z.2.1 Bs R.2.2.1, w_Scenes Z.2.1 Ac R.2.2.2.1, w_Scenes Z.2.1 Bc E, w_Pages Z.2.1 Ag R.2.2.2.2.1, w_Pages Z.2.1 Bg F, w_Hist Z.2.1 Z.2.2.1 hh ha Ah R.2.2.2.2.2, w_Row Z.2.1 200 rt rq tx]) (some (.int R.1)) := by
  refine zMU_of (by decide) (Nat.le_of_ble_eq_true rfl) (fun p e s m below meth c hx hb hr hml hown hts hlocks hK A hA Q hQ ls hl hP hD hS => ?_)
  unfold X6_lockScenes at hF
  have hl : lv_has ls 4 [(0, .ref mm)] := hl
  have hown : s.vm.findClass RX6 = some m.cls := hown
  have L15 : ∀  (n : Nat) (v : t_Script × t_Script × t_Scenes × t_Pages × t_Hist × Int32 × Int32) (X : t_Script × t_Script × t_Scenes × t_Pages × t_Hist × Int32) (hF : zloop (b_X6_lockScenes_15 tl E F tx ) n v = some X) (H : Heap) (locs : List Loc) (ls : Array Slot) (hP : va_P Z.1 vwCl ([w_Main mm As Bs Ac Bc Ag Bg hh rt tl, w_Script Z.2.1 As v.1, w_Script Z.2.1 Bs v.2.1, w_Scenes Z.2.1 Ac v.2.2.1, w_Scenes Z.2.1 Bc E, w_Pages Z.2.1 Ag v.2.2.2.1, w_Pages Z.2.1 Bg F, w_Hist Z.2.1 Z.2.2.1 hh ha Ah v.2.2.2.2.1, w_Row Z.2.1 200 rt rq tx]).flatten H) (hD : va_D A ([w_Main mm As Bs Ac Bc Ag Bg hh rt tl, w_Script Z.2.1 As v.1, w_Script Z.2.1 Bs v.2.1, w_Scenes Z.2.1 Ac v.2.2.1, w_Scenes Z.2.1 Bc E, w_Pages Z.2.1 Ag v.2.2.2.1, w_Pages Z.2.1 Bg F, w_Hist Z.2.1 Z.2.2.1 hh ha Ah v.2.2.2.2.1, w_Row Z.2.1 200 rt rq tx]).flatten) (hS : va_S A s.heap H locs) (hl : lv_has ls 4 [(0, .ref mm), (1, .int v.2.2.2.2.2.1), (2, .int v.2.2.2.2.2.2)]) (K1 : ∀ (H : Heap) (locs : List Loc) (ls : Array Slot) (hP : va_P Z.1 vwCl ([w_Main mm As Bs Ac Bc Ag Bg hh rt tl, w_Script Z.2.1 As X.1, w_Script Z.2.1 Bs X.2.1, w_Scenes Z.2.1 Ac X.2.2.1, w_Scenes Z.2.1 Bc E, w_Pages Z.2.1 Ag X.2.2.2.1, w_Pages Z.2.1 Bg F, w_Hist Z.2.1 Z.2.2.1 hh ha Ah X.2.2.2.2.1, w_Row Z.2.1 200 rt rq tx]).flatten H) (hD : va_D A ([w_Main mm As Bs Ac Bc Ag Bg hh rt tl, w_Script Z.2.1 As X.1, w_Script Z.2.1 Bs X.2.1, w_Scenes Z.2.1 Ac X.2.2.1, w_Scenes Z.2.1 Bc E, w_Pages Z.2.1 Ag X.2.2.2.1, w_Pages Z.2.1 Bg F, w_Hist Z.2.1 Z.2.2.1 hh ha Ah X.2.2.2.2.1, w_Row Z.2.1 200 rt rq tx]).flatten) (hS : va_S A s.heap H locs) (hl : lv_has ls 4 [(0, .ref mm), (1, .int X.2.2.2.2.2)]), W p l e rm_X6_lockScenes s m ([.ref mm] : List Value).toArray below meth c H locs 0 0 Q (F0 m 99 ls [])), W p l e rm_X6_lockScenes s m ([.ref mm] : List Value).toArray below meth c H locs 0 0 Q (F0 m 15 ls []) := by
    skip
    refine z_loopE (fun rec ih v X hF H locs ls hP hD hS hl K1 => ?_)
    unfold b_X6_lockScenes_15 at hF
    refine lv_iload_n hx hb (z_d hX6_lockScenes_0 9 rfl) rfl (lv_at hl 2 rfl) ?_
    refine lv_aload_n hx hb (z_d hX6_lockScenes_0 10 rfl) rfl (lv_at hl 0 rfl) ?_
    refine va_get (D := Z.1) (ci := 6) (v := .ref (Ac 0)) (C := RX6) (T := TX6) (N := 9) hx hb hts zinX6 hown hK.1 (zP_reg hP 0 rfl) 0 rfl rfl 2 (by decide) (hts _ k_f_X6_22) (fun _ h9 => h9) rfl (z_d hX6_lockScenes_0 11 rfl) ?_
    refine va_getN (D := Z.1) (ci := 4) (v := .int v.2.2.1.1) (C := RX4) (T := TX4) (N := 12) hx hb hts zinX4 hown hK.1 (zP_reg (L := l_Scenes Z.2.1 Ac v.2.2.1.1 v.2.2.1.2.1 v.2.2.1.2.2.1 v.2.2.1.2.2.2.1 v.2.2.1.2.2.2.2.1 v.2.2.1.2.2.2.2.2.1 v.2.2.1.2.2.2.2.2.2.1 v.2.2.1.2.2.2.2.2.2.2.1 v.2.2.1.2.2.2.2.2.2.2.2.1 v.2.2.1.2.2.2.2.2.2.2.2.2.1 v.2.2.1.2.2.2.2.2.2.2.2.2.2.1 v.2.2.1.2.2.2.2.2.2.2.2.2.2.2) (zP_reg hP 3 rfl) 0 rfl) 0 rfl rfl 0 (by decide) (kn_X6_144 hK.2) (fun _ h9 => h9) rfl (z_d hX6_lockScenes_0 12 rfl) ?_
    refine lv_icmp_ge (tgt := 99) hx hb (z_d hX6_lockScenes_0 13 rfl) (by decide) (fun hc23 => ?_) (fun hc23 => ?_)
    · have hF := z_pos hc23 hF
      obtain rfl := Option.some.inj hF
      exact K1 _ _ ls hP hD hS (lv_sub hl [0, 1] rfl)
    · have hF := z_neg hc23 hF
      refine lv_aload_n hx hb (z_d hX6_lockScenes_0 14 rfl) rfl (lv_at hl 0 rfl) ?_
      refine va_get (D := Z.1) (ci := 6) (v := .ref (Ac 0)) (C := RX6) (T := TX6) (N := 9) hx hb hts zinX6 hown hK.1 (zP_reg hP 0 rfl) 0 rfl rfl 2 (by decide) (hts _ k_f_X6_22) (fun _ h9 => h9) rfl (z_d hX6_lockScenes_0 15 rfl) ?_
      refine va_getN (D := Z.1) (ci := 4) (v := .ref (Ac 1)) (C := RX4) (T := TX4) (N := 12) hx hb hts zinX4 hown hK.1 (zP_reg (L := l_Scenes Z.2.1 Ac v.2.2.1.1 v.2.2.1.2.1 v.2.2.1.2.2.1 v.2.2.1.2.2.2.1 v.2.2.1.2.2.2.2.1 v.2.2.1.2.2.2.2.2.1 v.2.2.1.2.2.2.2.2.2.1 v.2.2.1.2.2.2.2.2.2.2.1 v.2.2.1.2.2.2.2.2.2.2.2.1 v.2.2.1.2.2.2.2.2.2.2.2.2.1 v.2.2.1.2.2.2.2.2.2.2.2.2.2.1 v.2.2.1.2.2.2.2.2.2.2.2.2.2.2) (zP_reg hP 3 rfl) 0 rfl) 0 rfl rfl 3 (by decide) (kn_X6_147 hK.2) (fun _ h9 => h9) rfl (z_d hX6_lockScenes_0 16 rfl) ?_
      refine lv_iload_n hx hb (z_d hX6_lockScenes_0 17 rfl) rfl (lv_at hl 2 rfl) ?_
      refine z_let hF (fun q2 hq2 hF => ?_)
      refine z_ro_i (z_rV (As := [.int v.2.2.2.2.2.2]) (rest := []) hx hb hml hown hts vt_X3_at (c_rAt l Z 60 (Ac 1) (Ac 2) (by decide) v.2.2.1.2.2.2.1 v.2.2.2.2.2.2 _ hq2) rfl rfl ⟨Nat.le_of_ble_eq_true rfl, Nat.le_of_ble_eq_true rfl⟩ k_m_X6_150 zPro_blind (z_recv (q := (RX3, TX3, 1)) (ci := 3) (q0 := 0) hK (zP_reg (L := l_Scenes Z.2.1 Ac v.2.2.1.1 v.2.2.1.2.1 v.2.2.1.2.2.1 v.2.2.1.2.2.2.1 v.2.2.1.2.2.2.2.1 v.2.2.1.2.2.2.2.2.1 v.2.2.1.2.2.2.2.2.2.1 v.2.2.1.2.2.2.2.2.2.2.1 v.2.2.1.2.2.2.2.2.2.2.2.1 v.2.2.1.2.2.2.2.2.2.2.2.2.1 v.2.2.1.2.2.2.2.2.2.2.2.2.2.1 v.2.2.1.2.2.2.2.2.2.2.2.2.2.2) (zP_reg hP 3 rfl) 1 rfl) rfl rfl) (z_prec hK (zP_reg (L := l_Scenes Z.2.1 Ac v.2.2.1.1 v.2.2.1.2.1 v.2.2.1.2.2.1 v.2.2.1.2.2.2.1 v.2.2.1.2.2.2.2.1 v.2.2.1.2.2.2.2.2.1 v.2.2.1.2.2.2.2.2.2.1 v.2.2.1.2.2.2.2.2.2.2.1 v.2.2.1.2.2.2.2.2.2.2.2.1 v.2.2.1.2.2.2.2.2.2.2.2.2.1 v.2.2.1.2.2.2.2.2.2.2.2.2.2.1 v.2.2.1.2.2.2.2.2.2.2.2.2.2.2) (zP_reg hP 3 rfl) 1 rfl)) rfl hl.1 (Nat.le_of_ble_eq_true rfl) (z_d hX6_lockScenes_0 18 rfl) ⟨Nat.zero_le _, Nat.zero_le _⟩) hS hP (fun H locs hP hS => ?_)
      refine lv_istore_n (lv' := [(3, .int q2), (0, .ref mm), (1, .int v.2.2.2.2.2.1), (2, .int v.2.2.2.2.2.2)]) hx hb (z_d hX6_lockScenes_0 19 rfl) rfl hl (by decide) rfl (fun ls hl => ?_)
      refine lv_aload_n hx hb (z_d hX6_lockScenes_0 20 rfl) rfl (lv_at hl 1 rfl) ?_
      refine va_get (D := Z.1) (ci := 6) (v := .ref (As 0)) (C := RX6) (T := TX6) (N := 9) hx hb hts zinX6 hown hK.1 (zP_reg hP 0 rfl) 0 rfl rfl 0 (by decide) (hts _ k_f_X6_12) (fun _ h9 => h9) rfl (z_d hX6_lockScenes_0 21 rfl) ?_
      refine lv_iload_n hx hb (z_d hX6_lockScenes_0 22 rfl) rfl (lv_at hl 0 rfl) ?_
      refine z_let hF (fun q3 hq3 hF => ?_)
      refine z_ro_i (z_rV (As := [.int q2]) (rest := []) hx hb hml hown hts vt_X5_isLocked (c_X5_isLocked l Z As v.1 q2 _ hq3) rfl rfl ⟨Nat.le_of_ble_eq_true rfl, Nat.le_of_ble_eq_true rfl⟩ k_m_X6_115 zPro_blind (z_recv (q := (RX5, TX5, 10)) (ci := 5) (q0 := 0) hK (zP_reg (L := l_Script Z.2.1 As v.1.1 v.1.2.1 v.1.2.2.1 v.1.2.2.2.1 v.1.2.2.2.2.1 v.1.2.2.2.2.2.1 v.1.2.2.2.2.2.2.1 v.1.2.2.2.2.2.2.2.1 v.1.2.2.2.2.2.2.2.2.1 v.1.2.2.2.2.2.2.2.2.2) (zP_reg hP 1 rfl) 0 rfl) rfl rfl) (z_prec hK (zP_reg hP 1 rfl)) rfl hl.1 (Nat.le_of_ble_eq_true rfl) (z_d hX6_lockScenes_0 23 rfl) ⟨Nat.zero_le _, Nat.zero_le _⟩) hS hP (fun H locs hP hS => ?_)
      refine lv_if_ne (tgt := 93) hx hb (z_d hX6_lockScenes_0 24 rfl) (by decide) (fun hc46 => ?_) (fun hc46 => ?_)
      · have hF := z_neg hc46 hF
        refine z_let hF (fun u4 hu4 hF => ?_)
        refine lv_iinc (v := u4) (lv' := [(2, .int u4), (3, .int q2), (0, .ref mm), (1, .int v.2.2.2.2.2.1)]) hx hb (z_d hX6_lockScenes_0 45 rfl) hl (k := 3) rfl (z_inc1 hu4) (by decide) rfl (fun ls hl => ?_)
        refine lv_goto (tgt := 15) hx hb (z_d hX6_lockScenes_0 46 rfl) (by decide) ?_
        exact ih _ _ hF _ _ ls hP hD hS (lv_sub hl [2, 3, 0] rfl) K1
      · have hF := z_pos hc46 hF
        refine lv_aload_n hx hb (z_d hX6_lockScenes_0 25 rfl) rfl (lv_at hl 1 rfl) ?_
        refine va_get (D := Z.1) (ci := 6) (v := .ref (Bs 0)) (C := RX6) (T := TX6) (N := 9) hx hb hts zinX6 hown hK.1 (zP_reg hP 0 rfl) 0 rfl rfl 1 (by decide) (hts _ k_f_X6_16) (fun _ h9 => h9) rfl (z_d hX6_lockScenes_0 26 rfl) ?_
        refine lv_iload_n hx hb (z_d hX6_lockScenes_0 27 rfl) rfl (lv_at hl 0 rfl) ?_
        refine lv_aload_n hx hb (z_d hX6_lockScenes_0 28 rfl) rfl (lv_at hl 1 rfl) ?_
        refine va_get (D := Z.1) (ci := 6) (v := .ref (Ac 0)) (C := RX6) (T := TX6) (N := 9) hx hb hts zinX6 hown hK.1 (zP_reg hP 0 rfl) 0 rfl rfl 2 (by decide) (hts _ k_f_X6_22) (fun _ h9 => h9) rfl (z_d hX6_lockScenes_0 29 rfl) ?_
        refine va_getN (D := Z.1) (ci := 4) (v := .ref (Ac 7)) (C := RX4) (T := TX4) (N := 12) hx hb hts zinX4 hown hK.1 (zP_reg (L := l_Scenes Z.2.1 Ac v.2.2.1.1 v.2.2.1.2.1 v.2.2.1.2.2.1 v.2.2.1.2.2.2.1 v.2.2.1.2.2.2.2.1 v.2.2.1.2.2.2.2.2.1 v.2.2.1.2.2.2.2.2.2.1 v.2.2.1.2.2.2.2.2.2.2.1 v.2.2.1.2.2.2.2.2.2.2.2.1 v.2.2.1.2.2.2.2.2.2.2.2.2.1 v.2.2.1.2.2.2.2.2.2.2.2.2.2.1 v.2.2.1.2.2.2.2.2.2.2.2.2.2.2) (zP_reg hP 3 rfl) 0 rfl) 0 rfl rfl 6 (by decide) (kn_X6_153 hK.2) (fun _ h9 => h9) rfl (z_d hX6_lockScenes_0 30 rfl) ?_
        refine lv_iload_n hx hb (z_d hX6_lockScenes_0 31 rfl) rfl (lv_at hl 3 rfl) ?_
        refine z_let hF (fun q5 hq5 hF => ?_)
        refine z_ro_i (z_rV (As := [.int v.2.2.2.2.2.2]) (rest := [.int q2, .ref (Bs 0)]) hx hb hml hown hts vt_X3_at (c_rAt l Z 60 (Ac 7) (Ac 8) (by decide) v.2.2.1.2.2.2.2.2.2.1 v.2.2.2.2.2.2 _ hq5) rfl rfl ⟨Nat.le_of_ble_eq_true rfl, Nat.le_of_ble_eq_true rfl⟩ k_m_X6_150 zPro_blind (z_recv (q := (RX3, TX3, 1)) (ci := 3) (q0 := 0) hK (zP_reg (L := l_Scenes Z.2.1 Ac v.2.2.1.1 v.2.2.1.2.1 v.2.2.1.2.2.1 v.2.2.1.2.2.2.1 v.2.2.1.2.2.2.2.1 v.2.2.1.2.2.2.2.2.1 v.2.2.1.2.2.2.2.2.2.1 v.2.2.1.2.2.2.2.2.2.2.1 v.2.2.1.2.2.2.2.2.2.2.2.1 v.2.2.1.2.2.2.2.2.2.2.2.2.1 v.2.2.1.2.2.2.2.2.2.2.2.2.2.1 v.2.2.1.2.2.2.2.2.2.2.2.2.2.2) (zP_reg hP 3 rfl) 4 rfl) rfl rfl) (z_prec hK (zP_reg (L := l_Scenes Z.2.1 Ac v.2.2.1.1 v.2.2.1.2.1 v.2.2.1.2.2.1 v.2.2.1.2.2.2.1 v.2.2.1.2.2.2.2.1 v.2.2.1.2.2.2.2.2.1 v.2.2.1.2.2.2.2.2.2.1 v.2.2.1.2.2.2.2.2.2.2.1 v.2.2.1.2.2.2.2.2.2.2.2.1 v.2.2.1.2.2.2.2.2.2.2.2.2.1 v.2.2.1.2.2.2.2.2.2.2.2.2.2.1 v.2.2.1.2.2.2.2.2.2.2.2.2.2.2) (zP_reg hP 3 rfl) 4 rfl)) rfl hl.1 (Nat.le_of_ble_eq_true rfl) (z_d hX6_lockScenes_0 32 rfl) ⟨Nat.zero_le _, Nat.zero_le _⟩) hS hP (fun H locs hP hS => ?_)
        refine lv_aload_n hx hb (z_d hX6_lockScenes_0 33 rfl) rfl (lv_at hl 1 rfl) ?_
        refine va_get (D := Z.1) (ci := 6) (v := .ref (Ac 0)) (C := RX6) (T := TX6) (N := 9) hx hb hts zinX6 hown hK.1 (zP_reg hP 0 rfl) 0 rfl rfl 2 (by decide) (hts _ k_f_X6_22) (fun _ h9 => h9) rfl (z_d hX6_lockScenes_0 34 rfl) ?_
        refine va_getN (D := Z.1) (ci := 4) (v := .ref (Ac 9)) (C := RX4) (T := TX4) (N := 12) hx hb hts zinX4 hown hK.1 (zP_reg (L := l_Scenes Z.2.1 Ac v.2.2.1.1 v.2.2.1.2.1 v.2.2.1.2.2.1 v.2.2.1.2.2.2.1 v.2.2.1.2.2.2.2.1 v.2.2.1.2.2.2.2.2.1 v.2.2.1.2.2.2.2.2.2.1 v.2.2.1.2.2.2.2.2.2.2.1 v.2.2.1.2.2.2.2.2.2.2.2.1 v.2.2.1.2.2.2.2.2.2.2.2.2.1 v.2.2.1.2.2.2.2.2.2.2.2.2.2.1 v.2.2.1.2.2.2.2.2.2.2.2.2.2.2) (zP_reg hP 3 rfl) 0 rfl) 0 rfl rfl 7 (by decide) (kn_X6_156 hK.2) (fun _ h9 => h9) rfl (z_d hX6_lockScenes_0 35 rfl) ?_
        refine lv_iload_n hx hb (z_d hX6_lockScenes_0 36 rfl) rfl (lv_at hl 3 rfl) ?_
        refine z_let hF (fun q6 hq6 hF => ?_)
        refine z_ro_i (z_rV (As := [.int v.2.2.2.2.2.2]) (rest := [.int q5, .int q2, .ref (Bs 0)]) hx hb hml hown hts vt_X3_at (c_rAt l Z 60 (Ac 9) (Ac 10) (by decide) v.2.2.1.2.2.2.2.2.2.2.1 v.2.2.2.2.2.2 _ hq6) rfl rfl ⟨Nat.le_of_ble_eq_true rfl, Nat.le_of_ble_eq_true rfl⟩ k_m_X6_150 zPro_blind (z_recv (q := (RX3, TX3, 1)) (ci := 3) (q0 := 0) hK (zP_reg (L := l_Scenes Z.2.1 Ac v.2.2.1.1 v.2.2.1.2.1 v.2.2.1.2.2.1 v.2.2.1.2.2.2.1 v.2.2.1.2.2.2.2.1 v.2.2.1.2.2.2.2.2.1 v.2.2.1.2.2.2.2.2.2.1 v.2.2.1.2.2.2.2.2.2.2.1 v.2.2.1.2.2.2.2.2.2.2.2.1 v.2.2.1.2.2.2.2.2.2.2.2.2.1 v.2.2.1.2.2.2.2.2.2.2.2.2.2.1 v.2.2.1.2.2.2.2.2.2.2.2.2.2.2) (zP_reg hP 3 rfl) 5 rfl) rfl rfl) (z_prec hK (zP_reg (L := l_Scenes Z.2.1 Ac v.2.2.1.1 v.2.2.1.2.1 v.2.2.1.2.2.1 v.2.2.1.2.2.2.1 v.2.2.1.2.2.2.2.1 v.2.2.1.2.2.2.2.2.1 v.2.2.1.2.2.2.2.2.2.1 v.2.2.1.2.2.2.2.2.2.2.1 v.2.2.1.2.2.2.2.2.2.2.2.1 v.2.2.1.2.2.2.2.2.2.2.2.2.1 v.2.2.1.2.2.2.2.2.2.2.2.2.2.1 v.2.2.1.2.2.2.2.2.2.2.2.2.2.2) (zP_reg hP 3 rfl) 5 rfl)) rfl hl.1 (Nat.le_of_ble_eq_true rfl) (z_d hX6_lockScenes_0 37 rfl) ⟨Nat.zero_le _, Nat.zero_le _⟩) hS hP (fun H locs hP hS => ?_)
        refine lv_aload_n hx hb (z_d hX6_lockScenes_0 38 rfl) rfl (lv_at hl 1 rfl) ?_
        refine va_get (D := Z.1) (ci := 6) (v := .ref (Ac 0)) (C := RX6) (T := TX6) (N := 9) hx hb hts zinX6 hown hK.1 (zP_reg hP 0 rfl) 0 rfl rfl 2 (by decide) (hts _ k_f_X6_22) (fun _ h9 => h9) rfl (z_d hX6_lockScenes_0 39 rfl) ?_
        refine va_getN (D := Z.1) (ci := 4) (v := .ref (Ac 11)) (C := RX4) (T := TX4) (N := 12) hx hb hts zinX4 hown hK.1 (zP_reg (L := l_Scenes Z.2.1 Ac v.2.2.1.1 v.2.2.1.2.1 v.2.2.1.2.2.1 v.2.2.1.2.2.2.1 v.2.2.1.2.2.2.2.1 v.2.2.1.2.2.2.2.2.1 v.2.2.1.2.2.2.2.2.2.1 v.2.2.1.2.2.2.2.2.2.2.1 v.2.2.1.2.2.2.2.2.2.2.2.1 v.2.2.1.2.2.2.2.2.2.2.2.2.1 v.2.2.1.2.2.2.2.2.2.2.2.2.2.1 v.2.2.1.2.2.2.2.2.2.2.2.2.2.2) (zP_reg hP 3 rfl) 0 rfl) 0 rfl rfl 8 (by decide) (kn_X6_159 hK.2) (fun _ h9 => h9) rfl (z_d hX6_lockScenes_0 40 rfl) ?_
        refine lv_iload_n hx hb (z_d hX6_lockScenes_0 41 rfl) rfl (lv_at hl 3 rfl) ?_
        refine z_let hF (fun q7 hq7 hF => ?_)
        refine z_ro_i (z_rV (As := [.int v.2.2.2.2.2.2]) (rest := [.int q6, .int q5, .int q2, .ref (Bs 0)]) hx hb hml hown hts vt_X3_at (c_rAt l Z 60 (Ac 11) (Ac 12) (by decide) v.2.2.1.2.2.2.2.2.2.2.2.1 v.2.2.2.2.2.2 _ hq7) rfl rfl ⟨Nat.le_of_ble_eq_true rfl, Nat.le_of_ble_eq_true rfl⟩ k_m_X6_150 zPro_blind (z_recv (q := (RX3, TX3, 1)) (ci := 3) (q0 := 0) hK (zP_reg (L := l_Scenes Z.2.1 Ac v.2.2.1.1 v.2.2.1.2.1 v.2.2.1.2.2.1 v.2.2.1.2.2.2.1 v.2.2.1.2.2.2.2.1 v.2.2.1.2.2.2.2.2.1 v.2.2.1.2.2.2.2.2.2.1 v.2.2.1.2.2.2.2.2.2.2.1 v.2.2.1.2.2.2.2.2.2.2.2.1 v.2.2.1.2.2.2.2.2.2.2.2.2.1 v.2.2.1.2.2.2.2.2.2.2.2.2.2.1 v.2.2.1.2.2.2.2.2.2.2.2.2.2.2) (zP_reg hP 3 rfl) 6 rfl) rfl rfl) (z_prec hK (zP_reg (L := l_Scenes Z.2.1 Ac v.2.2.1.1 v.2.2.1.2.1 v.2.2.1.2.2.1 v.2.2.1.2.2.2.1 v.2.2.1.2.2.2.2.1 v.2.2.1.2.2.2.2.2.1 v.2.2.1.2.2.2.2.2.2.1 v.2.2.1.2.2.2.2.2.2.2.1 v.2.2.1.2.2.2.2.2.2.2.2.1 v.2.2.1.2.2.2.2.2.2.2.2.2.1 v.2.2.1.2.2.2.2.2.2.2.2.2.2.1 v.2.2.1.2.2.2.2.2.2.2.2.2.2.2) (zP_reg hP 3 rfl) 6 rfl)) rfl hl.1 (Nat.le_of_ble_eq_true rfl) (z_d hX6_lockScenes_0 42 rfl) ⟨Nat.zero_le _, Nat.zero_le _⟩) hS hP (fun H locs hP hS => ?_)
        refine z_let hF (fun q8 hq8 hF => ?_)
        refine z_mu1 (L := [w_Main mm As Bs Ac Bc Ag Bg hh rt tl, w_Script Z.2.1 As v.1, w_Script Z.2.1 Bs v.2.1, w_Scenes Z.2.1 Ac v.2.2.1, w_Scenes Z.2.1 Bc E, w_Pages Z.2.1 Ag v.2.2.2.1, w_Pages Z.2.1 Bg F, w_Hist Z.2.1 Z.2.2.1 hh ha Ah v.2.2.2.2.1, w_Row Z.2.1 200 rt rq tx]) (L' := [w_Main mm As Bs Ac Bc Ag Bg hh rt tl, w_Script Z.2.1 As v.1, w_Script Z.2.1 Bs q8, w_Scenes Z.2.1 Ac v.2.2.1, w_Scenes Z.2.1 Bc E, w_Pages Z.2.1 Ag v.2.2.2.1, w_Pages Z.2.1 Bg F, w_Hist Z.2.1 Z.2.2.1 hh ha Ah v.2.2.2.2.1, w_Row Z.2.1 200 rt rq tx]) (z_rV (As := [.int q2, .int q5, .int q6, .int q7]) (rest := []) hx hb hml hown hts vt_X5_lock (c_X5_lock l Z Bs v.2.1 q2 q5 q6 q7 _ hq8) rfl rfl ⟨Nat.le_of_ble_eq_true rfl, Nat.le_of_ble_eq_true rfl⟩ k_m_X6_162 zPmu_blind (z_recv (q := (RX5, TX5, 10)) (ci := 5) (q0 := 0) hK (zP_reg (L := l_Script Z.2.1 Bs v.2.1.1 v.2.1.2.1 v.2.1.2.2.1 v.2.1.2.2.2.1 v.2.1.2.2.2.2.1 v.2.1.2.2.2.2.2.1 v.2.1.2.2.2.2.2.2.1 v.2.1.2.2.2.2.2.2.2.1 v.2.1.2.2.2.2.2.2.2.2.1 v.2.1.2.2.2.2.2.2.2.2.2) (zP_reg hP 2 rfl) 0 rfl) rfl rfl) (z_prem hK (zP_reg hP 2 rfl) (zD_one hD 2 _ rfl)) rfl hl.1 (Nat.le_of_ble_eq_true rfl) (z_d hX6_lockScenes_0 43 rfl) ⟨Nat.zero_le _, Nat.zero_le _⟩) hS hP hD 2 rfl rfl (adr_Script _ _ _ _) (fun H locs hP hD hS => ?_)
        refine W.eq (g2 := F0 m 90 ls []) rfl ?_
        refine z_let hF (fun u9 hu9 hF => ?_)
        refine lv_iinc (v := u9) (lv' := [(1, .int u9), (3, .int q2), (0, .ref mm), (2, .int v.2.2.2.2.2.2)]) hx hb (z_d hX6_lockScenes_0 44 rfl) hl (k := 2) rfl (z_inc1 hu9) (by decide) rfl (fun ls hl => ?_)
        refine z_let hF (fun u10 hu10 hF => ?_)
        refine lv_iinc (v := u10) (lv' := [(2, .int u10), (1, .int u9), (3, .int q2), (0, .ref mm)]) hx hb (z_d hX6_lockScenes_0 45 rfl) hl (k := 3) rfl (z_inc1 hu10) (by decide) rfl (fun ls hl => ?_)
        refine lv_goto (tgt := 15) hx hb (z_d hX6_lockScenes_0 46 rfl) (by decide) ?_
        exact ih _ _ hF _ _ ls hP hD hS (lv_sub hl [3, 1, 0] rfl) K1
  refine lv_aload_n hx hb (z_d hX6_lockScenes_0 0 rfl) rfl (lv_at hl 0 rfl) ?_
  refine va_get (D := Z.1) (ci := 6) (v := .ref (Bs 0)) (C := RX6) (T := TX6) (N := 9) hx hb hts zinX6 hown hK.1 (zP_reg hP 0 rfl) 0 rfl rfl 1 (by decide) (hts _ k_f_X6_16) (fun _ h9 => h9) rfl (z_d hX6_lockScenes_0 1 rfl) ?_
  refine lv_aload_n hx hb (z_d hX6_lockScenes_0 2 rfl) rfl (lv_at hl 0 rfl) ?_
  refine va_get (D := Z.1) (ci := 6) (v := .ref (As 0)) (C := RX6) (T := TX6) (N := 9) hx hb hts zinX6 hown hK.1 (zP_reg hP 0 rfl) 0 rfl rfl 0 (by decide) (hts _ k_f_X6_12) (fun _ h9 => h9) rfl (z_d hX6_lockScenes_0 3 rfl) ?_
  refine z_let hF (fun q1 hq1 hF => ?_)
  refine z_mu2 (L := [w_Main mm As Bs Ac Bc Ag Bg hh rt tl, w_Script Z.2.1 As S, w_Script Z.2.1 Bs D, w_Scenes Z.2.1 Ac C, w_Scenes Z.2.1 Bc E, w_Pages Z.2.1 Ag G, w_Pages Z.2.1 Bg F, w_Hist Z.2.1 Z.2.2.1 hh ha Ah Hs, w_Row Z.2.1 200 rt rq tx]) (L' := [w_Main mm As Bs Ac Bc Ag Bg hh rt tl, w_Script Z.2.1 As S, w_Script Z.2.1 Bs q1, w_Scenes Z.2.1 Ac C, w_Scenes Z.2.1 Bc E, w_Pages Z.2.1 Ag G, w_Pages Z.2.1 Bg F, w_Hist Z.2.1 Z.2.2.1 hh ha Ah Hs, w_Row Z.2.1 200 rt rq tx]) (z_rV (As := [.ref (As 0)]) (rest := []) hx hb hml hown hts vt_X5_copyFrom (c_X5_copyFrom l Z Bs As D S _ hq1) rfl rfl ⟨Nat.le_of_ble_eq_true rfl, Nat.le_of_ble_eq_true rfl⟩ k_m_X6_94 zPmu_blind (z_recv (q := (RX5, TX5, 10)) (ci := 5) (q0 := 0) hK (zP_reg (L := l_Script Z.2.1 Bs D.1 D.2.1 D.2.2.1 D.2.2.2.1 D.2.2.2.2.1 D.2.2.2.2.2.1 D.2.2.2.2.2.2.1 D.2.2.2.2.2.2.2.1 D.2.2.2.2.2.2.2.2.1 D.2.2.2.2.2.2.2.2.2) (zP_reg hP 2 rfl) 0 rfl) rfl rfl) (z_prem hK (zP_r2 hP 2 1 rfl rfl) (zD_r2 hD 2 1 rfl rfl (by decide))) rfl hl.1 (Nat.le_of_ble_eq_true rfl) (z_d hX6_lockScenes_0 4 rfl) ⟨Nat.zero_le _, Nat.zero_le _⟩) hS hP hD 2 1 rfl rfl (by decide) rfl (adr_Script _ _ _ _) (adr_Script _ _ _ _) (fun H locs hP hD hS => ?_)
  refine W.eq (g2 := F0 m 11 ls []) rfl ?_
  refine lv_iconst (v := 0) hx hb (z_d hX6_lockScenes_0 5 rfl) (by decide) ?_
  refine lv_istore_n (lv' := [(1, .int 0), (0, .ref mm)]) hx hb (z_d hX6_lockScenes_0 6 rfl) rfl hl (by decide) rfl (fun ls hl => ?_)
  refine lv_iconst (v := 0) hx hb (z_d hX6_lockScenes_0 7 rfl) (by decide) ?_
  refine lv_istore_n (lv' := [(2, .int 0), (1, .int 0), (0, .ref mm)]) hx hb (z_d hX6_lockScenes_0 8 rfl) rfl hl (by decide) rfl (fun ls hl => ?_)
  refine z_bnd hF (fun q11 hq11 hF => ?_)
  refine L15  _ _ _ hq11 _ _ ls hP hD hS (lv_sub hl [2, 1, 0] rfl) (fun H locs ls hP hD hS hl => ?_)
  refine lv_aload_n hx hb (z_d hX6_lockScenes_0 47 rfl) rfl (lv_at hl 0 rfl) ?_
  refine z_bnd hF (fun q12 hq12 hF => ?_)
  refine z_mu0 (z_rV (As := []) (rest := []) hx hb hml hown hts vt_X6_keepDraft (c_X6_keepDraft l Z mm As Bs Ac Bc Ag Bg hh ha Ah rt rq tl q11.1 q11.2.1 q11.2.2.1 E q11.2.2.2.1 F q11.2.2.2.2.1 tx _ hq12) rfl rfl ⟨Nat.le_of_ble_eq_true rfl, Nat.le_of_ble_eq_true rfl⟩ k_m_X6_107 zPmu_blind (z_recv (q := (RX6, TX6, 9)) (ci := 6) (q0 := 0) hK (zP_reg hP 0 rfl) rfl rfl) (z_prem hK hP hD) rfl hl.1 (Nat.le_of_ble_eq_true rfl) (z_d hX6_lockScenes_0 48 rfl) ⟨Nat.zero_le _, Nat.zero_le _⟩) hS hD (zadr_cons rfl (zadr_cons (adr_Script _ _ _ _) (zadr_cons (adr_Script _ _ _ _) (zadr_cons (adr_Scenes _ _ _ _) (zadr_cons (adr_Scenes _ _ _ _) (zadr_cons (adr_Pages _ _ _ _) (zadr_cons (adr_Pages _ _ _ _) (zadr_cons (adr_Hist _ _ _ _ _ _ _) (zadr_cons rfl rfl))))))))) (fun H locs hP hD hS => ?_)
  have hP : va_P Z.1 vwCl ([w_Main mm As Bs Ac Bc Ag Bg hh rt tl, w_Script Z.2.1 As q12.1, w_Script Z.2.1 Bs q11.2.1, w_Scenes Z.2.1 Ac q12.2.1, w_Scenes Z.2.1 Bc E, w_Pages Z.2.1 Ag q12.2.2.1, w_Pages Z.2.1 Bg F, w_Hist Z.2.1 Z.2.2.1 hh ha Ah q12.2.2.2, w_Row Z.2.1 200 rt rq tx]).flatten H := hP
  have hD : va_D A ([w_Main mm As Bs Ac Bc Ag Bg hh rt tl, w_Script Z.2.1 As q12.1, w_Script Z.2.1 Bs q11.2.1, w_Scenes Z.2.1 Ac q12.2.1, w_Scenes Z.2.1 Bc E, w_Pages Z.2.1 Ag q12.2.2.1, w_Pages Z.2.1 Bg F, w_Hist Z.2.1 Z.2.2.1 hh ha Ah q12.2.2.2, w_Row Z.2.1 200 rt rq tx]).flatten := hD
  refine W.eq (g2 := F0 m 103 ls []) rfl ?_
  refine lv_iload_n hx hb (z_d hX6_lockScenes_0 49 rfl) rfl (lv_at hl 1 rfl) ?_
  obtain rfl := Option.some.inj hF
  subst hQ
  subst hA
  exact W.iret hx hb hr (fun t ht hW => zq_mu (by rw [ht]; exact hP) (hS.F ht)) hS.2.2 (z_d hX6_lockScenes_0 50 rfl)
def rm_X6_lockPages : Room := { frames := 6, cells := 0, slots := 0, locals := 139 }
set_option maxRecDepth 100000 in
set_option maxHeartbeats 4000000 in
theorem c_X6_lockPages (l : Launch) (Z : zZ) (mm : Nat) (As : Nat → Nat) (Bs : Nat → Nat) (Ac : Nat → Nat) (Bc : Nat → Nat) (Ag : Nat → Nat) (Bg : Nat → Nat) (hh ha : Nat) (Ah : Nat → Nat → Nat) (rt rq : Nat) (tl : Int32) (S : t_Script) (D : t_Script) (C : t_Scenes) (E : t_Scenes) (G : t_Pages) (F : t_Pages) (Hs : t_Hist) (tx : Rw) (R : Int32 × t_Script × t_Script × t_Scenes × t_Pages × t_Hist) (hF : X6_lockPages tl S D C E G F Hs tx = some R) : zMU l yX6_lockPages (zw yX6_lockPages cX6_lockPages 4 (some .int)) rm_X6_lockPages Z [.ref mm] (List.flatten [w_Main mm As Bs Ac Bc Ag Bg hh rt tl, w_Script Z.2.1 As S, w_Script Z.2.1 Bs D, w_Scenes Z.2.1 Ac C, w_Scenes Z.2.1 Bc E, w_Pages Z.2.1 Ag G, w_Pages Z.2.1 Bg F, w_Hist Z.2.1 Z.2.2.1 hh ha Ah Hs, w_Row Z.2.1 200 rt rq tx]) (List.flatten [w_Main mm As Bs Ac Bc Ag Bg hh rt tl, w_Script Z.2.1 As R.2.1, w_Script Z.2.1 Bs R.2.2.1, w_Scenes Z.2.1 Ac R.2.2.2.1, w_Scenes Z.2.1 Bc E, w_Pages Z.2.1 Ag R.2.2.2.2.1, w_Pages Z.2.1 Bg F, w_Hist Z.2.1 Z.2.2.1 hh ha Ah R.2.2.2.2.2, w_Row Z.2.1 200 rt rq tx]) (some (.int R.1)) := by
  refine zMU_of (by decide) (Nat.le_of_ble_eq_true rfl) (fun p e s m below meth c hx hb hr hml hown hts hlocks hK A hA Q hQ ls hl hP hD hS => ?_)
  unfold X6_lockPages at hF
  have hl : lv_has ls 4 [(0, .ref mm)] := hl
  have hown : s.vm.findClass RX6 = some m.cls := hown
  have L13 : ∀  (n : Nat) (v : t_Script × t_Script × t_Scenes × t_Pages × t_Hist × Int32) (X : t_Script × t_Script × t_Scenes × t_Pages × t_Hist) (hF : zloop (b_X6_lockPages_13 tl E F tx ) n v = some X) (H : Heap) (locs : List Loc) (ls : Array Slot) (hP : va_P Z.1 vwCl ([w_Main mm As Bs Ac Bc Ag Bg hh rt tl, w_Script Z.2.1 As v.1, w_Script Z.2.1 Bs v.2.1, w_Scenes Z.2.1 Ac v.2.2.1, w_Scenes Z.2.1 Bc E, w_Pages Z.2.1 Ag v.2.2.2.1, w_Pages Z.2.1 Bg F, w_Hist Z.2.1 Z.2.2.1 hh ha Ah v.2.2.2.2.1, w_Row Z.2.1 200 rt rq tx]).flatten H) (hD : va_D A ([w_Main mm As Bs Ac Bc Ag Bg hh rt tl, w_Script Z.2.1 As v.1, w_Script Z.2.1 Bs v.2.1, w_Scenes Z.2.1 Ac v.2.2.1, w_Scenes Z.2.1 Bc E, w_Pages Z.2.1 Ag v.2.2.2.1, w_Pages Z.2.1 Bg F, w_Hist Z.2.1 Z.2.2.1 hh ha Ah v.2.2.2.2.1, w_Row Z.2.1 200 rt rq tx]).flatten) (hS : va_S A s.heap H locs) (hl : lv_has ls 4 [(0, .ref mm), (1, .int v.2.2.2.2.2)]) (K1 : ∀ (H : Heap) (locs : List Loc) (ls : Array Slot) (hP : va_P Z.1 vwCl ([w_Main mm As Bs Ac Bc Ag Bg hh rt tl, w_Script Z.2.1 As X.1, w_Script Z.2.1 Bs X.2.1, w_Scenes Z.2.1 Ac X.2.2.1, w_Scenes Z.2.1 Bc E, w_Pages Z.2.1 Ag X.2.2.2.1, w_Pages Z.2.1 Bg F, w_Hist Z.2.1 Z.2.2.1 hh ha Ah X.2.2.2.2, w_Row Z.2.1 200 rt rq tx]).flatten H) (hD : va_D A ([w_Main mm As Bs Ac Bc Ag Bg hh rt tl, w_Script Z.2.1 As X.1, w_Script Z.2.1 Bs X.2.1, w_Scenes Z.2.1 Ac X.2.2.1, w_Scenes Z.2.1 Bc E, w_Pages Z.2.1 Ag X.2.2.2.1, w_Pages Z.2.1 Bg F, w_Hist Z.2.1 Z.2.2.1 hh ha Ah X.2.2.2.2, w_Row Z.2.1 200 rt rq tx]).flatten) (hS : va_S A s.heap H locs) (hl : lv_has ls 4 [(0, .ref mm)]), W p l e rm_X6_lockPages s m ([.ref mm] : List Value).toArray below meth c H locs 0 0 Q (F0 m 42 ls [])), W p l e rm_X6_lockPages s m ([.ref mm] : List Value).toArray below meth c H locs 0 0 Q (F0 m 13 ls []) := by
    skip
    refine z_loopE (fun rec ih v X hF H locs ls hP hD hS hl K1 => ?_)
    unfold b_X6_lockPages_13 at hF
    refine lv_iload_n hx hb (z_d hX6_lockPages_0 7 rfl) rfl (lv_at hl 1 rfl) ?_
    refine lv_aload_n hx hb (z_d hX6_lockPages_0 8 rfl) rfl (lv_at hl 0 rfl) ?_
    refine va_get (D := Z.1) (ci := 6) (v := .ref (Bs 0)) (C := RX6) (T := TX6) (N := 9) hx hb hts zinX6 hown hK.1 (zP_reg hP 0 rfl) 0 rfl rfl 1 (by decide) (hts _ k_f_X6_16) (fun _ h9 => h9) rfl (z_d hX6_lockPages_0 9 rfl) ?_
    refine va_getN (D := Z.1) (ci := 5) (v := .int v.2.1.1) (C := RX5) (T := TX5) (N := 10) hx hb hts zinX5 hown hK.1 (zP_reg (L := l_Script Z.2.1 Bs v.2.1.1 v.2.1.2.1 v.2.1.2.2.1 v.2.1.2.2.2.1 v.2.1.2.2.2.2.1 v.2.1.2.2.2.2.2.1 v.2.1.2.2.2.2.2.2.1 v.2.1.2.2.2.2.2.2.2.1 v.2.1.2.2.2.2.2.2.2.2.1 v.2.1.2.2.2.2.2.2.2.2.2) (zP_reg hP 2 rfl) 0 rfl) 0 rfl rfl 0 (by decide) (kn_X6_59 hK.2) (fun _ h9 => h9) rfl (z_d hX6_lockPages_0 10 rfl) ?_
    refine lv_icmp_ge (tgt := 42) hx hb (z_d hX6_lockPages_0 11 rfl) (by decide) (fun hc21 => ?_) (fun hc21 => ?_)
    · have hF := z_pos hc21 hF
      obtain rfl := Option.some.inj hF
      exact K1 _ _ ls hP hD hS (lv_sub hl [0] rfl)
    · have hF := z_neg hc21 hF
      refine lv_aload_n hx hb (z_d hX6_lockPages_0 12 rfl) rfl (lv_at hl 0 rfl) ?_
      refine va_get (D := Z.1) (ci := 6) (v := .ref (Bs 0)) (C := RX6) (T := TX6) (N := 9) hx hb hts zinX6 hown hK.1 (zP_reg hP 0 rfl) 0 rfl rfl 1 (by decide) (hts _ k_f_X6_16) (fun _ h9 => h9) rfl (z_d hX6_lockPages_0 13 rfl) ?_
      refine va_getN (D := Z.1) (ci := 5) (v := .ref (Bs 7)) (C := RX5) (T := TX5) (N := 10) hx hb hts zinX5 hown hK.1 (zP_reg (L := l_Script Z.2.1 Bs v.2.1.1 v.2.1.2.1 v.2.1.2.2.1 v.2.1.2.2.2.1 v.2.1.2.2.2.2.1 v.2.1.2.2.2.2.2.1 v.2.1.2.2.2.2.2.2.1 v.2.1.2.2.2.2.2.2.2.1 v.2.1.2.2.2.2.2.2.2.2.1 v.2.1.2.2.2.2.2.2.2.2.2) (zP_reg hP 2 rfl) 0 rfl) 0 rfl rfl 5 (by decide) (kn_X6_179 hK.2) (fun _ h9 => h9) rfl (z_d hX6_lockPages_0 14 rfl) ?_
      refine lv_iload_n hx hb (z_d hX6_lockPages_0 15 rfl) rfl (lv_at hl 1 rfl) ?_
      refine lv_iconst (v := (-1)) hx hb (z_d hX6_lockPages_0 16 rfl) (by decide) ?_
      refine z_let hF (fun q2 hq2 hF => ?_)
      have hP2 := zfm (pre := [w_Main mm As Bs Ac Bc Ag Bg hh rt tl, w_Script Z.2.1 As v.1]) (l := l_Script Z.2.1 Bs v.2.1.1 v.2.1.2.1 v.2.1.2.2.1 v.2.1.2.2.2.1 v.2.1.2.2.2.2.1 v.2.1.2.2.2.2.2.1 v.2.1.2.2.2.2.2.2.1 v.2.1.2.2.2.2.2.2.2.1 v.2.1.2.2.2.2.2.2.2.2.1 v.2.1.2.2.2.2.2.2.2.2.2) (post := [w_Scenes Z.2.1 Ac v.2.2.1, w_Scenes Z.2.1 Bc E, w_Pages Z.2.1 Ag v.2.2.2.1, w_Pages Z.2.1 Bg F, w_Hist Z.2.1 Z.2.2.1 hh ha Ah v.2.2.2.2.1, w_Row Z.2.1 200 rt rq tx]) hP
      have hD2 := zfmD (pre := [w_Main mm As Bs Ac Bc Ag Bg hh rt tl, w_Script Z.2.1 As v.1]) (l := l_Script Z.2.1 Bs v.2.1.1 v.2.1.2.1 v.2.1.2.2.1 v.2.1.2.2.2.1 v.2.1.2.2.2.2.1 v.2.1.2.2.2.2.2.1 v.2.1.2.2.2.2.2.2.1 v.2.1.2.2.2.2.2.2.2.1 v.2.1.2.2.2.2.2.2.2.2.1 v.2.1.2.2.2.2.2.2.2.2.2) (post := [w_Scenes Z.2.1 Ac v.2.2.1, w_Scenes Z.2.1 Bc E, w_Pages Z.2.1 Ag v.2.2.2.1, w_Pages Z.2.1 Bg F, w_Hist Z.2.1 Z.2.2.1 hh ha Ah v.2.2.2.2.1, w_Row Z.2.1 200 rt rq tx]) hD
      refine z_mu1 (L := [w_Main mm As Bs Ac Bc Ag Bg hh rt tl, w_Script Z.2.1 As v.1] ++ (l_Script Z.2.1 Bs v.2.1.1 v.2.1.2.1 v.2.1.2.2.1 v.2.1.2.2.2.1 v.2.1.2.2.2.2.1 v.2.1.2.2.2.2.2.1 v.2.1.2.2.2.2.2.2.1 v.2.1.2.2.2.2.2.2.2.1 v.2.1.2.2.2.2.2.2.2.2.1 v.2.1.2.2.2.2.2.2.2.2.2 ++ [w_Scenes Z.2.1 Ac v.2.2.1, w_Scenes Z.2.1 Bc E, w_Pages Z.2.1 Ag v.2.2.2.1, w_Pages Z.2.1 Bg F, w_Hist Z.2.1 Z.2.2.1 hh ha Ah v.2.2.2.2.1, w_Row Z.2.1 200 rt rq tx])) (L' := [w_Main mm As Bs Ac Bc Ag Bg hh rt tl, w_Script Z.2.1 As v.1] ++ (l_Script Z.2.1 Bs v.2.1.1 v.2.1.2.1 v.2.1.2.2.1 v.2.1.2.2.2.1 v.2.1.2.2.2.2.1 q2 v.2.1.2.2.2.2.2.2.1 v.2.1.2.2.2.2.2.2.2.1 v.2.1.2.2.2.2.2.2.2.2.1 v.2.1.2.2.2.2.2.2.2.2.2 ++ [w_Scenes Z.2.1 Ac v.2.2.1, w_Scenes Z.2.1 Bc E, w_Pages Z.2.1 Ag v.2.2.2.1, w_Pages Z.2.1 Bg F, w_Hist Z.2.1 Z.2.2.1 hh ha Ah v.2.2.2.2.1, w_Row Z.2.1 200 rt rq tx])) (z_rV (As := [.int v.2.2.2.2.2, .int (-1)]) (rest := []) hx hb hml hown hts vt_X3_put (c_rPut l Z 60 (Bs 7) (Bs 8) (by decide) v.2.1.2.2.2.2.2.1 v.2.2.2.2.2 (-1) _ hq2) rfl rfl ⟨Nat.le_of_ble_eq_true rfl, Nat.le_of_ble_eq_true rfl⟩ k_m_X6_128 zPmu_blind (z_recv (q := (RX3, TX3, 1)) (ci := 3) (q0 := 0) hK (zP_reg (L := l_Script Z.2.1 Bs v.2.1.1 v.2.1.2.1 v.2.1.2.2.1 v.2.1.2.2.2.1 v.2.1.2.2.2.2.1 v.2.1.2.2.2.2.2.1 v.2.1.2.2.2.2.2.2.1 v.2.1.2.2.2.2.2.2.2.1 v.2.1.2.2.2.2.2.2.2.2.1 v.2.1.2.2.2.2.2.2.2.2.2) (zP_reg hP 2 rfl) 4 rfl) rfl rfl) (z_prem hK (zP_reg (L := l_Script Z.2.1 Bs v.2.1.1 v.2.1.2.1 v.2.1.2.2.1 v.2.1.2.2.2.1 v.2.1.2.2.2.2.1 v.2.1.2.2.2.2.2.1 v.2.1.2.2.2.2.2.2.1 v.2.1.2.2.2.2.2.2.2.1 v.2.1.2.2.2.2.2.2.2.2.1 v.2.1.2.2.2.2.2.2.2.2.2) (zP_reg hP 2 rfl) 4 rfl) (zD_one (L := [w_Main mm As Bs Ac Bc Ag Bg hh rt tl, w_Script Z.2.1 As v.1] ++ (l_Script Z.2.1 Bs v.2.1.1 v.2.1.2.1 v.2.1.2.2.1 v.2.1.2.2.2.1 v.2.1.2.2.2.2.1 v.2.1.2.2.2.2.2.1 v.2.1.2.2.2.2.2.2.1 v.2.1.2.2.2.2.2.2.2.1 v.2.1.2.2.2.2.2.2.2.2.1 v.2.1.2.2.2.2.2.2.2.2.2 ++ [w_Scenes Z.2.1 Ac v.2.2.1, w_Scenes Z.2.1 Bc E, w_Pages Z.2.1 Ag v.2.2.2.1, w_Pages Z.2.1 Bg F, w_Hist Z.2.1 Z.2.2.1 hh ha Ah v.2.2.2.2.1, w_Row Z.2.1 200 rt rq tx])) hD2 6 _ rfl)) rfl hl.1 (Nat.le_of_ble_eq_true rfl) (z_d hX6_lockPages_0 17 rfl) ⟨Nat.zero_le _, Nat.zero_le _⟩) hS hP2 hD2 6 rfl rfl rfl (fun H locs hP hD hS => ?_)
      have hP : va_P Z.1 vwCl ([w_Main mm As Bs Ac Bc Ag Bg hh rt tl, w_Script Z.2.1 As v.1, w_Script Z.2.1 Bs (v.2.1.1, v.2.1.2.1, v.2.1.2.2.1, v.2.1.2.2.2.1, v.2.1.2.2.2.2.1, q2, v.2.1.2.2.2.2.2.2.1, v.2.1.2.2.2.2.2.2.2.1, v.2.1.2.2.2.2.2.2.2.2.1, v.2.1.2.2.2.2.2.2.2.2.2), w_Scenes Z.2.1 Ac v.2.2.1, w_Scenes Z.2.1 Bc E, w_Pages Z.2.1 Ag v.2.2.2.1, w_Pages Z.2.1 Bg F, w_Hist Z.2.1 Z.2.2.1 hh ha Ah v.2.2.2.2.1, w_Row Z.2.1 200 rt rq tx]).flatten H := zfn (pre := [w_Main mm As Bs Ac Bc Ag Bg hh rt tl, w_Script Z.2.1 As v.1]) (l := l_Script Z.2.1 Bs v.2.1.1 v.2.1.2.1 v.2.1.2.2.1 v.2.1.2.2.2.1 v.2.1.2.2.2.2.1 q2 v.2.1.2.2.2.2.2.2.1 v.2.1.2.2.2.2.2.2.2.1 v.2.1.2.2.2.2.2.2.2.2.1 v.2.1.2.2.2.2.2.2.2.2.2) (post := [w_Scenes Z.2.1 Ac v.2.2.1, w_Scenes Z.2.1 Bc E, w_Pages Z.2.1 Ag v.2.2.2.1, w_Pages Z.2.1 Bg F, w_Hist Z.2.1 Z.2.2.1 hh ha Ah v.2.2.2.2.1, w_Row Z.2.1 200 rt rq tx]) hP
      have hD : va_D A ([w_Main mm As Bs Ac Bc Ag Bg hh rt tl, w_Script Z.2.1 As v.1, w_Script Z.2.1 Bs (v.2.1.1, v.2.1.2.1, v.2.1.2.2.1, v.2.1.2.2.2.1, v.2.1.2.2.2.2.1, q2, v.2.1.2.2.2.2.2.2.1, v.2.1.2.2.2.2.2.2.2.1, v.2.1.2.2.2.2.2.2.2.2.1, v.2.1.2.2.2.2.2.2.2.2.2), w_Scenes Z.2.1 Ac v.2.2.1, w_Scenes Z.2.1 Bc E, w_Pages Z.2.1 Ag v.2.2.2.1, w_Pages Z.2.1 Bg F, w_Hist Z.2.1 Z.2.2.1 hh ha Ah v.2.2.2.2.1, w_Row Z.2.1 200 rt rq tx]).flatten := zfnD (pre := [w_Main mm As Bs Ac Bc Ag Bg hh rt tl, w_Script Z.2.1 As v.1]) (l := l_Script Z.2.1 Bs v.2.1.1 v.2.1.2.1 v.2.1.2.2.1 v.2.1.2.2.2.1 v.2.1.2.2.2.2.1 q2 v.2.1.2.2.2.2.2.2.1 v.2.1.2.2.2.2.2.2.2.1 v.2.1.2.2.2.2.2.2.2.2.1 v.2.1.2.2.2.2.2.2.2.2.2) (post := [w_Scenes Z.2.1 Ac v.2.2.1, w_Scenes Z.2.1 Bc E, w_Pages Z.2.1 Ag v.2.2.2.1, w_Pages Z.2.1 Bg F, w_Hist Z.2.1 Z.2.2.1 hh ha Ah v.2.2.2.2.1, w_Row Z.2.1 200 rt rq tx]) hD
      refine W.eq (g2 := F0 m 36 ls []) rfl ?_
      refine z_let hF (fun u3 hu3 hF => ?_)
      refine lv_iinc (v := u3) (lv' := [(1, .int u3), (0, .ref mm)]) hx hb (z_d hX6_lockPages_0 18 rfl) hl (k := 1) rfl (z_inc1 hu3) (by decide) rfl (fun ls hl => ?_)
      refine lv_goto (tgt := 13) hx hb (z_d hX6_lockPages_0 19 rfl) (by decide) ?_
      exact ih _ _ hF _ _ ls hP hD hS (lv_sub hl [1, 0] rfl) K1
  have L46 : ∀  (n : Nat) (v : t_Script × t_Script × t_Scenes × t_Pages × t_Hist × Int32 × Int32) (X : t_Script × t_Script × t_Scenes × t_Pages × t_Hist × Int32) (hF : zloop (b_X6_lockPages_46 tl E F tx ) n v = some X) (H : Heap) (locs : List Loc) (ls : Array Slot) (hP : va_P Z.1 vwCl ([w_Main mm As Bs Ac Bc Ag Bg hh rt tl, w_Script Z.2.1 As v.1, w_Script Z.2.1 Bs v.2.1, w_Scenes Z.2.1 Ac v.2.2.1, w_Scenes Z.2.1 Bc E, w_Pages Z.2.1 Ag v.2.2.2.1, w_Pages Z.2.1 Bg F, w_Hist Z.2.1 Z.2.2.1 hh ha Ah v.2.2.2.2.1, w_Row Z.2.1 200 rt rq tx]).flatten H) (hD : va_D A ([w_Main mm As Bs Ac Bc Ag Bg hh rt tl, w_Script Z.2.1 As v.1, w_Script Z.2.1 Bs v.2.1, w_Scenes Z.2.1 Ac v.2.2.1, w_Scenes Z.2.1 Bc E, w_Pages Z.2.1 Ag v.2.2.2.1, w_Pages Z.2.1 Bg F, w_Hist Z.2.1 Z.2.2.1 hh ha Ah v.2.2.2.2.1, w_Row Z.2.1 200 rt rq tx]).flatten) (hS : va_S A s.heap H locs) (hl : lv_has ls 4 [(0, .ref mm), (1, .int v.2.2.2.2.2.1), (2, .int v.2.2.2.2.2.2)]) (K1 : ∀ (H : Heap) (locs : List Loc) (ls : Array Slot) (hP : va_P Z.1 vwCl ([w_Main mm As Bs Ac Bc Ag Bg hh rt tl, w_Script Z.2.1 As X.1, w_Script Z.2.1 Bs X.2.1, w_Scenes Z.2.1 Ac X.2.2.1, w_Scenes Z.2.1 Bc E, w_Pages Z.2.1 Ag X.2.2.2.1, w_Pages Z.2.1 Bg F, w_Hist Z.2.1 Z.2.2.1 hh ha Ah X.2.2.2.2.1, w_Row Z.2.1 200 rt rq tx]).flatten H) (hD : va_D A ([w_Main mm As Bs Ac Bc Ag Bg hh rt tl, w_Script Z.2.1 As X.1, w_Script Z.2.1 Bs X.2.1, w_Scenes Z.2.1 Ac X.2.2.1, w_Scenes Z.2.1 Bc E, w_Pages Z.2.1 Ag X.2.2.2.1, w_Pages Z.2.1 Bg F, w_Hist Z.2.1 Z.2.2.1 hh ha Ah X.2.2.2.2.1, w_Row Z.2.1 200 rt rq tx]).flatten) (hS : va_S A s.heap H locs) (hl : lv_has ls 4 [(0, .ref mm), (1, .int X.2.2.2.2.2)]), W p l e rm_X6_lockPages s m ([.ref mm] : List Value).toArray below meth c H locs 0 0 Q (F0 m 95 ls [])), W p l e rm_X6_lockPages s m ([.ref mm] : List Value).toArray below meth c H locs 0 0 Q (F0 m 46 ls []) := by
    skip
    refine z_loopE (fun rec ih v X hF H locs ls hP hD hS hl K1 => ?_)
    unfold b_X6_lockPages_46 at hF
    refine lv_iload_n hx hb (z_d hX6_lockPages_0 24 rfl) rfl (lv_at hl 2 rfl) ?_
    refine lv_aload_n hx hb (z_d hX6_lockPages_0 25 rfl) rfl (lv_at hl 0 rfl) ?_
    refine va_get (D := Z.1) (ci := 6) (v := .ref (Ag 0)) (C := RX6) (T := TX6) (N := 9) hx hb hts zinX6 hown hK.1 (zP_reg hP 0 rfl) 0 rfl rfl 4 (by decide) (hts _ k_f_X6_32) (fun _ h9 => h9) rfl (z_d hX6_lockPages_0 26 rfl) ?_
    refine va_getN (D := Z.1) (ci := 1) (v := .int v.2.2.2.1.1) (C := RX1) (T := TX1) (N := 14) hx hb hts zinX1 hown hK.1 (zP_reg (L := l_Pages Z.2.1 Ag v.2.2.2.1.1 v.2.2.2.1.2.1 v.2.2.2.1.2.2.1 v.2.2.2.1.2.2.2.1 v.2.2.2.1.2.2.2.2.1 v.2.2.2.1.2.2.2.2.2.1 v.2.2.2.1.2.2.2.2.2.2.1 v.2.2.2.1.2.2.2.2.2.2.2.1 v.2.2.2.1.2.2.2.2.2.2.2.2.1 v.2.2.2.1.2.2.2.2.2.2.2.2.2.1 v.2.2.2.1.2.2.2.2.2.2.2.2.2.2.1 v.2.2.2.1.2.2.2.2.2.2.2.2.2.2.2.1 v.2.2.2.1.2.2.2.2.2.2.2.2.2.2.2.2.1 v.2.2.2.1.2.2.2.2.2.2.2.2.2.2.2.2.2) (zP_reg hP 5 rfl) 0 rfl) 0 rfl rfl 0 (by decide) (kn_X6_182 hK.2) (fun _ h9 => h9) rfl (z_d hX6_lockPages_0 27 rfl) ?_
    refine lv_icmp_ge (tgt := 95) hx hb (z_d hX6_lockPages_0 28 rfl) (by decide) (fun hc54 => ?_) (fun hc54 => ?_)
    · have hF := z_pos hc54 hF
      obtain rfl := Option.some.inj hF
      exact K1 _ _ ls hP hD hS (lv_sub hl [0, 1] rfl)
    · have hF := z_neg hc54 hF
      refine lv_aload_n hx hb (z_d hX6_lockPages_0 29 rfl) rfl (lv_at hl 0 rfl) ?_
      refine va_get (D := Z.1) (ci := 6) (v := .ref (Ag 0)) (C := RX6) (T := TX6) (N := 9) hx hb hts zinX6 hown hK.1 (zP_reg hP 0 rfl) 0 rfl rfl 4 (by decide) (hts _ k_f_X6_32) (fun _ h9 => h9) rfl (z_d hX6_lockPages_0 30 rfl) ?_
      refine va_getN (D := Z.1) (ci := 1) (v := .ref (Ag 15)) (C := RX1) (T := TX1) (N := 14) hx hb hts zinX1 hown hK.1 (zP_reg (L := l_Pages Z.2.1 Ag v.2.2.2.1.1 v.2.2.2.1.2.1 v.2.2.2.1.2.2.1 v.2.2.2.1.2.2.2.1 v.2.2.2.1.2.2.2.2.1 v.2.2.2.1.2.2.2.2.2.1 v.2.2.2.1.2.2.2.2.2.2.1 v.2.2.2.1.2.2.2.2.2.2.2.1 v.2.2.2.1.2.2.2.2.2.2.2.2.1 v.2.2.2.1.2.2.2.2.2.2.2.2.2.1 v.2.2.2.1.2.2.2.2.2.2.2.2.2.2.1 v.2.2.2.1.2.2.2.2.2.2.2.2.2.2.2.1 v.2.2.2.1.2.2.2.2.2.2.2.2.2.2.2.2.1 v.2.2.2.1.2.2.2.2.2.2.2.2.2.2.2.2.2) (zP_reg hP 5 rfl) 0 rfl) 0 rfl rfl 12 (by decide) (kn_X6_183 hK.2) (fun _ h9 => h9) rfl (z_d hX6_lockPages_0 31 rfl) ?_
      refine lv_iload_n hx hb (z_d hX6_lockPages_0 32 rfl) rfl (lv_at hl 2 rfl) ?_
      refine z_let hF (fun q5 hq5 hF => ?_)
      refine z_ro_i (z_rV (As := [.int v.2.2.2.2.2.2]) (rest := []) hx hb hml hown hts vt_X3_at (c_rAt l Z 60 (Ag 15) (Ag 16) (by decide) v.2.2.2.1.2.2.2.2.2.2.2.2.2.2.2.2.1 v.2.2.2.2.2.2 _ hq5) rfl rfl ⟨Nat.le_of_ble_eq_true rfl, Nat.le_of_ble_eq_true rfl⟩ k_m_X6_150 zPro_blind (z_recv (q := (RX3, TX3, 1)) (ci := 3) (q0 := 0) hK (zP_reg (L := l_Pages Z.2.1 Ag v.2.2.2.1.1 v.2.2.2.1.2.1 v.2.2.2.1.2.2.1 v.2.2.2.1.2.2.2.1 v.2.2.2.1.2.2.2.2.1 v.2.2.2.1.2.2.2.2.2.1 v.2.2.2.1.2.2.2.2.2.2.1 v.2.2.2.1.2.2.2.2.2.2.2.1 v.2.2.2.1.2.2.2.2.2.2.2.2.1 v.2.2.2.1.2.2.2.2.2.2.2.2.2.1 v.2.2.2.1.2.2.2.2.2.2.2.2.2.2.1 v.2.2.2.1.2.2.2.2.2.2.2.2.2.2.2.1 v.2.2.2.1.2.2.2.2.2.2.2.2.2.2.2.2.1 v.2.2.2.1.2.2.2.2.2.2.2.2.2.2.2.2.2) (zP_reg hP 5 rfl) 8 rfl) rfl rfl) (z_prec hK (zP_reg (L := l_Pages Z.2.1 Ag v.2.2.2.1.1 v.2.2.2.1.2.1 v.2.2.2.1.2.2.1 v.2.2.2.1.2.2.2.1 v.2.2.2.1.2.2.2.2.1 v.2.2.2.1.2.2.2.2.2.1 v.2.2.2.1.2.2.2.2.2.2.1 v.2.2.2.1.2.2.2.2.2.2.2.1 v.2.2.2.1.2.2.2.2.2.2.2.2.1 v.2.2.2.1.2.2.2.2.2.2.2.2.2.1 v.2.2.2.1.2.2.2.2.2.2.2.2.2.2.1 v.2.2.2.1.2.2.2.2.2.2.2.2.2.2.2.1 v.2.2.2.1.2.2.2.2.2.2.2.2.2.2.2.2.1 v.2.2.2.1.2.2.2.2.2.2.2.2.2.2.2.2.2) (zP_reg hP 5 rfl) 8 rfl)) rfl hl.1 (Nat.le_of_ble_eq_true rfl) (z_d hX6_lockPages_0 33 rfl) ⟨Nat.zero_le _, Nat.zero_le _⟩) hS hP (fun H locs hP hS => ?_)
      refine lv_istore_n (lv' := [(3, .int q5), (0, .ref mm), (1, .int v.2.2.2.2.2.1), (2, .int v.2.2.2.2.2.2)]) hx hb (z_d hX6_lockPages_0 34 rfl) rfl hl (by decide) rfl (fun ls hl => ?_)
      refine lv_iload_n hx hb (z_d hX6_lockPages_0 35 rfl) rfl (lv_at hl 0 rfl) ?_
      refine lv_iconst (v := (-1)) hx hb (z_d hX6_lockPages_0 36 rfl) (by decide) ?_
      refine lv_icmp_eq (tgt := 89) hx hb (z_d hX6_lockPages_0 37 rfl) (by decide) (fun hc71 => ?_) (fun hc71 => ?_)
      · have hF := z_pos hc71 hF
        refine z_let hF (fun u6 hu6 hF => ?_)
        refine lv_iinc (v := u6) (lv' := [(2, .int u6), (3, .int q5), (0, .ref mm), (1, .int v.2.2.2.2.2.1)]) hx hb (z_d hX6_lockPages_0 45 rfl) hl (k := 3) rfl (z_inc1 hu6) (by decide) rfl (fun ls hl => ?_)
        refine lv_goto (tgt := 46) hx hb (z_d hX6_lockPages_0 46 rfl) (by decide) ?_
        exact ih _ _ hF _ _ ls hP hD hS (lv_sub hl [2, 3, 0] rfl) K1
      · have hF := z_neg hc71 hF
        refine z_let hF (fun u7 hu7 hF => ?_)
        refine lv_iinc (v := u7) (lv' := [(1, .int u7), (3, .int q5), (0, .ref mm), (2, .int v.2.2.2.2.2.2)]) hx hb (z_d hX6_lockPages_0 38 rfl) hl (k := 2) rfl (z_inc1 hu7) (by decide) rfl (fun ls hl => ?_)
        refine lv_aload_n hx hb (z_d hX6_lockPages_0 39 rfl) rfl (lv_at hl 2 rfl) ?_
        refine va_get (D := Z.1) (ci := 6) (v := .ref (Bs 0)) (C := RX6) (T := TX6) (N := 9) hx hb hts zinX6 hown hK.1 (zP_reg hP 0 rfl) 0 rfl rfl 1 (by decide) (hts _ k_f_X6_16) (fun _ h9 => h9) rfl (z_d hX6_lockPages_0 40 rfl) ?_
        refine va_getN (D := Z.1) (ci := 5) (v := .ref (Bs 7)) (C := RX5) (T := TX5) (N := 10) hx hb hts zinX5 hown hK.1 (zP_reg (L := l_Script Z.2.1 Bs v.2.1.1 v.2.1.2.1 v.2.1.2.2.1 v.2.1.2.2.2.1 v.2.1.2.2.2.2.1 v.2.1.2.2.2.2.2.1 v.2.1.2.2.2.2.2.2.1 v.2.1.2.2.2.2.2.2.2.1 v.2.1.2.2.2.2.2.2.2.2.1 v.2.1.2.2.2.2.2.2.2.2.2) (zP_reg hP 2 rfl) 0 rfl) 0 rfl rfl 5 (by decide) (kn_X6_179 hK.2) (fun _ h9 => h9) rfl (z_d hX6_lockPages_0 41 rfl) ?_
        refine lv_iload_n hx hb (z_d hX6_lockPages_0 42 rfl) rfl (lv_at hl 1 rfl) ?_
        refine lv_iload_n hx hb (z_d hX6_lockPages_0 43 rfl) rfl (lv_at hl 0 rfl) ?_
        refine z_let hF (fun q8 hq8 hF => ?_)
        have hP2 := zfm (pre := [w_Main mm As Bs Ac Bc Ag Bg hh rt tl, w_Script Z.2.1 As v.1]) (l := l_Script Z.2.1 Bs v.2.1.1 v.2.1.2.1 v.2.1.2.2.1 v.2.1.2.2.2.1 v.2.1.2.2.2.2.1 v.2.1.2.2.2.2.2.1 v.2.1.2.2.2.2.2.2.1 v.2.1.2.2.2.2.2.2.2.1 v.2.1.2.2.2.2.2.2.2.2.1 v.2.1.2.2.2.2.2.2.2.2.2) (post := [w_Scenes Z.2.1 Ac v.2.2.1, w_Scenes Z.2.1 Bc E, w_Pages Z.2.1 Ag v.2.2.2.1, w_Pages Z.2.1 Bg F, w_Hist Z.2.1 Z.2.2.1 hh ha Ah v.2.2.2.2.1, w_Row Z.2.1 200 rt rq tx]) hP
        have hD2 := zfmD (pre := [w_Main mm As Bs Ac Bc Ag Bg hh rt tl, w_Script Z.2.1 As v.1]) (l := l_Script Z.2.1 Bs v.2.1.1 v.2.1.2.1 v.2.1.2.2.1 v.2.1.2.2.2.1 v.2.1.2.2.2.2.1 v.2.1.2.2.2.2.2.1 v.2.1.2.2.2.2.2.2.1 v.2.1.2.2.2.2.2.2.2.1 v.2.1.2.2.2.2.2.2.2.2.1 v.2.1.2.2.2.2.2.2.2.2.2) (post := [w_Scenes Z.2.1 Ac v.2.2.1, w_Scenes Z.2.1 Bc E, w_Pages Z.2.1 Ag v.2.2.2.1, w_Pages Z.2.1 Bg F, w_Hist Z.2.1 Z.2.2.1 hh ha Ah v.2.2.2.2.1, w_Row Z.2.1 200 rt rq tx]) hD
        refine z_mu1 (L := [w_Main mm As Bs Ac Bc Ag Bg hh rt tl, w_Script Z.2.1 As v.1] ++ (l_Script Z.2.1 Bs v.2.1.1 v.2.1.2.1 v.2.1.2.2.1 v.2.1.2.2.2.1 v.2.1.2.2.2.2.1 v.2.1.2.2.2.2.2.1 v.2.1.2.2.2.2.2.2.1 v.2.1.2.2.2.2.2.2.2.1 v.2.1.2.2.2.2.2.2.2.2.1 v.2.1.2.2.2.2.2.2.2.2.2 ++ [w_Scenes Z.2.1 Ac v.2.2.1, w_Scenes Z.2.1 Bc E, w_Pages Z.2.1 Ag v.2.2.2.1, w_Pages Z.2.1 Bg F, w_Hist Z.2.1 Z.2.2.1 hh ha Ah v.2.2.2.2.1, w_Row Z.2.1 200 rt rq tx])) (L' := [w_Main mm As Bs Ac Bc Ag Bg hh rt tl, w_Script Z.2.1 As v.1] ++ (l_Script Z.2.1 Bs v.2.1.1 v.2.1.2.1 v.2.1.2.2.1 v.2.1.2.2.2.1 v.2.1.2.2.2.2.1 q8 v.2.1.2.2.2.2.2.2.1 v.2.1.2.2.2.2.2.2.2.1 v.2.1.2.2.2.2.2.2.2.2.1 v.2.1.2.2.2.2.2.2.2.2.2 ++ [w_Scenes Z.2.1 Ac v.2.2.1, w_Scenes Z.2.1 Bc E, w_Pages Z.2.1 Ag v.2.2.2.1, w_Pages Z.2.1 Bg F, w_Hist Z.2.1 Z.2.2.1 hh ha Ah v.2.2.2.2.1, w_Row Z.2.1 200 rt rq tx])) (z_rV (As := [.int q5, .int u7]) (rest := []) hx hb hml hown hts vt_X3_put (c_rPut l Z 60 (Bs 7) (Bs 8) (by decide) v.2.1.2.2.2.2.2.1 q5 u7 _ hq8) rfl rfl ⟨Nat.le_of_ble_eq_true rfl, Nat.le_of_ble_eq_true rfl⟩ k_m_X6_128 zPmu_blind (z_recv (q := (RX3, TX3, 1)) (ci := 3) (q0 := 0) hK (zP_reg (L := l_Script Z.2.1 Bs v.2.1.1 v.2.1.2.1 v.2.1.2.2.1 v.2.1.2.2.2.1 v.2.1.2.2.2.2.1 v.2.1.2.2.2.2.2.1 v.2.1.2.2.2.2.2.2.1 v.2.1.2.2.2.2.2.2.2.1 v.2.1.2.2.2.2.2.2.2.2.1 v.2.1.2.2.2.2.2.2.2.2.2) (zP_reg hP 2 rfl) 4 rfl) rfl rfl) (z_prem hK (zP_reg (L := l_Script Z.2.1 Bs v.2.1.1 v.2.1.2.1 v.2.1.2.2.1 v.2.1.2.2.2.1 v.2.1.2.2.2.2.1 v.2.1.2.2.2.2.2.1 v.2.1.2.2.2.2.2.2.1 v.2.1.2.2.2.2.2.2.2.1 v.2.1.2.2.2.2.2.2.2.2.1 v.2.1.2.2.2.2.2.2.2.2.2) (zP_reg hP 2 rfl) 4 rfl) (zD_one (L := [w_Main mm As Bs Ac Bc Ag Bg hh rt tl, w_Script Z.2.1 As v.1] ++ (l_Script Z.2.1 Bs v.2.1.1 v.2.1.2.1 v.2.1.2.2.1 v.2.1.2.2.2.1 v.2.1.2.2.2.2.1 v.2.1.2.2.2.2.2.1 v.2.1.2.2.2.2.2.2.1 v.2.1.2.2.2.2.2.2.2.1 v.2.1.2.2.2.2.2.2.2.2.1 v.2.1.2.2.2.2.2.2.2.2.2 ++ [w_Scenes Z.2.1 Ac v.2.2.1, w_Scenes Z.2.1 Bc E, w_Pages Z.2.1 Ag v.2.2.2.1, w_Pages Z.2.1 Bg F, w_Hist Z.2.1 Z.2.2.1 hh ha Ah v.2.2.2.2.1, w_Row Z.2.1 200 rt rq tx])) hD2 6 _ rfl)) rfl hl.1 (Nat.le_of_ble_eq_true rfl) (z_d hX6_lockPages_0 44 rfl) ⟨Nat.zero_le _, Nat.zero_le _⟩) hS hP2 hD2 6 rfl rfl rfl (fun H locs hP hD hS => ?_)
        have hP : va_P Z.1 vwCl ([w_Main mm As Bs Ac Bc Ag Bg hh rt tl, w_Script Z.2.1 As v.1, w_Script Z.2.1 Bs (v.2.1.1, v.2.1.2.1, v.2.1.2.2.1, v.2.1.2.2.2.1, v.2.1.2.2.2.2.1, q8, v.2.1.2.2.2.2.2.2.1, v.2.1.2.2.2.2.2.2.2.1, v.2.1.2.2.2.2.2.2.2.2.1, v.2.1.2.2.2.2.2.2.2.2.2), w_Scenes Z.2.1 Ac v.2.2.1, w_Scenes Z.2.1 Bc E, w_Pages Z.2.1 Ag v.2.2.2.1, w_Pages Z.2.1 Bg F, w_Hist Z.2.1 Z.2.2.1 hh ha Ah v.2.2.2.2.1, w_Row Z.2.1 200 rt rq tx]).flatten H := zfn (pre := [w_Main mm As Bs Ac Bc Ag Bg hh rt tl, w_Script Z.2.1 As v.1]) (l := l_Script Z.2.1 Bs v.2.1.1 v.2.1.2.1 v.2.1.2.2.1 v.2.1.2.2.2.1 v.2.1.2.2.2.2.1 q8 v.2.1.2.2.2.2.2.2.1 v.2.1.2.2.2.2.2.2.2.1 v.2.1.2.2.2.2.2.2.2.2.1 v.2.1.2.2.2.2.2.2.2.2.2) (post := [w_Scenes Z.2.1 Ac v.2.2.1, w_Scenes Z.2.1 Bc E, w_Pages Z.2.1 Ag v.2.2.2.1, w_Pages Z.2.1 Bg F, w_Hist Z.2.1 Z.2.2.1 hh ha Ah v.2.2.2.2.1, w_Row Z.2.1 200 rt rq tx]) hP
        have hD : va_D A ([w_Main mm As Bs Ac Bc Ag Bg hh rt tl, w_Script Z.2.1 As v.1, w_Script Z.2.1 Bs (v.2.1.1, v.2.1.2.1, v.2.1.2.2.1, v.2.1.2.2.2.1, v.2.1.2.2.2.2.1, q8, v.2.1.2.2.2.2.2.2.1, v.2.1.2.2.2.2.2.2.2.1, v.2.1.2.2.2.2.2.2.2.2.1, v.2.1.2.2.2.2.2.2.2.2.2), w_Scenes Z.2.1 Ac v.2.2.1, w_Scenes Z.2.1 Bc E, w_Pages Z.2.1 Ag v.2.2.2.1, w_Pages Z.2.1 Bg F, w_Hist Z.2.1 Z.2.2.1 hh ha Ah v.2.2.2.2.1, w_Row Z.2.1 200 rt rq tx]).flatten := zfnD (pre := [w_Main mm As Bs Ac Bc Ag Bg hh rt tl, w_Script Z.2.1 As v.1]) (l := l_Script Z.2.1 Bs v.2.1.1 v.2.1.2.1 v.2.1.2.2.1 v.2.1.2.2.2.1 v.2.1.2.2.2.2.1 q8 v.2.1.2.2.2.2.2.2.1 v.2.1.2.2.2.2.2.2.2.1 v.2.1.2.2.2.2.2.2.2.2.1 v.2.1.2.2.2.2.2.2.2.2.2) (post := [w_Scenes Z.2.1 Ac v.2.2.1, w_Scenes Z.2.1 Bc E, w_Pages Z.2.1 Ag v.2.2.2.1, w_Pages Z.2.1 Bg F, w_Hist Z.2.1 Z.2.2.1 hh ha Ah v.2.2.2.2.1, w_Row Z.2.1 200 rt rq tx]) hD
        refine W.eq (g2 := F0 m 89 ls []) rfl ?_
        refine z_let hF (fun u9 hu9 hF => ?_)
        refine lv_iinc (v := u9) (lv' := [(2, .int u9), (1, .int u7), (3, .int q5), (0, .ref mm)]) hx hb (z_d hX6_lockPages_0 45 rfl) hl (k := 3) rfl (z_inc1 hu9) (by decide) rfl (fun ls hl => ?_)
        refine lv_goto (tgt := 46) hx hb (z_d hX6_lockPages_0 46 rfl) (by decide) ?_
        exact ih _ _ hF _ _ ls hP hD hS (lv_sub hl [3, 1, 0] rfl) K1
  refine lv_aload_n hx hb (z_d hX6_lockPages_0 0 rfl) rfl (lv_at hl 0 rfl) ?_
  refine va_get (D := Z.1) (ci := 6) (v := .ref (Bs 0)) (C := RX6) (T := TX6) (N := 9) hx hb hts zinX6 hown hK.1 (zP_reg hP 0 rfl) 0 rfl rfl 1 (by decide) (hts _ k_f_X6_16) (fun _ h9 => h9) rfl (z_d hX6_lockPages_0 1 rfl) ?_
  refine lv_aload_n hx hb (z_d hX6_lockPages_0 2 rfl) rfl (lv_at hl 0 rfl) ?_
  refine va_get (D := Z.1) (ci := 6) (v := .ref (As 0)) (C := RX6) (T := TX6) (N := 9) hx hb hts zinX6 hown hK.1 (zP_reg hP 0 rfl) 0 rfl rfl 0 (by decide) (hts _ k_f_X6_12) (fun _ h9 => h9) rfl (z_d hX6_lockPages_0 3 rfl) ?_
  refine z_let hF (fun q1 hq1 hF => ?_)
  refine z_mu2 (L := [w_Main mm As Bs Ac Bc Ag Bg hh rt tl, w_Script Z.2.1 As S, w_Script Z.2.1 Bs D, w_Scenes Z.2.1 Ac C, w_Scenes Z.2.1 Bc E, w_Pages Z.2.1 Ag G, w_Pages Z.2.1 Bg F, w_Hist Z.2.1 Z.2.2.1 hh ha Ah Hs, w_Row Z.2.1 200 rt rq tx]) (L' := [w_Main mm As Bs Ac Bc Ag Bg hh rt tl, w_Script Z.2.1 As S, w_Script Z.2.1 Bs q1, w_Scenes Z.2.1 Ac C, w_Scenes Z.2.1 Bc E, w_Pages Z.2.1 Ag G, w_Pages Z.2.1 Bg F, w_Hist Z.2.1 Z.2.2.1 hh ha Ah Hs, w_Row Z.2.1 200 rt rq tx]) (z_rV (As := [.ref (As 0)]) (rest := []) hx hb hml hown hts vt_X5_copyFrom (c_X5_copyFrom l Z Bs As D S _ hq1) rfl rfl ⟨Nat.le_of_ble_eq_true rfl, Nat.le_of_ble_eq_true rfl⟩ k_m_X6_94 zPmu_blind (z_recv (q := (RX5, TX5, 10)) (ci := 5) (q0 := 0) hK (zP_reg (L := l_Script Z.2.1 Bs D.1 D.2.1 D.2.2.1 D.2.2.2.1 D.2.2.2.2.1 D.2.2.2.2.2.1 D.2.2.2.2.2.2.1 D.2.2.2.2.2.2.2.1 D.2.2.2.2.2.2.2.2.1 D.2.2.2.2.2.2.2.2.2) (zP_reg hP 2 rfl) 0 rfl) rfl rfl) (z_prem hK (zP_r2 hP 2 1 rfl rfl) (zD_r2 hD 2 1 rfl rfl (by decide))) rfl hl.1 (Nat.le_of_ble_eq_true rfl) (z_d hX6_lockPages_0 4 rfl) ⟨Nat.zero_le _, Nat.zero_le _⟩) hS hP hD 2 1 rfl rfl (by decide) rfl (adr_Script _ _ _ _) (adr_Script _ _ _ _) (fun H locs hP hD hS => ?_)
  refine W.eq (g2 := F0 m 11 ls []) rfl ?_
  refine lv_iconst (v := 0) hx hb (z_d hX6_lockPages_0 5 rfl) (by decide) ?_
  refine lv_istore_n (lv' := [(1, .int 0), (0, .ref mm)]) hx hb (z_d hX6_lockPages_0 6 rfl) rfl hl (by decide) rfl (fun ls hl => ?_)
  refine z_bnd hF (fun q4 hq4 hF => ?_)
  refine L13  _ _ _ hq4 _ _ ls hP hD hS (lv_sub hl [1, 0] rfl) (fun H locs ls hP hD hS hl => ?_)
  refine lv_iconst (v := 0) hx hb (z_d hX6_lockPages_0 20 rfl) (by decide) ?_
  refine lv_istore_n (lv' := [(1, .int 0), (0, .ref mm)]) hx hb (z_d hX6_lockPages_0 21 rfl) rfl hl (by decide) rfl (fun ls hl => ?_)
  refine lv_iconst (v := 0) hx hb (z_d hX6_lockPages_0 22 rfl) (by decide) ?_
  refine lv_istore_n (lv' := [(2, .int 0), (1, .int 0), (0, .ref mm)]) hx hb (z_d hX6_lockPages_0 23 rfl) rfl hl (by decide) rfl (fun ls hl => ?_)
  refine z_bnd hF (fun q10 hq10 hF => ?_)
  refine L46  _ _ _ hq10 _ _ ls hP hD hS (lv_sub hl [2, 1, 0] rfl) (fun H locs ls hP hD hS hl => ?_)
  refine lv_aload_n hx hb (z_d hX6_lockPages_0 47 rfl) rfl (lv_at hl 0 rfl) ?_
  refine z_bnd hF (fun q11 hq11 hF => ?_)
  refine z_mu0 (z_rV (As := []) (rest := []) hx hb hml hown hts vt_X6_keepDraft (c_X6_keepDraft l Z mm As Bs Ac Bc Ag Bg hh ha Ah rt rq tl q10.1 q10.2.1 q10.2.2.1 E q10.2.2.2.1 F q10.2.2.2.2.1 tx _ hq11) rfl rfl ⟨Nat.le_of_ble_eq_true rfl, Nat.le_of_ble_eq_true rfl⟩ k_m_X6_107 zPmu_blind (z_recv (q := (RX6, TX6, 9)) (ci := 6) (q0 := 0) hK (zP_reg hP 0 rfl) rfl rfl) (z_prem hK hP hD) rfl hl.1 (Nat.le_of_ble_eq_true rfl) (z_d hX6_lockPages_0 48 rfl) ⟨Nat.zero_le _, Nat.zero_le _⟩) hS hD (zadr_cons rfl (zadr_cons (adr_Script _ _ _ _) (zadr_cons (adr_Script _ _ _ _) (zadr_cons (adr_Scenes _ _ _ _) (zadr_cons (adr_Scenes _ _ _ _) (zadr_cons (adr_Pages _ _ _ _) (zadr_cons (adr_Pages _ _ _ _) (zadr_cons (adr_Hist _ _ _ _ _ _ _) (zadr_cons rfl rfl))))))))) (fun H locs hP hD hS => ?_)
  have hP : va_P Z.1 vwCl ([w_Main mm As Bs Ac Bc Ag Bg hh rt tl, w_Script Z.2.1 As q11.1, w_Script Z.2.1 Bs q10.2.1, w_Scenes Z.2.1 Ac q11.2.1, w_Scenes Z.2.1 Bc E, w_Pages Z.2.1 Ag q11.2.2.1, w_Pages Z.2.1 Bg F, w_Hist Z.2.1 Z.2.2.1 hh ha Ah q11.2.2.2, w_Row Z.2.1 200 rt rq tx]).flatten H := hP
  have hD : va_D A ([w_Main mm As Bs Ac Bc Ag Bg hh rt tl, w_Script Z.2.1 As q11.1, w_Script Z.2.1 Bs q10.2.1, w_Scenes Z.2.1 Ac q11.2.1, w_Scenes Z.2.1 Bc E, w_Pages Z.2.1 Ag q11.2.2.1, w_Pages Z.2.1 Bg F, w_Hist Z.2.1 Z.2.2.1 hh ha Ah q11.2.2.2, w_Row Z.2.1 200 rt rq tx]).flatten := hD
  refine W.eq (g2 := F0 m 99 ls []) rfl ?_
  refine lv_iload_n hx hb (z_d hX6_lockPages_0 49 rfl) rfl (lv_at hl 1 rfl) ?_
  obtain rfl := Option.some.inj hF
  subst hQ
  subst hA
  exact W.iret hx hb hr (fun t ht hW => zq_mu (by rw [ht]; exact hP) (hS.F ht)) hS.2.2 (z_d hX6_lockPages_0 50 rfl)
def rm_X6_find : Room := { frames := 1, cells := 0, slots := 0, locals := 21 }
set_option maxRecDepth 100000 in
set_option maxHeartbeats 4000000 in
theorem c_X6_find (l : Launch) (Z : zZ) (mm : Nat) (As : Nat → Nat) (Bs : Nat → Nat) (Ac : Nat → Nat) (Bc : Nat → Nat) (Ag : Nat → Nat) (Bg : Nat → Nat) (hh ha : Nat) (Ah : Nat → Nat → Nat) (rt rq : Nat) (tl : Int32) (S : t_Script) (D : t_Script) (C : t_Scenes) (E : t_Scenes) (G : t_Pages) (F : t_Pages) (Hs : t_Hist) (tx : Rw) (p1 : Int32) (p2 : Int32) (p3 : Int32) (R : Int32) (hF : X6_find tl S D C E G F Hs tx p1 p2 p3 = some R) : zRO l yX6_find (zw yX6_find cX6_find 5 (some .int)) rm_X6_find Z [.ref mm, .int p1, .int p2, .int p3] (List.flatten [w_Main mm As Bs Ac Bc Ag Bg hh rt tl, w_Script Z.2.1 As S, w_Script Z.2.1 Bs D, w_Scenes Z.2.1 Ac C, w_Scenes Z.2.1 Bc E, w_Pages Z.2.1 Ag G, w_Pages Z.2.1 Bg F, w_Hist Z.2.1 Z.2.2.1 hh ha Ah Hs, w_Row Z.2.1 200 rt rq tx]) (some (.int R)) := by
  refine zRO_of (by decide) (Nat.le_of_ble_eq_true rfl) (fun p e s m below meth c hx hb hr hml hown hts hlocks hK Q hQ ls hl hP hS => ?_)
  unfold X6_find at hF
  have hl : lv_has ls 5 [(0, .ref mm), (1, .int p1), (2, .int p2), (3, .int p3)] := hl
  have hown : s.vm.findClass RX6 = some m.cls := hown
  have L3 : ∀  (n : Nat) (v : Int32) (X : (Unit) ⊕ (Int32)) (hF : zloop (b_X6_find_3 tl S D C E G F Hs tx p1 p2 p3 ) n v = some X) (H : Heap) (locs : List Loc) (ls : Array Slot) (hP : va_P Z.1 vwCl ([w_Main mm As Bs Ac Bc Ag Bg hh rt tl, w_Script Z.2.1 As S, w_Script Z.2.1 Bs D, w_Scenes Z.2.1 Ac C, w_Scenes Z.2.1 Bc E, w_Pages Z.2.1 Ag G, w_Pages Z.2.1 Bg F, w_Hist Z.2.1 Z.2.2.1 hh ha Ah Hs, w_Row Z.2.1 200 rt rq tx]).flatten H) (hS : va_S (fun _ => False) s.heap H locs) (hl : lv_has ls 5 [(0, .ref mm), (1, .int p1), (2, .int p2), (3, .int p3), (4, .int v)]) (K1 : ∀ Y, X = .inl Y → ∀ (H : Heap) (locs : List Loc) (ls : Array Slot) (hP : va_P Z.1 vwCl ([w_Main mm As Bs Ac Bc Ag Bg hh rt tl, w_Script Z.2.1 As S, w_Script Z.2.1 Bs D, w_Scenes Z.2.1 Ac C, w_Scenes Z.2.1 Bc E, w_Pages Z.2.1 Ag G, w_Pages Z.2.1 Bg F, w_Hist Z.2.1 Z.2.2.1 hh ha Ah Hs, w_Row Z.2.1 200 rt rq tx]).flatten H) (hS : va_S (fun _ => False) s.heap H locs) (hl : lv_has ls 5 [(0, .ref mm), (1, .int p1), (2, .int p2), (3, .int p3)]), W p l e rm_X6_find s m ([.ref mm, .int p1, .int p2, .int p3] : List Value).toArray below meth c H locs 0 0 Q (F0 m 72 ls [])) (K2 : ∀ Y, X = .inr Y → ∀ (H : Heap) (locs : List Loc) (ls : Array Slot) (hP : va_P Z.1 vwCl ([w_Main mm As Bs Ac Bc Ag Bg hh rt tl, w_Script Z.2.1 As S, w_Script Z.2.1 Bs D, w_Scenes Z.2.1 Ac C, w_Scenes Z.2.1 Bc E, w_Pages Z.2.1 Ag G, w_Pages Z.2.1 Bg F, w_Hist Z.2.1 Z.2.2.1 hh ha Ah Hs, w_Row Z.2.1 200 rt rq tx]).flatten H) (hS : va_S (fun _ => False) s.heap H locs), W p l e rm_X6_find s m ([.ref mm, .int p1, .int p2, .int p3] : List Value).toArray below meth c H locs 0 0 Q (F0 m 65 ls [.int Y])), W p l e rm_X6_find s m ([.ref mm, .int p1, .int p2, .int p3] : List Value).toArray below meth c H locs 0 0 Q (F0 m 3 ls []) := by
    skip
    refine z_loopE (fun rec ih v X hF H locs ls hP hS hl K1 K2 => ?_)
    unfold b_X6_find_3 at hF
    refine lv_iload hx hb (z_d hX6_find_0 2 rfl) (lv_at hl 4 rfl) ?_
    refine lv_aload_n hx hb (z_d hX6_find_0 3 rfl) rfl (lv_at hl 0 rfl) ?_
    refine va_get (D := Z.1) (ci := 6) (v := .ref (Ac 0)) (C := RX6) (T := TX6) (N := 9) hx hb hts zinX6 hown hK.1 (zP_reg hP 0 rfl) 0 rfl rfl 2 (by decide) (hts _ k_f_X6_22) (fun _ h9 => h9) rfl (z_d hX6_find_0 4 rfl) ?_
    refine va_getN (D := Z.1) (ci := 4) (v := .int C.1) (C := RX4) (T := TX4) (N := 12) hx hb hts zinX4 hown hK.1 (zP_reg (L := l_Scenes Z.2.1 Ac C.1 C.2.1 C.2.2.1 C.2.2.2.1 C.2.2.2.2.1 C.2.2.2.2.2.1 C.2.2.2.2.2.2.1 C.2.2.2.2.2.2.2.1 C.2.2.2.2.2.2.2.2.1 C.2.2.2.2.2.2.2.2.2.1 C.2.2.2.2.2.2.2.2.2.2.1 C.2.2.2.2.2.2.2.2.2.2.2) (zP_reg hP 3 rfl) 0 rfl) 0 rfl rfl 0 (by decide) (kn_X6_144 hK.2) (fun _ h9 => h9) rfl (z_d hX6_find_0 5 rfl) ?_
    refine lv_icmp_ge (tgt := 72) hx hb (z_d hX6_find_0 6 rfl) (by decide) (fun hc12 => ?_) (fun hc12 => ?_)
    · have hF := z_pos hc12 hF
      obtain rfl := Option.some.inj hF
      exact K1 _ rfl _ _ ls hP hS (lv_sub hl [0, 1, 2, 3] rfl)
    · have hF := z_neg hc12 hF
      refine lv_aload_n hx hb (z_d hX6_find_0 7 rfl) rfl (lv_at hl 0 rfl) ?_
      refine va_get (D := Z.1) (ci := 6) (v := .ref (Ac 0)) (C := RX6) (T := TX6) (N := 9) hx hb hts zinX6 hown hK.1 (zP_reg hP 0 rfl) 0 rfl rfl 2 (by decide) (hts _ k_f_X6_22) (fun _ h9 => h9) rfl (z_d hX6_find_0 8 rfl) ?_
      refine va_getN (D := Z.1) (ci := 4) (v := .ref (Ac 7)) (C := RX4) (T := TX4) (N := 12) hx hb hts zinX4 hown hK.1 (zP_reg (L := l_Scenes Z.2.1 Ac C.1 C.2.1 C.2.2.1 C.2.2.2.1 C.2.2.2.2.1 C.2.2.2.2.2.1 C.2.2.2.2.2.2.1 C.2.2.2.2.2.2.2.1 C.2.2.2.2.2.2.2.2.1 C.2.2.2.2.2.2.2.2.2.1 C.2.2.2.2.2.2.2.2.2.2.1 C.2.2.2.2.2.2.2.2.2.2.2) (zP_reg hP 3 rfl) 0 rfl) 0 rfl rfl 6 (by decide) (kn_X6_153 hK.2) (fun _ h9 => h9) rfl (z_d hX6_find_0 9 rfl) ?_
      refine lv_iload hx hb (z_d hX6_find_0 10 rfl) (lv_at hl 4 rfl) ?_
      refine z_let hF (fun q1 hq1 hF => ?_)
      refine z_ro_i (z_rV (As := [.int v]) (rest := []) hx hb hml hown hts vt_X3_at (c_rAt l Z 60 (Ac 7) (Ac 8) (by decide) C.2.2.2.2.2.2.1 v _ hq1) rfl rfl ⟨Nat.le_of_ble_eq_true rfl, Nat.le_of_ble_eq_true rfl⟩ k_m_X6_150 zPro_blind (z_recv (q := (RX3, TX3, 1)) (ci := 3) (q0 := 0) hK (zP_reg (L := l_Scenes Z.2.1 Ac C.1 C.2.1 C.2.2.1 C.2.2.2.1 C.2.2.2.2.1 C.2.2.2.2.2.1 C.2.2.2.2.2.2.1 C.2.2.2.2.2.2.2.1 C.2.2.2.2.2.2.2.2.1 C.2.2.2.2.2.2.2.2.2.1 C.2.2.2.2.2.2.2.2.2.2.1 C.2.2.2.2.2.2.2.2.2.2.2) (zP_reg hP 3 rfl) 4 rfl) rfl rfl) (z_prec hK (zP_reg (L := l_Scenes Z.2.1 Ac C.1 C.2.1 C.2.2.1 C.2.2.2.1 C.2.2.2.2.1 C.2.2.2.2.2.1 C.2.2.2.2.2.2.1 C.2.2.2.2.2.2.2.1 C.2.2.2.2.2.2.2.2.1 C.2.2.2.2.2.2.2.2.2.1 C.2.2.2.2.2.2.2.2.2.2.1 C.2.2.2.2.2.2.2.2.2.2.2) (zP_reg hP 3 rfl) 4 rfl)) rfl hl.1 (Nat.le_of_ble_eq_true rfl) (z_d hX6_find_0 11 rfl) ⟨Nat.zero_le _, Nat.zero_le _⟩) hS hP (fun H locs hP hS => ?_)
      refine lv_iload_n hx hb (z_d hX6_find_0 12 rfl) rfl (lv_at hl 1 rfl) ?_
      refine lv_icmp_ne (tgt := 66) hx hb (z_d hX6_find_0 13 rfl) (by decide) (fun hc28 => ?_) (fun hc28 => ?_)
      · have hF := z_neg hc28 hF
        refine z_let hF (fun u2 hu2 hF => ?_)
        refine lv_iinc (v := u2) (lv' := [(4, .int u2), (0, .ref mm), (1, .int p1), (2, .int p2), (3, .int p3)]) hx hb (z_d hX6_find_0 30 rfl) hl (k := 4) rfl (z_inc1 hu2) (by decide) rfl (fun ls hl => ?_)
        refine lv_goto (tgt := 3) hx hb (z_d hX6_find_0 31 rfl) (by decide) ?_
        exact ih _ _ hF _ _ ls hP hS (lv_sub hl [1, 2, 3, 4, 0] rfl) K1 K2
      · have hF := z_pos hc28 hF
        refine lv_aload_n hx hb (z_d hX6_find_0 14 rfl) rfl (lv_at hl 0 rfl) ?_
        refine va_get (D := Z.1) (ci := 6) (v := .ref (Ac 0)) (C := RX6) (T := TX6) (N := 9) hx hb hts zinX6 hown hK.1 (zP_reg hP 0 rfl) 0 rfl rfl 2 (by decide) (hts _ k_f_X6_22) (fun _ h9 => h9) rfl (z_d hX6_find_0 15 rfl) ?_
        refine va_getN (D := Z.1) (ci := 4) (v := .ref (Ac 9)) (C := RX4) (T := TX4) (N := 12) hx hb hts zinX4 hown hK.1 (zP_reg (L := l_Scenes Z.2.1 Ac C.1 C.2.1 C.2.2.1 C.2.2.2.1 C.2.2.2.2.1 C.2.2.2.2.2.1 C.2.2.2.2.2.2.1 C.2.2.2.2.2.2.2.1 C.2.2.2.2.2.2.2.2.1 C.2.2.2.2.2.2.2.2.2.1 C.2.2.2.2.2.2.2.2.2.2.1 C.2.2.2.2.2.2.2.2.2.2.2) (zP_reg hP 3 rfl) 0 rfl) 0 rfl rfl 7 (by decide) (kn_X6_156 hK.2) (fun _ h9 => h9) rfl (z_d hX6_find_0 16 rfl) ?_
        refine lv_iload hx hb (z_d hX6_find_0 17 rfl) (lv_at hl 4 rfl) ?_
        refine z_let hF (fun q3 hq3 hF => ?_)
        refine z_ro_i (z_rV (As := [.int v]) (rest := []) hx hb hml hown hts vt_X3_at (c_rAt l Z 60 (Ac 9) (Ac 10) (by decide) C.2.2.2.2.2.2.2.1 v _ hq3) rfl rfl ⟨Nat.le_of_ble_eq_true rfl, Nat.le_of_ble_eq_true rfl⟩ k_m_X6_150 zPro_blind (z_recv (q := (RX3, TX3, 1)) (ci := 3) (q0 := 0) hK (zP_reg (L := l_Scenes Z.2.1 Ac C.1 C.2.1 C.2.2.1 C.2.2.2.1 C.2.2.2.2.1 C.2.2.2.2.2.1 C.2.2.2.2.2.2.1 C.2.2.2.2.2.2.2.1 C.2.2.2.2.2.2.2.2.1 C.2.2.2.2.2.2.2.2.2.1 C.2.2.2.2.2.2.2.2.2.2.1 C.2.2.2.2.2.2.2.2.2.2.2) (zP_reg hP 3 rfl) 5 rfl) rfl rfl) (z_prec hK (zP_reg (L := l_Scenes Z.2.1 Ac C.1 C.2.1 C.2.2.1 C.2.2.2.1 C.2.2.2.2.1 C.2.2.2.2.2.1 C.2.2.2.2.2.2.1 C.2.2.2.2.2.2.2.1 C.2.2.2.2.2.2.2.2.1 C.2.2.2.2.2.2.2.2.2.1 C.2.2.2.2.2.2.2.2.2.2.1 C.2.2.2.2.2.2.2.2.2.2.2) (zP_reg hP 3 rfl) 5 rfl)) rfl hl.1 (Nat.le_of_ble_eq_true rfl) (z_d hX6_find_0 18 rfl) ⟨Nat.zero_le _, Nat.zero_le _⟩) hS hP (fun H locs hP hS => ?_)
        refine lv_iload_n hx hb (z_d hX6_find_0 19 rfl) rfl (lv_at hl 2 rfl) ?_
        refine lv_icmp_ne (tgt := 66) hx hb (z_d hX6_find_0 20 rfl) (by decide) (fun hc44 => ?_) (fun hc44 => ?_)
        · have hF := z_neg hc44 hF
          refine z_let hF (fun u4 hu4 hF => ?_)
          refine lv_iinc (v := u4) (lv' := [(4, .int u4), (0, .ref mm), (1, .int p1), (2, .int p2), (3, .int p3)]) hx hb (z_d hX6_find_0 30 rfl) hl (k := 4) rfl (z_inc1 hu4) (by decide) rfl (fun ls hl => ?_)
          refine lv_goto (tgt := 3) hx hb (z_d hX6_find_0 31 rfl) (by decide) ?_
          exact ih _ _ hF _ _ ls hP hS (lv_sub hl [1, 2, 3, 4, 0] rfl) K1 K2
        · have hF := z_pos hc44 hF
          refine lv_aload_n hx hb (z_d hX6_find_0 21 rfl) rfl (lv_at hl 0 rfl) ?_
          refine va_get (D := Z.1) (ci := 6) (v := .ref (Ac 0)) (C := RX6) (T := TX6) (N := 9) hx hb hts zinX6 hown hK.1 (zP_reg hP 0 rfl) 0 rfl rfl 2 (by decide) (hts _ k_f_X6_22) (fun _ h9 => h9) rfl (z_d hX6_find_0 22 rfl) ?_
          refine va_getN (D := Z.1) (ci := 4) (v := .ref (Ac 11)) (C := RX4) (T := TX4) (N := 12) hx hb hts zinX4 hown hK.1 (zP_reg (L := l_Scenes Z.2.1 Ac C.1 C.2.1 C.2.2.1 C.2.2.2.1 C.2.2.2.2.1 C.2.2.2.2.2.1 C.2.2.2.2.2.2.1 C.2.2.2.2.2.2.2.1 C.2.2.2.2.2.2.2.2.1 C.2.2.2.2.2.2.2.2.2.1 C.2.2.2.2.2.2.2.2.2.2.1 C.2.2.2.2.2.2.2.2.2.2.2) (zP_reg hP 3 rfl) 0 rfl) 0 rfl rfl 8 (by decide) (kn_X6_159 hK.2) (fun _ h9 => h9) rfl (z_d hX6_find_0 23 rfl) ?_
          refine lv_iload hx hb (z_d hX6_find_0 24 rfl) (lv_at hl 4 rfl) ?_
          refine z_let hF (fun q5 hq5 hF => ?_)
          refine z_ro_i (z_rV (As := [.int v]) (rest := []) hx hb hml hown hts vt_X3_at (c_rAt l Z 60 (Ac 11) (Ac 12) (by decide) C.2.2.2.2.2.2.2.2.1 v _ hq5) rfl rfl ⟨Nat.le_of_ble_eq_true rfl, Nat.le_of_ble_eq_true rfl⟩ k_m_X6_150 zPro_blind (z_recv (q := (RX3, TX3, 1)) (ci := 3) (q0 := 0) hK (zP_reg (L := l_Scenes Z.2.1 Ac C.1 C.2.1 C.2.2.1 C.2.2.2.1 C.2.2.2.2.1 C.2.2.2.2.2.1 C.2.2.2.2.2.2.1 C.2.2.2.2.2.2.2.1 C.2.2.2.2.2.2.2.2.1 C.2.2.2.2.2.2.2.2.2.1 C.2.2.2.2.2.2.2.2.2.2.1 C.2.2.2.2.2.2.2.2.2.2.2) (zP_reg hP 3 rfl) 6 rfl) rfl rfl) (z_prec hK (zP_reg (L := l_Scenes Z.2.1 Ac C.1 C.2.1 C.2.2.1 C.2.2.2.1 C.2.2.2.2.1 C.2.2.2.2.2.1 C.2.2.2.2.2.2.1 C.2.2.2.2.2.2.2.1 C.2.2.2.2.2.2.2.2.1 C.2.2.2.2.2.2.2.2.2.1 C.2.2.2.2.2.2.2.2.2.2.1 C.2.2.2.2.2.2.2.2.2.2.2) (zP_reg hP 3 rfl) 6 rfl)) rfl hl.1 (Nat.le_of_ble_eq_true rfl) (z_d hX6_find_0 25 rfl) ⟨Nat.zero_le _, Nat.zero_le _⟩) hS hP (fun H locs hP hS => ?_)
          refine lv_iload_n hx hb (z_d hX6_find_0 26 rfl) rfl (lv_at hl 3 rfl) ?_
          refine lv_icmp_ne (tgt := 66) hx hb (z_d hX6_find_0 27 rfl) (by decide) (fun hc60 => ?_) (fun hc60 => ?_)
          · have hF := z_neg hc60 hF
            refine z_let hF (fun u6 hu6 hF => ?_)
            refine lv_iinc (v := u6) (lv' := [(4, .int u6), (0, .ref mm), (1, .int p1), (2, .int p2), (3, .int p3)]) hx hb (z_d hX6_find_0 30 rfl) hl (k := 4) rfl (z_inc1 hu6) (by decide) rfl (fun ls hl => ?_)
            refine lv_goto (tgt := 3) hx hb (z_d hX6_find_0 31 rfl) (by decide) ?_
            exact ih _ _ hF _ _ ls hP hS (lv_sub hl [1, 2, 3, 4, 0] rfl) K1 K2
          · have hF := z_pos hc60 hF
            refine lv_iload hx hb (z_d hX6_find_0 28 rfl) (lv_at hl 4 rfl) ?_
            obtain rfl := Option.some.inj hF
            exact (K2 _ rfl _ _ ls hP hS)
  refine lv_iconst (v := 0) hx hb (z_d hX6_find_0 0 rfl) (by decide) ?_
  refine lv_istore (lv' := [(4, .int 0), (0, .ref mm), (1, .int p1), (2, .int p2), (3, .int p3)]) hx hb (z_d hX6_find_0 1 rfl) hl (by decide) rfl (fun ls hl => ?_)
  refine z_bnd hF (fun q7 hq7 hF => ?_)
  refine L3  _ _ _ hq7 _ _ ls hP hS (lv_sub hl [1, 2, 3, 4, 0] rfl) (fun y8 e9 H locs ls hP hS hl => ?_) (fun r e9 H locs ls hP hS => ?_)
  · subst e9
    have hF := z_inl hF
    refine lv_iconst (v := (-1)) hx hb (z_d hX6_find_0 32 rfl) (by decide) ?_
    obtain rfl := Option.some.inj hF
    subst hQ
    exact W.iret hx hb hr (fun t ht hW => zq_ro (hS.F ht)) hS.2.2 (z_d hX6_find_0 33 rfl)
  · subst e9
    have hF := z_inr hF
    obtain rfl := Option.some.inj hF
    subst hQ
    exact W.iret hx hb hr (fun t ht hW => zq_ro (hS.F ht)) hS.2.2 (z_d hX6_find_0 29 rfl)
def rm_X6_eighths : Room := { frames := 0, cells := 0, slots := 0, locals := 0 }
set_option maxRecDepth 100000 in
set_option maxHeartbeats 4000000 in
theorem c_X6_eighths (l : Launch) (Z : zZ) (mm : Nat) (As : Nat → Nat) (Bs : Nat → Nat) (Ac : Nat → Nat) (Bc : Nat → Nat) (Ag : Nat → Nat) (Bg : Nat → Nat) (hh ha : Nat) (Ah : Nat → Nat → Nat) (rt rq : Nat) (tl : Int32) (S : t_Script) (D : t_Script) (C : t_Scenes) (E : t_Scenes) (G : t_Pages) (F : t_Pages) (Hs : t_Hist) (tx : Rw) (p1 : Int32) (R : Int32) (hF : X6_eighths tl S D C E G F Hs tx p1 = some R) : zRO l yX6_eighths (zw yX6_eighths cX6_eighths 3 (some .int)) rm_X6_eighths Z [.ref mm, .int p1] (List.flatten [w_Main mm As Bs Ac Bc Ag Bg hh rt tl, w_Script Z.2.1 As S, w_Script Z.2.1 Bs D, w_Scenes Z.2.1 Ac C, w_Scenes Z.2.1 Bc E, w_Pages Z.2.1 Ag G, w_Pages Z.2.1 Bg F, w_Hist Z.2.1 Z.2.2.1 hh ha Ah Hs, w_Row Z.2.1 200 rt rq tx]) (some (.int R)) := by
  refine zRO_of (by decide) (Nat.le_of_ble_eq_true rfl) (fun p e s m below meth c hx hb hr hml hown hts hlocks hK Q hQ ls hl hP hS => ?_)
  unfold X6_eighths at hF
  have hl : lv_has ls 3 [(0, .ref mm), (1, .int p1)] := hl
  have hown : s.vm.findClass RX6 = some m.cls := hown
  refine lv_aload_n hx hb (z_d hX6_eighths_0 0 rfl) rfl (lv_at hl 0 rfl) ?_
  refine va_get (D := Z.1) (ci := 6) (v := .ref (As 0)) (C := RX6) (T := TX6) (N := 9) hx hb hts zinX6 hown hK.1 (zP_reg hP 0 rfl) 0 rfl rfl 0 (by decide) (hts _ k_f_X6_12) (fun _ h9 => h9) rfl (z_d hX6_eighths_0 1 rfl) ?_
  refine va_getN (D := Z.1) (ci := 5) (v := .int S.2.1) (C := RX5) (T := TX5) (N := 10) hx hb hts zinX5 hown hK.1 (zP_reg (L := l_Script Z.2.1 As S.1 S.2.1 S.2.2.1 S.2.2.2.1 S.2.2.2.2.1 S.2.2.2.2.2.1 S.2.2.2.2.2.2.1 S.2.2.2.2.2.2.2.1 S.2.2.2.2.2.2.2.2.1 S.2.2.2.2.2.2.2.2.2) (zP_reg hP 1 rfl) 0 rfl) 0 rfl rfl 1 (by decide) (kn_X6_141 hK.2) (fun _ h9 => h9) rfl (z_d hX6_eighths_0 2 rfl) ?_
  refine lv_istore_n (lv' := [(2, .int S.2.1), (0, .ref mm), (1, .int p1)]) hx hb (z_d hX6_eighths_0 3 rfl) rfl hl (by decide) rfl (fun ls hl => ?_)
  refine lv_iload_n hx hb (z_d hX6_eighths_0 4 rfl) rfl (lv_at hl 0 rfl) ?_
  refine lv_if_le (tgt := 25) hx hb (z_d hX6_eighths_0 5 rfl) (by decide) (fun hc9 => ?_) (fun hc9 => ?_)
  · have hF := z_pos hc9 hF
    refine lv_iconst (v := 0) hx hb (z_d hX6_eighths_0 16 rfl) (by decide) ?_
    obtain rfl := Option.some.inj hF
    subst hQ
    exact W.iret hx hb hr (fun t ht hW => zq_ro (hS.F ht)) hS.2.2 (z_d hX6_eighths_0 17 rfl)
  · have hF := z_neg hc9 hF
    refine lv_iload_n hx hb (z_d hX6_eighths_0 6 rfl) rfl (lv_at hl 2 rfl) ?_
    refine lv_bipush (v := 8) hx hb (z_d hX6_eighths_0 7 rfl) (by decide) ?_
    refine lv_imul hx hb (z_d hX6_eighths_0 8 rfl) ?_
    refine z_let hF (fun u1 hu1 hF => ?_)
    refine lv_topE hu1 ?_
    refine lv_iload_n hx hb (z_d hX6_eighths_0 9 rfl) rfl (lv_at hl 0 rfl) ?_
    refine lv_iadd hx hb (z_d hX6_eighths_0 10 rfl) ?_
    refine z_let hF (fun u2 hu2 hF => ?_)
    refine lv_topE hu2 ?_
    refine lv_iconst (v := 1) hx hb (z_d hX6_eighths_0 11 rfl) (by decide) ?_
    refine lv_isub hx hb (z_d hX6_eighths_0 12 rfl) ?_
    refine z_let hF (fun u3 hu3 hF => ?_)
    refine lv_topE hu3 ?_
    refine lv_iload_n hx hb (z_d hX6_eighths_0 13 rfl) rfl (lv_at hl 0 rfl) ?_
    refine z_dv hF (fun hne hF => ?_)
    refine lv_idiv hx hb (z_d hX6_eighths_0 14 rfl) hne ?_
    refine z_let hF (fun u4 hu4 hF => ?_)
    refine lv_topE hu4 ?_
    refine lv_goto (tgt := 26) hx hb (z_d hX6_eighths_0 15 rfl) (by decide) ?_
    obtain rfl := Option.some.inj hF
    subst hQ
    exact W.iret hx hb hr (fun t ht hW => zq_ro (hS.F ht)) hS.2.2 (z_d hX6_eighths_0 17 rfl)
def rm_X6_valueOf : Room := { frames := 0, cells := 0, slots := 0, locals := 0 }
set_option maxRecDepth 100000 in
set_option maxHeartbeats 4000000 in
theorem c_X6_valueOf (l : Launch) (Z : zZ) (mm : Nat) (As : Nat → Nat) (Bs : Nat → Nat) (Ac : Nat → Nat) (Bc : Nat → Nat) (Ag : Nat → Nat) (Bg : Nat → Nat) (hh ha : Nat) (Ah : Nat → Nat → Nat) (rt rq : Nat) (tl : Int32) (S : t_Script) (D : t_Script) (C : t_Scenes) (E : t_Scenes) (G : t_Pages) (F : t_Pages) (Hs : t_Hist) (tx : Rw) (p1 : Int32) (R : Int32) (hF : X6_valueOf tl S D C E G F Hs tx p1 = R) : zRO l yX6_valueOf (zw yX6_valueOf cX6_valueOf 2 (some .int)) rm_X6_valueOf Z [.ref mm, .int p1] (List.flatten [w_Main mm As Bs Ac Bc Ag Bg hh rt tl, w_Script Z.2.1 As S, w_Script Z.2.1 Bs D, w_Scenes Z.2.1 Ac C, w_Scenes Z.2.1 Bc E, w_Pages Z.2.1 Ag G, w_Pages Z.2.1 Bg F, w_Hist Z.2.1 Z.2.2.1 hh ha Ah Hs, w_Row Z.2.1 200 rt rq tx]) (some (.int R)) := by
  refine zRO_of (by decide) (Nat.le_of_ble_eq_true rfl) (fun p e s m below meth c hx hb hr hml hown hts hlocks hK Q hQ ls hl hP hS => ?_)
  unfold X6_valueOf at hF
  have hl : lv_has ls 2 [(0, .ref mm), (1, .int p1)] := hl
  have hown : s.vm.findClass RX6 = some m.cls := hown
  refine lv_iload_n hx hb (z_d hX6_valueOf_0 0 rfl) rfl (lv_at hl 1 rfl) ?_
  by_cases hs1_0 : p1 = 0
  · have hF := z_pos hs1_0 hF
    refine lv_tableIn (off := 43) (tgt := 44) hx hb (z_d hX6_valueOf_0 1 rfl) (by rw [hs1_0]; decide) (by rw [hs1_0]; decide) (by rw [hs1_0]; first | done | rfl) (by decide) ?_
    refine lv_aload_n hx hb (z_d hX6_valueOf_0 2 rfl) rfl (lv_at hl 0 rfl) ?_
    refine va_get (D := Z.1) (ci := 6) (v := .ref (As 0)) (C := RX6) (T := TX6) (N := 9) hx hb hts zinX6 hown hK.1 (zP_reg hP 0 rfl) 0 rfl rfl 0 (by decide) (hts _ k_f_X6_12) (fun _ h9 => h9) rfl (z_d hX6_valueOf_0 3 rfl) ?_
    refine va_getN (D := Z.1) (ci := 5) (v := .int S.1) (C := RX5) (T := TX5) (N := 10) hx hb hts zinX5 hown hK.1 (zP_reg (L := l_Script Z.2.1 As S.1 S.2.1 S.2.2.1 S.2.2.2.1 S.2.2.2.2.1 S.2.2.2.2.2.1 S.2.2.2.2.2.2.1 S.2.2.2.2.2.2.2.1 S.2.2.2.2.2.2.2.2.1 S.2.2.2.2.2.2.2.2.2) (zP_reg hP 1 rfl) 0 rfl) 0 rfl rfl 0 (by decide) (kn_X6_59 hK.2) (fun _ h9 => h9) rfl (z_d hX6_valueOf_0 4 rfl) ?_
    obtain rfl := hF
    subst hQ
    exact W.iret hx hb hr (fun t ht hW => zq_ro (hS.F ht)) hS.2.2 (z_d hX6_valueOf_0 5 rfl)
  have hF := z_neg hs1_0 hF
  by_cases hs1_1 : p1 = 1
  · have hF := z_pos hs1_1 hF
    refine lv_tableIn (off := 51) (tgt := 52) hx hb (z_d hX6_valueOf_0 1 rfl) (by rw [hs1_1]; decide) (by rw [hs1_1]; decide) (by rw [hs1_1]; first | done | rfl) (by decide) ?_
    refine lv_aload_n hx hb (z_d hX6_valueOf_0 6 rfl) rfl (lv_at hl 0 rfl) ?_
    refine va_get (D := Z.1) (ci := 6) (v := .ref (Ac 0)) (C := RX6) (T := TX6) (N := 9) hx hb hts zinX6 hown hK.1 (zP_reg hP 0 rfl) 0 rfl rfl 2 (by decide) (hts _ k_f_X6_22) (fun _ h9 => h9) rfl (z_d hX6_valueOf_0 7 rfl) ?_
    refine va_getN (D := Z.1) (ci := 4) (v := .int C.1) (C := RX4) (T := TX4) (N := 12) hx hb hts zinX4 hown hK.1 (zP_reg (L := l_Scenes Z.2.1 Ac C.1 C.2.1 C.2.2.1 C.2.2.2.1 C.2.2.2.2.1 C.2.2.2.2.2.1 C.2.2.2.2.2.2.1 C.2.2.2.2.2.2.2.1 C.2.2.2.2.2.2.2.2.1 C.2.2.2.2.2.2.2.2.2.1 C.2.2.2.2.2.2.2.2.2.2.1 C.2.2.2.2.2.2.2.2.2.2.2) (zP_reg hP 3 rfl) 0 rfl) 0 rfl rfl 0 (by decide) (kn_X6_144 hK.2) (fun _ h9 => h9) rfl (z_d hX6_valueOf_0 8 rfl) ?_
    obtain rfl := hF
    subst hQ
    exact W.iret hx hb hr (fun t ht hW => zq_ro (hS.F ht)) hS.2.2 (z_d hX6_valueOf_0 9 rfl)
  have hF := z_neg hs1_1 hF
  by_cases hs1_2 : p1 = 2
  · have hF := z_pos hs1_2 hF
    refine lv_tableIn (off := 59) (tgt := 60) hx hb (z_d hX6_valueOf_0 1 rfl) (by rw [hs1_2]; decide) (by rw [hs1_2]; decide) (by rw [hs1_2]; first | done | rfl) (by decide) ?_
    refine lv_aload_n hx hb (z_d hX6_valueOf_0 10 rfl) rfl (lv_at hl 0 rfl) ?_
    refine va_get (D := Z.1) (ci := 6) (v := .ref (Ag 0)) (C := RX6) (T := TX6) (N := 9) hx hb hts zinX6 hown hK.1 (zP_reg hP 0 rfl) 0 rfl rfl 4 (by decide) (hts _ k_f_X6_32) (fun _ h9 => h9) rfl (z_d hX6_valueOf_0 11 rfl) ?_
    refine va_getN (D := Z.1) (ci := 1) (v := .int G.1) (C := RX1) (T := TX1) (N := 14) hx hb hts zinX1 hown hK.1 (zP_reg (L := l_Pages Z.2.1 Ag G.1 G.2.1 G.2.2.1 G.2.2.2.1 G.2.2.2.2.1 G.2.2.2.2.2.1 G.2.2.2.2.2.2.1 G.2.2.2.2.2.2.2.1 G.2.2.2.2.2.2.2.2.1 G.2.2.2.2.2.2.2.2.2.1 G.2.2.2.2.2.2.2.2.2.2.1 G.2.2.2.2.2.2.2.2.2.2.2.1 G.2.2.2.2.2.2.2.2.2.2.2.2.1 G.2.2.2.2.2.2.2.2.2.2.2.2.2) (zP_reg hP 5 rfl) 0 rfl) 0 rfl rfl 0 (by decide) (kn_X6_182 hK.2) (fun _ h9 => h9) rfl (z_d hX6_valueOf_0 12 rfl) ?_
    obtain rfl := hF
    subst hQ
    exact W.iret hx hb hr (fun t ht hW => zq_ro (hS.F ht)) hS.2.2 (z_d hX6_valueOf_0 13 rfl)
  have hF := z_neg hs1_2 hF
  by_cases hs1_3 : p1 = 3
  · have hF := z_pos hs1_3 hF
    refine lv_tableIn (off := 67) (tgt := 68) hx hb (z_d hX6_valueOf_0 1 rfl) (by rw [hs1_3]; decide) (by rw [hs1_3]; decide) (by rw [hs1_3]; first | done | rfl) (by decide) ?_
    refine lv_aload_n hx hb (z_d hX6_valueOf_0 14 rfl) rfl (lv_at hl 0 rfl) ?_
    refine va_get (D := Z.1) (ci := 6) (v := .ref (As 0)) (C := RX6) (T := TX6) (N := 9) hx hb hts zinX6 hown hK.1 (zP_reg hP 0 rfl) 0 rfl rfl 0 (by decide) (hts _ k_f_X6_12) (fun _ h9 => h9) rfl (z_d hX6_valueOf_0 15 rfl) ?_
    refine va_getN (D := Z.1) (ci := 5) (v := .int S.2.1) (C := RX5) (T := TX5) (N := 10) hx hb hts zinX5 hown hK.1 (zP_reg (L := l_Script Z.2.1 As S.1 S.2.1 S.2.2.1 S.2.2.2.1 S.2.2.2.2.1 S.2.2.2.2.2.1 S.2.2.2.2.2.2.1 S.2.2.2.2.2.2.2.1 S.2.2.2.2.2.2.2.2.1 S.2.2.2.2.2.2.2.2.2) (zP_reg hP 1 rfl) 0 rfl) 0 rfl rfl 1 (by decide) (kn_X6_141 hK.2) (fun _ h9 => h9) rfl (z_d hX6_valueOf_0 16 rfl) ?_
    obtain rfl := hF
    subst hQ
    exact W.iret hx hb hr (fun t ht hW => zq_ro (hS.F ht)) hS.2.2 (z_d hX6_valueOf_0 17 rfl)
  have hF := z_neg hs1_3 hF
  by_cases hs1_4 : p1 = 4
  · have hF := z_pos hs1_4 hF
    refine lv_tableIn (off := 75) (tgt := 76) hx hb (z_d hX6_valueOf_0 1 rfl) (by rw [hs1_4]; decide) (by rw [hs1_4]; decide) (by rw [hs1_4]; first | done | rfl) (by decide) ?_
    refine lv_aload_n hx hb (z_d hX6_valueOf_0 18 rfl) rfl (lv_at hl 0 rfl) ?_
    refine va_get (D := Z.1) (ci := 6) (v := .ref (Ac 0)) (C := RX6) (T := TX6) (N := 9) hx hb hts zinX6 hown hK.1 (zP_reg hP 0 rfl) 0 rfl rfl 2 (by decide) (hts _ k_f_X6_22) (fun _ h9 => h9) rfl (z_d hX6_valueOf_0 19 rfl) ?_
    refine va_getN (D := Z.1) (ci := 4) (v := .int C.2.1) (C := RX4) (T := TX4) (N := 12) hx hb hts zinX4 hown hK.1 (zP_reg (L := l_Scenes Z.2.1 Ac C.1 C.2.1 C.2.2.1 C.2.2.2.1 C.2.2.2.2.1 C.2.2.2.2.2.1 C.2.2.2.2.2.2.1 C.2.2.2.2.2.2.2.1 C.2.2.2.2.2.2.2.2.1 C.2.2.2.2.2.2.2.2.2.1 C.2.2.2.2.2.2.2.2.2.2.1 C.2.2.2.2.2.2.2.2.2.2.2) (zP_reg hP 3 rfl) 0 rfl) 0 rfl rfl 1 (by decide) (kn_X6_255 hK.2) (fun _ h9 => h9) rfl (z_d hX6_valueOf_0 20 rfl) ?_
    obtain rfl := hF
    subst hQ
    exact W.iret hx hb hr (fun t ht hW => zq_ro (hS.F ht)) hS.2.2 (z_d hX6_valueOf_0 21 rfl)
  have hF := z_neg hs1_4 hF
  by_cases hs1_5 : p1 = 5
  · have hF := z_pos hs1_5 hF
    refine lv_tableIn (off := 83) (tgt := 84) hx hb (z_d hX6_valueOf_0 1 rfl) (by rw [hs1_5]; decide) (by rw [hs1_5]; decide) (by rw [hs1_5]; first | done | rfl) (by decide) ?_
    refine lv_aload_n hx hb (z_d hX6_valueOf_0 22 rfl) rfl (lv_at hl 0 rfl) ?_
    refine va_get (D := Z.1) (ci := 6) (v := .ref (Ag 0)) (C := RX6) (T := TX6) (N := 9) hx hb hts zinX6 hown hK.1 (zP_reg hP 0 rfl) 0 rfl rfl 4 (by decide) (hts _ k_f_X6_32) (fun _ h9 => h9) rfl (z_d hX6_valueOf_0 23 rfl) ?_
    refine va_getN (D := Z.1) (ci := 1) (v := .int G.2.1) (C := RX1) (T := TX1) (N := 14) hx hb hts zinX1 hown hK.1 (zP_reg (L := l_Pages Z.2.1 Ag G.1 G.2.1 G.2.2.1 G.2.2.2.1 G.2.2.2.2.1 G.2.2.2.2.2.1 G.2.2.2.2.2.2.1 G.2.2.2.2.2.2.2.1 G.2.2.2.2.2.2.2.2.1 G.2.2.2.2.2.2.2.2.2.1 G.2.2.2.2.2.2.2.2.2.2.1 G.2.2.2.2.2.2.2.2.2.2.2.1 G.2.2.2.2.2.2.2.2.2.2.2.2.1 G.2.2.2.2.2.2.2.2.2.2.2.2.2) (zP_reg hP 5 rfl) 0 rfl) 0 rfl rfl 1 (by decide) (kn_X6_258 hK.2) (fun _ h9 => h9) rfl (z_d hX6_valueOf_0 24 rfl) ?_
    obtain rfl := hF
    subst hQ
    exact W.iret hx hb hr (fun t ht hW => zq_ro (hS.F ht)) hS.2.2 (z_d hX6_valueOf_0 25 rfl)
  have hF := z_neg hs1_5 hF
  by_cases hs1_6 : p1 = 6
  · have hF := z_pos hs1_6 hF
    refine lv_tableIn (off := 91) (tgt := 92) hx hb (z_d hX6_valueOf_0 1 rfl) (by rw [hs1_6]; decide) (by rw [hs1_6]; decide) (by rw [hs1_6]; first | done | rfl) (by decide) ?_
    refine lv_aload_n hx hb (z_d hX6_valueOf_0 26 rfl) rfl (lv_at hl 0 rfl) ?_
    refine va_get (D := Z.1) (ci := 6) (v := .ref (Ac 0)) (C := RX6) (T := TX6) (N := 9) hx hb hts zinX6 hown hK.1 (zP_reg hP 0 rfl) 0 rfl rfl 2 (by decide) (hts _ k_f_X6_22) (fun _ h9 => h9) rfl (z_d hX6_valueOf_0 27 rfl) ?_
    refine va_getN (D := Z.1) (ci := 4) (v := .int C.2.2.1) (C := RX4) (T := TX4) (N := 12) hx hb hts zinX4 hown hK.1 (zP_reg (L := l_Scenes Z.2.1 Ac C.1 C.2.1 C.2.2.1 C.2.2.2.1 C.2.2.2.2.1 C.2.2.2.2.2.1 C.2.2.2.2.2.2.1 C.2.2.2.2.2.2.2.1 C.2.2.2.2.2.2.2.2.1 C.2.2.2.2.2.2.2.2.2.1 C.2.2.2.2.2.2.2.2.2.2.1 C.2.2.2.2.2.2.2.2.2.2.2) (zP_reg hP 3 rfl) 0 rfl) 0 rfl rfl 2 (by decide) (kn_X6_261 hK.2) (fun _ h9 => h9) rfl (z_d hX6_valueOf_0 28 rfl) ?_
    obtain rfl := hF
    subst hQ
    exact W.iret hx hb hr (fun t ht hW => zq_ro (hS.F ht)) hS.2.2 (z_d hX6_valueOf_0 29 rfl)
  have hF := z_neg hs1_6 hF
  have n0 := lv_neT (a := 0) hs1_0 (by decide)
  have n1 := lv_neT (a := 1) hs1_1 (by decide)
  have n2 := lv_neT (a := 2) hs1_2 (by decide)
  have n3 := lv_neT (a := 3) hs1_3 (by decide)
  have n4 := lv_neT (a := 4) hs1_4 (by decide)
  have n5 := lv_neT (a := 5) hs1_5 (by decide)
  have n6 := lv_neT (a := 6) hs1_6 (by decide)
  refine lv_tableOut (tgt := 100) hx hb (z_d hX6_valueOf_0 1 rfl) (by omega) (by decide) ?_
  refine lv_aload_n hx hb (z_d hX6_valueOf_0 30 rfl) rfl (lv_at hl 0 rfl) ?_
  refine va_get (D := Z.1) (ci := 6) (v := .ref (Ag 0)) (C := RX6) (T := TX6) (N := 9) hx hb hts zinX6 hown hK.1 (zP_reg hP 0 rfl) 0 rfl rfl 4 (by decide) (hts _ k_f_X6_32) (fun _ h9 => h9) rfl (z_d hX6_valueOf_0 31 rfl) ?_
  refine va_getN (D := Z.1) (ci := 1) (v := .int G.2.2.1) (C := RX1) (T := TX1) (N := 14) hx hb hts zinX1 hown hK.1 (zP_reg (L := l_Pages Z.2.1 Ag G.1 G.2.1 G.2.2.1 G.2.2.2.1 G.2.2.2.2.1 G.2.2.2.2.2.1 G.2.2.2.2.2.2.1 G.2.2.2.2.2.2.2.1 G.2.2.2.2.2.2.2.2.1 G.2.2.2.2.2.2.2.2.2.1 G.2.2.2.2.2.2.2.2.2.2.1 G.2.2.2.2.2.2.2.2.2.2.2.1 G.2.2.2.2.2.2.2.2.2.2.2.2.1 G.2.2.2.2.2.2.2.2.2.2.2.2.2) (zP_reg hP 5 rfl) 0 rfl) 0 rfl rfl 2 (by decide) (kn_X6_264 hK.2) (fun _ h9 => h9) rfl (z_d hX6_valueOf_0 32 rfl) ?_
  obtain rfl := hF
  subst hQ
  exact W.iret hx hb hr (fun t ht hW => zq_ro (hS.F ht)) hS.2.2 (z_d hX6_valueOf_0 33 rfl)
def rm_X6_elementFact : Room := { frames := 3, cells := 0, slots := 0, locals := 65 }
set_option maxRecDepth 100000 in
set_option maxHeartbeats 4000000 in
theorem c_X6_elementFact (l : Launch) (Z : zZ) (mm : Nat) (As : Nat → Nat) (Bs : Nat → Nat) (Ac : Nat → Nat) (Bc : Nat → Nat) (Ag : Nat → Nat) (Bg : Nat → Nat) (hh ha : Nat) (Ah : Nat → Nat → Nat) (rt rq : Nat) (tl : Int32) (S : t_Script) (D : t_Script) (C : t_Scenes) (E : t_Scenes) (G : t_Pages) (F : t_Pages) (Hs : t_Hist) (tx : Rw) (p1 : Int32) (p2 : Int32) (R : Int32) (hF : X6_elementFact tl S D C E G F Hs tx p1 p2 = R) : zRO l yX6_elementFact (zw yX6_elementFact cX6_elementFact 3 (some .int)) rm_X6_elementFact Z [.ref mm, .int p1, .int p2] (List.flatten [w_Main mm As Bs Ac Bc Ag Bg hh rt tl, w_Script Z.2.1 As S, w_Script Z.2.1 Bs D, w_Scenes Z.2.1 Ac C, w_Scenes Z.2.1 Bc E, w_Pages Z.2.1 Ag G, w_Pages Z.2.1 Bg F, w_Hist Z.2.1 Z.2.2.1 hh ha Ah Hs, w_Row Z.2.1 200 rt rq tx]) (some (.int R)) := by
  refine zRO_of (by decide) (Nat.le_of_ble_eq_true rfl) (fun p e s m below meth c hx hb hr hml hown hts hlocks hK Q hQ ls hl hP hS => ?_)
  unfold X6_elementFact at hF
  have hl : lv_has ls 3 [(0, .ref mm), (1, .int p1), (2, .int p2)] := hl
  have hown : s.vm.findClass RX6 = some m.cls := hown
  refine lv_iload_n hx hb (z_d hX6_elementFact_0 0 rfl) rfl (lv_at hl 2 rfl) ?_
  by_cases hs1_0 : p2 = 0
  · have hF := z_pos hs1_0 hF
    refine lv_tableIn (off := 51) (tgt := 52) hx hb (z_d hX6_elementFact_0 1 rfl) (by rw [hs1_0]; decide) (by rw [hs1_0]; decide) (by rw [hs1_0]; first | done | rfl) (by decide) ?_
    refine lv_aload_n hx hb (z_d hX6_elementFact_0 2 rfl) rfl (lv_at hl 0 rfl) ?_
    refine va_get (D := Z.1) (ci := 6) (v := .ref (As 0)) (C := RX6) (T := TX6) (N := 9) hx hb hts zinX6 hown hK.1 (zP_reg hP 0 rfl) 0 rfl rfl 0 (by decide) (hts _ k_f_X6_12) (fun _ h9 => h9) rfl (z_d hX6_elementFact_0 3 rfl) ?_
    refine va_getN (D := Z.1) (ci := 5) (v := .ref (As 1)) (C := RX5) (T := TX5) (N := 10) hx hb hts zinX5 hown hK.1 (zP_reg (L := l_Script Z.2.1 As S.1 S.2.1 S.2.2.1 S.2.2.2.1 S.2.2.2.2.1 S.2.2.2.2.2.1 S.2.2.2.2.2.2.1 S.2.2.2.2.2.2.2.1 S.2.2.2.2.2.2.2.2.1 S.2.2.2.2.2.2.2.2.2) (zP_reg hP 1 rfl) 0 rfl) 0 rfl rfl 2 (by decide) (kn_X6_267 hK.2) (fun _ h9 => h9) rfl (z_d hX6_elementFact_0 4 rfl) ?_
    refine lv_iload_n hx hb (z_d hX6_elementFact_0 5 rfl) rfl (lv_at hl 1 rfl) ?_
    refine z_let hF (fun q1 hq1 hF => ?_)
    refine z_ro_i (z_rV (As := [.int p1]) (rest := []) hx hb hml hown hts vt_X3_at (c_rAt l Z 60 (As 1) (As 2) (by decide) S.2.2.1 p1 _ hq1) rfl rfl ⟨Nat.le_of_ble_eq_true rfl, Nat.le_of_ble_eq_true rfl⟩ k_m_X6_150 zPro_blind (z_recv (q := (RX3, TX3, 1)) (ci := 3) (q0 := 0) hK (zP_reg (L := l_Script Z.2.1 As S.1 S.2.1 S.2.2.1 S.2.2.2.1 S.2.2.2.2.1 S.2.2.2.2.2.1 S.2.2.2.2.2.2.1 S.2.2.2.2.2.2.2.1 S.2.2.2.2.2.2.2.2.1 S.2.2.2.2.2.2.2.2.2) (zP_reg hP 1 rfl) 1 rfl) rfl rfl) (z_prec hK (zP_reg (L := l_Script Z.2.1 As S.1 S.2.1 S.2.2.1 S.2.2.2.1 S.2.2.2.2.1 S.2.2.2.2.2.1 S.2.2.2.2.2.2.1 S.2.2.2.2.2.2.2.1 S.2.2.2.2.2.2.2.2.1 S.2.2.2.2.2.2.2.2.2) (zP_reg hP 1 rfl) 1 rfl)) rfl hl.1 (Nat.le_of_ble_eq_true rfl) (z_d hX6_elementFact_0 6 rfl) ⟨Nat.zero_le _, Nat.zero_le _⟩) hS hP (fun H locs hP hS => ?_)
    obtain rfl := hF
    subst hQ
    exact W.iret hx hb hr (fun t ht hW => zq_ro (hS.F ht)) hS.2.2 (z_d hX6_elementFact_0 7 rfl)
  have hF := z_neg hs1_0 hF
  by_cases hs1_1 : p2 = 1
  · have hF := z_pos hs1_1 hF
    refine lv_tableIn (off := 63) (tgt := 64) hx hb (z_d hX6_elementFact_0 1 rfl) (by rw [hs1_1]; decide) (by rw [hs1_1]; decide) (by rw [hs1_1]; first | done | rfl) (by decide) ?_
    refine lv_aload_n hx hb (z_d hX6_elementFact_0 8 rfl) rfl (lv_at hl 0 rfl) ?_
    refine va_get (D := Z.1) (ci := 6) (v := .ref (As 0)) (C := RX6) (T := TX6) (N := 9) hx hb hts zinX6 hown hK.1 (zP_reg hP 0 rfl) 0 rfl rfl 0 (by decide) (hts _ k_f_X6_12) (fun _ h9 => h9) rfl (z_d hX6_elementFact_0 9 rfl) ?_
    refine va_getN (D := Z.1) (ci := 5) (v := .ref (As 3)) (C := RX5) (T := TX5) (N := 10) hx hb hts zinX5 hown hK.1 (zP_reg (L := l_Script Z.2.1 As S.1 S.2.1 S.2.2.1 S.2.2.2.1 S.2.2.2.2.1 S.2.2.2.2.2.1 S.2.2.2.2.2.2.1 S.2.2.2.2.2.2.2.1 S.2.2.2.2.2.2.2.2.1 S.2.2.2.2.2.2.2.2.2) (zP_reg hP 1 rfl) 0 rfl) 0 rfl rfl 3 (by decide) (kn_X6_125 hK.2) (fun _ h9 => h9) rfl (z_d hX6_elementFact_0 10 rfl) ?_
    refine lv_iload_n hx hb (z_d hX6_elementFact_0 11 rfl) rfl (lv_at hl 1 rfl) ?_
    refine z_let hF (fun q2 hq2 hF => ?_)
    refine z_ro_i (z_rV (As := [.int p1]) (rest := []) hx hb hml hown hts vt_X3_at (c_rAt l Z 60 (As 3) (As 4) (by decide) S.2.2.2.1 p1 _ hq2) rfl rfl ⟨Nat.le_of_ble_eq_true rfl, Nat.le_of_ble_eq_true rfl⟩ k_m_X6_150 zPro_blind (z_recv (q := (RX3, TX3, 1)) (ci := 3) (q0 := 0) hK (zP_reg (L := l_Script Z.2.1 As S.1 S.2.1 S.2.2.1 S.2.2.2.1 S.2.2.2.2.1 S.2.2.2.2.2.1 S.2.2.2.2.2.2.1 S.2.2.2.2.2.2.2.1 S.2.2.2.2.2.2.2.2.1 S.2.2.2.2.2.2.2.2.2) (zP_reg hP 1 rfl) 2 rfl) rfl rfl) (z_prec hK (zP_reg (L := l_Script Z.2.1 As S.1 S.2.1 S.2.2.1 S.2.2.2.1 S.2.2.2.2.1 S.2.2.2.2.2.1 S.2.2.2.2.2.2.1 S.2.2.2.2.2.2.2.1 S.2.2.2.2.2.2.2.2.1 S.2.2.2.2.2.2.2.2.2) (zP_reg hP 1 rfl) 2 rfl)) rfl hl.1 (Nat.le_of_ble_eq_true rfl) (z_d hX6_elementFact_0 12 rfl) ⟨Nat.zero_le _, Nat.zero_le _⟩) hS hP (fun H locs hP hS => ?_)
    obtain rfl := hF
    subst hQ
    exact W.iret hx hb hr (fun t ht hW => zq_ro (hS.F ht)) hS.2.2 (z_d hX6_elementFact_0 13 rfl)
  have hF := z_neg hs1_1 hF
  by_cases hs1_2 : p2 = 2
  · have hF := z_pos hs1_2 hF
    refine lv_tableIn (off := 75) (tgt := 76) hx hb (z_d hX6_elementFact_0 1 rfl) (by rw [hs1_2]; decide) (by rw [hs1_2]; decide) (by rw [hs1_2]; first | done | rfl) (by decide) ?_
    refine lv_aload_n hx hb (z_d hX6_elementFact_0 14 rfl) rfl (lv_at hl 0 rfl) ?_
    refine va_get (D := Z.1) (ci := 6) (v := .ref (As 0)) (C := RX6) (T := TX6) (N := 9) hx hb hts zinX6 hown hK.1 (zP_reg hP 0 rfl) 0 rfl rfl 0 (by decide) (hts _ k_f_X6_12) (fun _ h9 => h9) rfl (z_d hX6_elementFact_0 15 rfl) ?_
    refine va_getN (D := Z.1) (ci := 5) (v := .ref (As 5)) (C := RX5) (T := TX5) (N := 10) hx hb hts zinX5 hown hK.1 (zP_reg (L := l_Script Z.2.1 As S.1 S.2.1 S.2.2.1 S.2.2.2.1 S.2.2.2.2.1 S.2.2.2.2.2.1 S.2.2.2.2.2.2.1 S.2.2.2.2.2.2.2.1 S.2.2.2.2.2.2.2.2.1 S.2.2.2.2.2.2.2.2.2) (zP_reg hP 1 rfl) 0 rfl) 0 rfl rfl 4 (by decide) (kn_X6_206 hK.2) (fun _ h9 => h9) rfl (z_d hX6_elementFact_0 16 rfl) ?_
    refine lv_iload_n hx hb (z_d hX6_elementFact_0 17 rfl) rfl (lv_at hl 1 rfl) ?_
    refine z_let hF (fun q3 hq3 hF => ?_)
    refine z_ro_i (z_rV (As := [.int p1]) (rest := []) hx hb hml hown hts vt_X3_at (c_rAt l Z 60 (As 5) (As 6) (by decide) S.2.2.2.2.1 p1 _ hq3) rfl rfl ⟨Nat.le_of_ble_eq_true rfl, Nat.le_of_ble_eq_true rfl⟩ k_m_X6_150 zPro_blind (z_recv (q := (RX3, TX3, 1)) (ci := 3) (q0 := 0) hK (zP_reg (L := l_Script Z.2.1 As S.1 S.2.1 S.2.2.1 S.2.2.2.1 S.2.2.2.2.1 S.2.2.2.2.2.1 S.2.2.2.2.2.2.1 S.2.2.2.2.2.2.2.1 S.2.2.2.2.2.2.2.2.1 S.2.2.2.2.2.2.2.2.2) (zP_reg hP 1 rfl) 3 rfl) rfl rfl) (z_prec hK (zP_reg (L := l_Script Z.2.1 As S.1 S.2.1 S.2.2.1 S.2.2.2.1 S.2.2.2.2.1 S.2.2.2.2.2.1 S.2.2.2.2.2.2.1 S.2.2.2.2.2.2.2.1 S.2.2.2.2.2.2.2.2.1 S.2.2.2.2.2.2.2.2.2) (zP_reg hP 1 rfl) 3 rfl)) rfl hl.1 (Nat.le_of_ble_eq_true rfl) (z_d hX6_elementFact_0 18 rfl) ⟨Nat.zero_le _, Nat.zero_le _⟩) hS hP (fun H locs hP hS => ?_)
    obtain rfl := hF
    subst hQ
    exact W.iret hx hb hr (fun t ht hW => zq_ro (hS.F ht)) hS.2.2 (z_d hX6_elementFact_0 19 rfl)
  have hF := z_neg hs1_2 hF
  by_cases hs1_3 : p2 = 3
  · have hF := z_pos hs1_3 hF
    refine lv_tableIn (off := 87) (tgt := 88) hx hb (z_d hX6_elementFact_0 1 rfl) (by rw [hs1_3]; decide) (by rw [hs1_3]; decide) (by rw [hs1_3]; first | done | rfl) (by decide) ?_
    refine lv_aload_n hx hb (z_d hX6_elementFact_0 20 rfl) rfl (lv_at hl 0 rfl) ?_
    refine va_get (D := Z.1) (ci := 6) (v := .ref (As 0)) (C := RX6) (T := TX6) (N := 9) hx hb hts zinX6 hown hK.1 (zP_reg hP 0 rfl) 0 rfl rfl 0 (by decide) (hts _ k_f_X6_12) (fun _ h9 => h9) rfl (z_d hX6_elementFact_0 21 rfl) ?_
    refine lv_iload_n hx hb (z_d hX6_elementFact_0 22 rfl) rfl (lv_at hl 1 rfl) ?_
    refine z_let hF (fun q4 hq4 hF => ?_)
    refine z_ro_i (z_rV (As := [.int p1]) (rest := []) hx hb hml hown hts vt_X5_linesOf (c_X5_linesOf l Z As S p1 _ hq4) rfl rfl ⟨Nat.le_of_ble_eq_true rfl, Nat.le_of_ble_eq_true rfl⟩ k_m_X6_132 zPro_blind (z_recv (q := (RX5, TX5, 10)) (ci := 5) (q0 := 0) hK (zP_reg (L := l_Script Z.2.1 As S.1 S.2.1 S.2.2.1 S.2.2.2.1 S.2.2.2.2.1 S.2.2.2.2.2.1 S.2.2.2.2.2.2.1 S.2.2.2.2.2.2.2.1 S.2.2.2.2.2.2.2.2.1 S.2.2.2.2.2.2.2.2.2) (zP_reg hP 1 rfl) 0 rfl) rfl rfl) (z_prec hK (zP_reg hP 1 rfl)) rfl hl.1 (Nat.le_of_ble_eq_true rfl) (z_d hX6_elementFact_0 23 rfl) ⟨Nat.zero_le _, Nat.zero_le _⟩) hS hP (fun H locs hP hS => ?_)
    obtain rfl := hF
    subst hQ
    exact W.iret hx hb hr (fun t ht hW => zq_ro (hS.F ht)) hS.2.2 (z_d hX6_elementFact_0 24 rfl)
  have hF := z_neg hs1_3 hF
  by_cases hs1_4 : p2 = 4
  · have hF := z_pos hs1_4 hF
    refine lv_tableIn (off := 96) (tgt := 97) hx hb (z_d hX6_elementFact_0 1 rfl) (by rw [hs1_4]; decide) (by rw [hs1_4]; decide) (by rw [hs1_4]; first | done | rfl) (by decide) ?_
    refine lv_aload_n hx hb (z_d hX6_elementFact_0 25 rfl) rfl (lv_at hl 0 rfl) ?_
    refine va_get (D := Z.1) (ci := 6) (v := .ref (Ac 0)) (C := RX6) (T := TX6) (N := 9) hx hb hts zinX6 hown hK.1 (zP_reg hP 0 rfl) 0 rfl rfl 2 (by decide) (hts _ k_f_X6_22) (fun _ h9 => h9) rfl (z_d hX6_elementFact_0 26 rfl) ?_
    refine va_getN (D := Z.1) (ci := 4) (v := .ref (Ac 15)) (C := RX4) (T := TX4) (N := 12) hx hb hts zinX4 hown hK.1 (zP_reg (L := l_Scenes Z.2.1 Ac C.1 C.2.1 C.2.2.1 C.2.2.2.1 C.2.2.2.2.1 C.2.2.2.2.2.1 C.2.2.2.2.2.2.1 C.2.2.2.2.2.2.2.1 C.2.2.2.2.2.2.2.2.1 C.2.2.2.2.2.2.2.2.2.1 C.2.2.2.2.2.2.2.2.2.2.1 C.2.2.2.2.2.2.2.2.2.2.2) (zP_reg hP 3 rfl) 0 rfl) 0 rfl rfl 10 (by decide) (kn_X6_270 hK.2) (fun _ h9 => h9) rfl (z_d hX6_elementFact_0 27 rfl) ?_
    refine lv_iload_n hx hb (z_d hX6_elementFact_0 28 rfl) rfl (lv_at hl 1 rfl) ?_
    refine z_let hF (fun q5 hq5 hF => ?_)
    refine z_ro_i (z_rV (As := [.int p1]) (rest := []) hx hb hml hown hts vt_X3_at (c_rAt l Z 60 (Ac 15) (Ac 16) (by decide) C.2.2.2.2.2.2.2.2.2.2.1 p1 _ hq5) rfl rfl ⟨Nat.le_of_ble_eq_true rfl, Nat.le_of_ble_eq_true rfl⟩ k_m_X6_150 zPro_blind (z_recv (q := (RX3, TX3, 1)) (ci := 3) (q0 := 0) hK (zP_reg (L := l_Scenes Z.2.1 Ac C.1 C.2.1 C.2.2.1 C.2.2.2.1 C.2.2.2.2.1 C.2.2.2.2.2.1 C.2.2.2.2.2.2.1 C.2.2.2.2.2.2.2.1 C.2.2.2.2.2.2.2.2.1 C.2.2.2.2.2.2.2.2.2.1 C.2.2.2.2.2.2.2.2.2.2.1 C.2.2.2.2.2.2.2.2.2.2.2) (zP_reg hP 3 rfl) 8 rfl) rfl rfl) (z_prec hK (zP_reg (L := l_Scenes Z.2.1 Ac C.1 C.2.1 C.2.2.1 C.2.2.2.1 C.2.2.2.2.1 C.2.2.2.2.2.1 C.2.2.2.2.2.2.1 C.2.2.2.2.2.2.2.1 C.2.2.2.2.2.2.2.2.1 C.2.2.2.2.2.2.2.2.2.1 C.2.2.2.2.2.2.2.2.2.2.1 C.2.2.2.2.2.2.2.2.2.2.2) (zP_reg hP 3 rfl) 8 rfl)) rfl hl.1 (Nat.le_of_ble_eq_true rfl) (z_d hX6_elementFact_0 29 rfl) ⟨Nat.zero_le _, Nat.zero_le _⟩) hS hP (fun H locs hP hS => ?_)
    obtain rfl := hF
    subst hQ
    exact W.iret hx hb hr (fun t ht hW => zq_ro (hS.F ht)) hS.2.2 (z_d hX6_elementFact_0 30 rfl)
  have hF := z_neg hs1_4 hF
  by_cases hs1_5 : p2 = 5
  · have hF := z_pos hs1_5 hF
    refine lv_tableIn (off := 108) (tgt := 109) hx hb (z_d hX6_elementFact_0 1 rfl) (by rw [hs1_5]; decide) (by rw [hs1_5]; decide) (by rw [hs1_5]; first | done | rfl) (by decide) ?_
    refine lv_aload_n hx hb (z_d hX6_elementFact_0 31 rfl) rfl (lv_at hl 0 rfl) ?_
    refine va_get (D := Z.1) (ci := 6) (v := .ref (As 0)) (C := RX6) (T := TX6) (N := 9) hx hb hts zinX6 hown hK.1 (zP_reg hP 0 rfl) 0 rfl rfl 0 (by decide) (hts _ k_f_X6_12) (fun _ h9 => h9) rfl (z_d hX6_elementFact_0 32 rfl) ?_
    refine va_getN (D := Z.1) (ci := 5) (v := .ref (As 7)) (C := RX5) (T := TX5) (N := 10) hx hb hts zinX5 hown hK.1 (zP_reg (L := l_Script Z.2.1 As S.1 S.2.1 S.2.2.1 S.2.2.2.1 S.2.2.2.2.1 S.2.2.2.2.2.1 S.2.2.2.2.2.2.1 S.2.2.2.2.2.2.2.1 S.2.2.2.2.2.2.2.2.1 S.2.2.2.2.2.2.2.2.2) (zP_reg hP 1 rfl) 0 rfl) 0 rfl rfl 5 (by decide) (kn_X6_179 hK.2) (fun _ h9 => h9) rfl (z_d hX6_elementFact_0 33 rfl) ?_
    refine lv_iload_n hx hb (z_d hX6_elementFact_0 34 rfl) rfl (lv_at hl 1 rfl) ?_
    refine z_let hF (fun q6 hq6 hF => ?_)
    refine z_ro_i (z_rV (As := [.int p1]) (rest := []) hx hb hml hown hts vt_X3_at (c_rAt l Z 60 (As 7) (As 8) (by decide) S.2.2.2.2.2.1 p1 _ hq6) rfl rfl ⟨Nat.le_of_ble_eq_true rfl, Nat.le_of_ble_eq_true rfl⟩ k_m_X6_150 zPro_blind (z_recv (q := (RX3, TX3, 1)) (ci := 3) (q0 := 0) hK (zP_reg (L := l_Script Z.2.1 As S.1 S.2.1 S.2.2.1 S.2.2.2.1 S.2.2.2.2.1 S.2.2.2.2.2.1 S.2.2.2.2.2.2.1 S.2.2.2.2.2.2.2.1 S.2.2.2.2.2.2.2.2.1 S.2.2.2.2.2.2.2.2.2) (zP_reg hP 1 rfl) 4 rfl) rfl rfl) (z_prec hK (zP_reg (L := l_Script Z.2.1 As S.1 S.2.1 S.2.2.1 S.2.2.2.1 S.2.2.2.2.1 S.2.2.2.2.2.1 S.2.2.2.2.2.2.1 S.2.2.2.2.2.2.2.1 S.2.2.2.2.2.2.2.2.1 S.2.2.2.2.2.2.2.2.2) (zP_reg hP 1 rfl) 4 rfl)) rfl hl.1 (Nat.le_of_ble_eq_true rfl) (z_d hX6_elementFact_0 35 rfl) ⟨Nat.zero_le _, Nat.zero_le _⟩) hS hP (fun H locs hP hS => ?_)
    obtain rfl := hF
    subst hQ
    exact W.iret hx hb hr (fun t ht hW => zq_ro (hS.F ht)) hS.2.2 (z_d hX6_elementFact_0 36 rfl)
  have hF := z_neg hs1_5 hF
  by_cases hs1_6 : p2 = 6
  · have hF := z_pos hs1_6 hF
    refine lv_tableIn (off := 120) (tgt := 121) hx hb (z_d hX6_elementFact_0 1 rfl) (by rw [hs1_6]; decide) (by rw [hs1_6]; decide) (by rw [hs1_6]; first | done | rfl) (by decide) ?_
    refine lv_aload_n hx hb (z_d hX6_elementFact_0 37 rfl) rfl (lv_at hl 0 rfl) ?_
    refine va_get (D := Z.1) (ci := 6) (v := .ref (Ag 0)) (C := RX6) (T := TX6) (N := 9) hx hb hts zinX6 hown hK.1 (zP_reg hP 0 rfl) 0 rfl rfl 4 (by decide) (hts _ k_f_X6_32) (fun _ h9 => h9) rfl (z_d hX6_elementFact_0 38 rfl) ?_
    refine va_getN (D := Z.1) (ci := 1) (v := .ref (Ag 3)) (C := RX1) (T := TX1) (N := 14) hx hb hts zinX1 hown hK.1 (zP_reg (L := l_Pages Z.2.1 Ag G.1 G.2.1 G.2.2.1 G.2.2.2.1 G.2.2.2.2.1 G.2.2.2.2.2.1 G.2.2.2.2.2.2.1 G.2.2.2.2.2.2.2.1 G.2.2.2.2.2.2.2.2.1 G.2.2.2.2.2.2.2.2.2.1 G.2.2.2.2.2.2.2.2.2.2.1 G.2.2.2.2.2.2.2.2.2.2.2.1 G.2.2.2.2.2.2.2.2.2.2.2.2.1 G.2.2.2.2.2.2.2.2.2.2.2.2.2) (zP_reg hP 5 rfl) 0 rfl) 0 rfl rfl 6 (by decide) (kn_X6_273 hK.2) (fun _ h9 => h9) rfl (z_d hX6_elementFact_0 39 rfl) ?_
    refine lv_iload_n hx hb (z_d hX6_elementFact_0 40 rfl) rfl (lv_at hl 1 rfl) ?_
    refine z_let hF (fun q7 hq7 hF => ?_)
    refine z_ro_i (z_rV (As := [.int p1]) (rest := []) hx hb hml hown hts vt_X3_at (c_rAt l Z 60 (Ag 3) (Ag 4) (by decide) G.2.2.2.2.2.2.1 p1 _ hq7) rfl rfl ⟨Nat.le_of_ble_eq_true rfl, Nat.le_of_ble_eq_true rfl⟩ k_m_X6_150 zPro_blind (z_recv (q := (RX3, TX3, 1)) (ci := 3) (q0 := 0) hK (zP_reg (L := l_Pages Z.2.1 Ag G.1 G.2.1 G.2.2.1 G.2.2.2.1 G.2.2.2.2.1 G.2.2.2.2.2.1 G.2.2.2.2.2.2.1 G.2.2.2.2.2.2.2.1 G.2.2.2.2.2.2.2.2.1 G.2.2.2.2.2.2.2.2.2.1 G.2.2.2.2.2.2.2.2.2.2.1 G.2.2.2.2.2.2.2.2.2.2.2.1 G.2.2.2.2.2.2.2.2.2.2.2.2.1 G.2.2.2.2.2.2.2.2.2.2.2.2.2) (zP_reg hP 5 rfl) 2 rfl) rfl rfl) (z_prec hK (zP_reg (L := l_Pages Z.2.1 Ag G.1 G.2.1 G.2.2.1 G.2.2.2.1 G.2.2.2.2.1 G.2.2.2.2.2.1 G.2.2.2.2.2.2.1 G.2.2.2.2.2.2.2.1 G.2.2.2.2.2.2.2.2.1 G.2.2.2.2.2.2.2.2.2.1 G.2.2.2.2.2.2.2.2.2.2.1 G.2.2.2.2.2.2.2.2.2.2.2.1 G.2.2.2.2.2.2.2.2.2.2.2.2.1 G.2.2.2.2.2.2.2.2.2.2.2.2.2) (zP_reg hP 5 rfl) 2 rfl)) rfl hl.1 (Nat.le_of_ble_eq_true rfl) (z_d hX6_elementFact_0 41 rfl) ⟨Nat.zero_le _, Nat.zero_le _⟩) hS hP (fun H locs hP hS => ?_)
    obtain rfl := hF
    subst hQ
    exact W.iret hx hb hr (fun t ht hW => zq_ro (hS.F ht)) hS.2.2 (z_d hX6_elementFact_0 42 rfl)
  have hF := z_neg hs1_6 hF
  by_cases hs1_7 : p2 = 7
  · have hF := z_pos hs1_7 hF
    refine lv_tableIn (off := 132) (tgt := 133) hx hb (z_d hX6_elementFact_0 1 rfl) (by rw [hs1_7]; decide) (by rw [hs1_7]; decide) (by rw [hs1_7]; first | done | rfl) (by decide) ?_
    refine lv_aload_n hx hb (z_d hX6_elementFact_0 43 rfl) rfl (lv_at hl 0 rfl) ?_
    refine va_get (D := Z.1) (ci := 6) (v := .ref (Ag 0)) (C := RX6) (T := TX6) (N := 9) hx hb hts zinX6 hown hK.1 (zP_reg hP 0 rfl) 0 rfl rfl 4 (by decide) (hts _ k_f_X6_32) (fun _ h9 => h9) rfl (z_d hX6_elementFact_0 44 rfl) ?_
    refine va_getN (D := Z.1) (ci := 1) (v := .ref (Ag 5)) (C := RX1) (T := TX1) (N := 14) hx hb hts zinX1 hown hK.1 (zP_reg (L := l_Pages Z.2.1 Ag G.1 G.2.1 G.2.2.1 G.2.2.2.1 G.2.2.2.2.1 G.2.2.2.2.2.1 G.2.2.2.2.2.2.1 G.2.2.2.2.2.2.2.1 G.2.2.2.2.2.2.2.2.1 G.2.2.2.2.2.2.2.2.2.1 G.2.2.2.2.2.2.2.2.2.2.1 G.2.2.2.2.2.2.2.2.2.2.2.1 G.2.2.2.2.2.2.2.2.2.2.2.2.1 G.2.2.2.2.2.2.2.2.2.2.2.2.2) (zP_reg hP 5 rfl) 0 rfl) 0 rfl rfl 7 (by decide) (kn_X6_276 hK.2) (fun _ h9 => h9) rfl (z_d hX6_elementFact_0 45 rfl) ?_
    refine lv_iload_n hx hb (z_d hX6_elementFact_0 46 rfl) rfl (lv_at hl 1 rfl) ?_
    refine z_let hF (fun q8 hq8 hF => ?_)
    refine z_ro_i (z_rV (As := [.int p1]) (rest := []) hx hb hml hown hts vt_X3_at (c_rAt l Z 60 (Ag 5) (Ag 6) (by decide) G.2.2.2.2.2.2.2.1 p1 _ hq8) rfl rfl ⟨Nat.le_of_ble_eq_true rfl, Nat.le_of_ble_eq_true rfl⟩ k_m_X6_150 zPro_blind (z_recv (q := (RX3, TX3, 1)) (ci := 3) (q0 := 0) hK (zP_reg (L := l_Pages Z.2.1 Ag G.1 G.2.1 G.2.2.1 G.2.2.2.1 G.2.2.2.2.1 G.2.2.2.2.2.1 G.2.2.2.2.2.2.1 G.2.2.2.2.2.2.2.1 G.2.2.2.2.2.2.2.2.1 G.2.2.2.2.2.2.2.2.2.1 G.2.2.2.2.2.2.2.2.2.2.1 G.2.2.2.2.2.2.2.2.2.2.2.1 G.2.2.2.2.2.2.2.2.2.2.2.2.1 G.2.2.2.2.2.2.2.2.2.2.2.2.2) (zP_reg hP 5 rfl) 3 rfl) rfl rfl) (z_prec hK (zP_reg (L := l_Pages Z.2.1 Ag G.1 G.2.1 G.2.2.1 G.2.2.2.1 G.2.2.2.2.1 G.2.2.2.2.2.1 G.2.2.2.2.2.2.1 G.2.2.2.2.2.2.2.1 G.2.2.2.2.2.2.2.2.1 G.2.2.2.2.2.2.2.2.2.1 G.2.2.2.2.2.2.2.2.2.2.1 G.2.2.2.2.2.2.2.2.2.2.2.1 G.2.2.2.2.2.2.2.2.2.2.2.2.1 G.2.2.2.2.2.2.2.2.2.2.2.2.2) (zP_reg hP 5 rfl) 3 rfl)) rfl hl.1 (Nat.le_of_ble_eq_true rfl) (z_d hX6_elementFact_0 47 rfl) ⟨Nat.zero_le _, Nat.zero_le _⟩) hS hP (fun H locs hP hS => ?_)
    obtain rfl := hF
    subst hQ
    exact W.iret hx hb hr (fun t ht hW => zq_ro (hS.F ht)) hS.2.2 (z_d hX6_elementFact_0 48 rfl)
  have hF := z_neg hs1_7 hF
  by_cases hs1_8 : p2 = 8
  · have hF := z_pos hs1_8 hF
    refine lv_tableIn (off := 144) (tgt := 145) hx hb (z_d hX6_elementFact_0 1 rfl) (by rw [hs1_8]; decide) (by rw [hs1_8]; decide) (by rw [hs1_8]; first | done | rfl) (by decide) ?_
    refine lv_aload_n hx hb (z_d hX6_elementFact_0 49 rfl) rfl (lv_at hl 0 rfl) ?_
    refine va_get (D := Z.1) (ci := 6) (v := .ref (Ag 0)) (C := RX6) (T := TX6) (N := 9) hx hb hts zinX6 hown hK.1 (zP_reg hP 0 rfl) 0 rfl rfl 4 (by decide) (hts _ k_f_X6_32) (fun _ h9 => h9) rfl (z_d hX6_elementFact_0 50 rfl) ?_
    refine va_getN (D := Z.1) (ci := 1) (v := .ref (Ag 7)) (C := RX1) (T := TX1) (N := 14) hx hb hts zinX1 hown hK.1 (zP_reg (L := l_Pages Z.2.1 Ag G.1 G.2.1 G.2.2.1 G.2.2.2.1 G.2.2.2.2.1 G.2.2.2.2.2.1 G.2.2.2.2.2.2.1 G.2.2.2.2.2.2.2.1 G.2.2.2.2.2.2.2.2.1 G.2.2.2.2.2.2.2.2.2.1 G.2.2.2.2.2.2.2.2.2.2.1 G.2.2.2.2.2.2.2.2.2.2.2.1 G.2.2.2.2.2.2.2.2.2.2.2.2.1 G.2.2.2.2.2.2.2.2.2.2.2.2.2) (zP_reg hP 5 rfl) 0 rfl) 0 rfl rfl 8 (by decide) (kn_X6_279 hK.2) (fun _ h9 => h9) rfl (z_d hX6_elementFact_0 51 rfl) ?_
    refine lv_iload_n hx hb (z_d hX6_elementFact_0 52 rfl) rfl (lv_at hl 1 rfl) ?_
    refine z_let hF (fun q9 hq9 hF => ?_)
    refine z_ro_i (z_rV (As := [.int p1]) (rest := []) hx hb hml hown hts vt_X3_at (c_rAt l Z 60 (Ag 7) (Ag 8) (by decide) G.2.2.2.2.2.2.2.2.1 p1 _ hq9) rfl rfl ⟨Nat.le_of_ble_eq_true rfl, Nat.le_of_ble_eq_true rfl⟩ k_m_X6_150 zPro_blind (z_recv (q := (RX3, TX3, 1)) (ci := 3) (q0 := 0) hK (zP_reg (L := l_Pages Z.2.1 Ag G.1 G.2.1 G.2.2.1 G.2.2.2.1 G.2.2.2.2.1 G.2.2.2.2.2.1 G.2.2.2.2.2.2.1 G.2.2.2.2.2.2.2.1 G.2.2.2.2.2.2.2.2.1 G.2.2.2.2.2.2.2.2.2.1 G.2.2.2.2.2.2.2.2.2.2.1 G.2.2.2.2.2.2.2.2.2.2.2.1 G.2.2.2.2.2.2.2.2.2.2.2.2.1 G.2.2.2.2.2.2.2.2.2.2.2.2.2) (zP_reg hP 5 rfl) 4 rfl) rfl rfl) (z_prec hK (zP_reg (L := l_Pages Z.2.1 Ag G.1 G.2.1 G.2.2.1 G.2.2.2.1 G.2.2.2.2.1 G.2.2.2.2.2.1 G.2.2.2.2.2.2.1 G.2.2.2.2.2.2.2.1 G.2.2.2.2.2.2.2.2.1 G.2.2.2.2.2.2.2.2.2.1 G.2.2.2.2.2.2.2.2.2.2.1 G.2.2.2.2.2.2.2.2.2.2.2.1 G.2.2.2.2.2.2.2.2.2.2.2.2.1 G.2.2.2.2.2.2.2.2.2.2.2.2.2) (zP_reg hP 5 rfl) 4 rfl)) rfl hl.1 (Nat.le_of_ble_eq_true rfl) (z_d hX6_elementFact_0 53 rfl) ⟨Nat.zero_le _, Nat.zero_le _⟩) hS hP (fun H locs hP hS => ?_)
    obtain rfl := hF
    subst hQ
    exact W.iret hx hb hr (fun t ht hW => zq_ro (hS.F ht)) hS.2.2 (z_d hX6_elementFact_0 54 rfl)
  have hF := z_neg hs1_8 hF
  have n0 := lv_neT (a := 0) hs1_0 (by decide)
  have n1 := lv_neT (a := 1) hs1_1 (by decide)
  have n2 := lv_neT (a := 2) hs1_2 (by decide)
  have n3 := lv_neT (a := 3) hs1_3 (by decide)
  have n4 := lv_neT (a := 4) hs1_4 (by decide)
  have n5 := lv_neT (a := 5) hs1_5 (by decide)
  have n6 := lv_neT (a := 6) hs1_6 (by decide)
  have n7 := lv_neT (a := 7) hs1_7 (by decide)
  have n8 := lv_neT (a := 8) hs1_8 (by decide)
  refine lv_tableOut (tgt := 157) hx hb (z_d hX6_elementFact_0 1 rfl) (by omega) (by decide) ?_
  refine lv_aload_n hx hb (z_d hX6_elementFact_0 55 rfl) rfl (lv_at hl 0 rfl) ?_
  refine va_get (D := Z.1) (ci := 6) (v := .ref (Ac 0)) (C := RX6) (T := TX6) (N := 9) hx hb hts zinX6 hown hK.1 (zP_reg hP 0 rfl) 0 rfl rfl 2 (by decide) (hts _ k_f_X6_22) (fun _ h9 => h9) rfl (z_d hX6_elementFact_0 56 rfl) ?_
  refine va_getN (D := Z.1) (ci := 4) (v := .ref (Ac 17)) (C := RX4) (T := TX4) (N := 12) hx hb hts zinX4 hown hK.1 (zP_reg (L := l_Scenes Z.2.1 Ac C.1 C.2.1 C.2.2.1 C.2.2.2.1 C.2.2.2.2.1 C.2.2.2.2.2.1 C.2.2.2.2.2.2.1 C.2.2.2.2.2.2.2.1 C.2.2.2.2.2.2.2.2.1 C.2.2.2.2.2.2.2.2.2.1 C.2.2.2.2.2.2.2.2.2.2.1 C.2.2.2.2.2.2.2.2.2.2.2) (zP_reg hP 3 rfl) 0 rfl) 0 rfl rfl 11 (by decide) (kn_X6_209 hK.2) (fun _ h9 => h9) rfl (z_d hX6_elementFact_0 57 rfl) ?_
  refine lv_iload_n hx hb (z_d hX6_elementFact_0 58 rfl) rfl (lv_at hl 1 rfl) ?_
  refine z_let hF (fun q10 hq10 hF => ?_)
  refine z_ro_i (z_rV (As := [.int p1]) (rest := []) hx hb hml hown hts vt_X3_at (c_rAt l Z 60 (Ac 17) (Ac 18) (by decide) C.2.2.2.2.2.2.2.2.2.2.2 p1 _ hq10) rfl rfl ⟨Nat.le_of_ble_eq_true rfl, Nat.le_of_ble_eq_true rfl⟩ k_m_X6_150 zPro_blind (z_recv (q := (RX3, TX3, 1)) (ci := 3) (q0 := 0) hK (zP_reg (L := l_Scenes Z.2.1 Ac C.1 C.2.1 C.2.2.1 C.2.2.2.1 C.2.2.2.2.1 C.2.2.2.2.2.1 C.2.2.2.2.2.2.1 C.2.2.2.2.2.2.2.1 C.2.2.2.2.2.2.2.2.1 C.2.2.2.2.2.2.2.2.2.1 C.2.2.2.2.2.2.2.2.2.2.1 C.2.2.2.2.2.2.2.2.2.2.2) (zP_reg hP 3 rfl) 9 rfl) rfl rfl) (z_prec hK (zP_reg (L := l_Scenes Z.2.1 Ac C.1 C.2.1 C.2.2.1 C.2.2.2.1 C.2.2.2.2.1 C.2.2.2.2.2.1 C.2.2.2.2.2.2.1 C.2.2.2.2.2.2.2.1 C.2.2.2.2.2.2.2.2.1 C.2.2.2.2.2.2.2.2.2.1 C.2.2.2.2.2.2.2.2.2.2.1 C.2.2.2.2.2.2.2.2.2.2.2) (zP_reg hP 3 rfl) 9 rfl)) rfl hl.1 (Nat.le_of_ble_eq_true rfl) (z_d hX6_elementFact_0 59 rfl) ⟨Nat.zero_le _, Nat.zero_le _⟩) hS hP (fun H locs hP hS => ?_)
  obtain rfl := hF
  subst hQ
  exact W.iret hx hb hr (fun t ht hW => zq_ro (hS.F ht)) hS.2.2 (z_d hX6_elementFact_1 0 rfl)
def rm_X6_sceneFact : Room := { frames := 2, cells := 0, slots := 0, locals := 42 }
set_option maxRecDepth 100000 in
set_option maxHeartbeats 4000000 in
theorem c_X6_sceneFact (l : Launch) (Z : zZ) (mm : Nat) (As : Nat → Nat) (Bs : Nat → Nat) (Ac : Nat → Nat) (Bc : Nat → Nat) (Ag : Nat → Nat) (Bg : Nat → Nat) (hh ha : Nat) (Ah : Nat → Nat → Nat) (rt rq : Nat) (tl : Int32) (S : t_Script) (D : t_Script) (C : t_Scenes) (E : t_Scenes) (G : t_Pages) (F : t_Pages) (Hs : t_Hist) (tx : Rw) (p1 : Int32) (p2 : Int32) (R : Int32) (hF : X6_sceneFact tl S D C E G F Hs tx p1 p2 = some R) : zRO l yX6_sceneFact (zw yX6_sceneFact cX6_sceneFact 4 (some .int)) rm_X6_sceneFact Z [.ref mm, .int p1, .int p2] (List.flatten [w_Main mm As Bs Ac Bc Ag Bg hh rt tl, w_Script Z.2.1 As S, w_Script Z.2.1 Bs D, w_Scenes Z.2.1 Ac C, w_Scenes Z.2.1 Bc E, w_Pages Z.2.1 Ag G, w_Pages Z.2.1 Bg F, w_Hist Z.2.1 Z.2.2.1 hh ha Ah Hs, w_Row Z.2.1 200 rt rq tx]) (some (.int R)) := by
  refine zRO_of (by decide) (Nat.le_of_ble_eq_true rfl) (fun p e s m below meth c hx hb hr hml hown hts hlocks hK Q hQ ls hl hP hS => ?_)
  unfold X6_sceneFact at hF
  have hl : lv_has ls 4 [(0, .ref mm), (1, .int p1), (2, .int p2)] := hl
  have hown : s.vm.findClass RX6 = some m.cls := hown
  refine lv_aload_n hx hb (z_d hX6_sceneFact_0 0 rfl) rfl (lv_at hl 0 rfl) ?_
  refine va_get (D := Z.1) (ci := 6) (v := .ref (Ac 0)) (C := RX6) (T := TX6) (N := 9) hx hb hts zinX6 hown hK.1 (zP_reg hP 0 rfl) 0 rfl rfl 2 (by decide) (hts _ k_f_X6_22) (fun _ h9 => h9) rfl (z_d hX6_sceneFact_0 1 rfl) ?_
  refine va_getN (D := Z.1) (ci := 4) (v := .ref (Ac 1)) (C := RX4) (T := TX4) (N := 12) hx hb hts zinX4 hown hK.1 (zP_reg (L := l_Scenes Z.2.1 Ac C.1 C.2.1 C.2.2.1 C.2.2.2.1 C.2.2.2.2.1 C.2.2.2.2.2.1 C.2.2.2.2.2.2.1 C.2.2.2.2.2.2.2.1 C.2.2.2.2.2.2.2.2.1 C.2.2.2.2.2.2.2.2.2.1 C.2.2.2.2.2.2.2.2.2.2.1 C.2.2.2.2.2.2.2.2.2.2.2) (zP_reg hP 3 rfl) 0 rfl) 0 rfl rfl 3 (by decide) (kn_X6_147 hK.2) (fun _ h9 => h9) rfl (z_d hX6_sceneFact_0 2 rfl) ?_
  refine lv_iload_n hx hb (z_d hX6_sceneFact_0 3 rfl) rfl (lv_at hl 1 rfl) ?_
  refine z_let hF (fun q1 hq1 hF => ?_)
  refine z_ro_i (z_rV (As := [.int p1]) (rest := []) hx hb hml hown hts vt_X3_at (c_rAt l Z 60 (Ac 1) (Ac 2) (by decide) C.2.2.2.1 p1 _ hq1) rfl rfl ⟨Nat.le_of_ble_eq_true rfl, Nat.le_of_ble_eq_true rfl⟩ k_m_X6_150 zPro_blind (z_recv (q := (RX3, TX3, 1)) (ci := 3) (q0 := 0) hK (zP_reg (L := l_Scenes Z.2.1 Ac C.1 C.2.1 C.2.2.1 C.2.2.2.1 C.2.2.2.2.1 C.2.2.2.2.2.1 C.2.2.2.2.2.2.1 C.2.2.2.2.2.2.2.1 C.2.2.2.2.2.2.2.2.1 C.2.2.2.2.2.2.2.2.2.1 C.2.2.2.2.2.2.2.2.2.2.1 C.2.2.2.2.2.2.2.2.2.2.2) (zP_reg hP 3 rfl) 1 rfl) rfl rfl) (z_prec hK (zP_reg (L := l_Scenes Z.2.1 Ac C.1 C.2.1 C.2.2.1 C.2.2.2.1 C.2.2.2.2.1 C.2.2.2.2.2.1 C.2.2.2.2.2.2.1 C.2.2.2.2.2.2.2.1 C.2.2.2.2.2.2.2.2.1 C.2.2.2.2.2.2.2.2.2.1 C.2.2.2.2.2.2.2.2.2.2.1 C.2.2.2.2.2.2.2.2.2.2.2) (zP_reg hP 3 rfl) 1 rfl)) rfl hl.1 (Nat.le_of_ble_eq_true rfl) (z_d hX6_sceneFact_0 4 rfl) ⟨Nat.zero_le _, Nat.zero_le _⟩) hS hP (fun H locs hP hS => ?_)
  refine lv_istore_n (lv' := [(3, .int q1), (0, .ref mm), (1, .int p1), (2, .int p2)]) hx hb (z_d hX6_sceneFact_0 5 rfl) rfl hl (by decide) rfl (fun ls hl => ?_)
  refine lv_iload_n hx hb (z_d hX6_sceneFact_0 6 rfl) rfl (lv_at hl 3 rfl) ?_
  by_cases hs13_0 : p2 = 0
  · have hF := z_pos hs13_0 hF
    refine lv_tableIn (off := 51) (tgt := 64) hx hb (z_d hX6_sceneFact_0 7 rfl) (by rw [hs13_0]; decide) (by rw [hs13_0]; decide) (by rw [hs13_0]; first | done | rfl) (by decide) ?_
    refine lv_aload_n hx hb (z_d hX6_sceneFact_0 8 rfl) rfl (lv_at hl 1 rfl) ?_
    refine va_get (D := Z.1) (ci := 6) (v := .ref (Ac 0)) (C := RX6) (T := TX6) (N := 9) hx hb hts zinX6 hown hK.1 (zP_reg hP 0 rfl) 0 rfl rfl 2 (by decide) (hts _ k_f_X6_22) (fun _ h9 => h9) rfl (z_d hX6_sceneFact_0 9 rfl) ?_
    refine va_getN (D := Z.1) (ci := 4) (v := .ref (Ac 7)) (C := RX4) (T := TX4) (N := 12) hx hb hts zinX4 hown hK.1 (zP_reg (L := l_Scenes Z.2.1 Ac C.1 C.2.1 C.2.2.1 C.2.2.2.1 C.2.2.2.2.1 C.2.2.2.2.2.1 C.2.2.2.2.2.2.1 C.2.2.2.2.2.2.2.1 C.2.2.2.2.2.2.2.2.1 C.2.2.2.2.2.2.2.2.2.1 C.2.2.2.2.2.2.2.2.2.2.1 C.2.2.2.2.2.2.2.2.2.2.2) (zP_reg hP 3 rfl) 0 rfl) 0 rfl rfl 6 (by decide) (kn_X6_153 hK.2) (fun _ h9 => h9) rfl (z_d hX6_sceneFact_0 10 rfl) ?_
    refine lv_iload_n hx hb (z_d hX6_sceneFact_0 11 rfl) rfl (lv_at hl 2 rfl) ?_
    refine z_let hF (fun q2 hq2 hF => ?_)
    refine z_ro_i (z_rV (As := [.int p1]) (rest := []) hx hb hml hown hts vt_X3_at (c_rAt l Z 60 (Ac 7) (Ac 8) (by decide) C.2.2.2.2.2.2.1 p1 _ hq2) rfl rfl ⟨Nat.le_of_ble_eq_true rfl, Nat.le_of_ble_eq_true rfl⟩ k_m_X6_150 zPro_blind (z_recv (q := (RX3, TX3, 1)) (ci := 3) (q0 := 0) hK (zP_reg (L := l_Scenes Z.2.1 Ac C.1 C.2.1 C.2.2.1 C.2.2.2.1 C.2.2.2.2.1 C.2.2.2.2.2.1 C.2.2.2.2.2.2.1 C.2.2.2.2.2.2.2.1 C.2.2.2.2.2.2.2.2.1 C.2.2.2.2.2.2.2.2.2.1 C.2.2.2.2.2.2.2.2.2.2.1 C.2.2.2.2.2.2.2.2.2.2.2) (zP_reg hP 3 rfl) 4 rfl) rfl rfl) (z_prec hK (zP_reg (L := l_Scenes Z.2.1 Ac C.1 C.2.1 C.2.2.1 C.2.2.2.1 C.2.2.2.2.1 C.2.2.2.2.2.1 C.2.2.2.2.2.2.1 C.2.2.2.2.2.2.2.1 C.2.2.2.2.2.2.2.2.1 C.2.2.2.2.2.2.2.2.2.1 C.2.2.2.2.2.2.2.2.2.2.1 C.2.2.2.2.2.2.2.2.2.2.2) (zP_reg hP 3 rfl) 4 rfl)) rfl hl.1 (Nat.le_of_ble_eq_true rfl) (z_d hX6_sceneFact_0 12 rfl) ⟨Nat.zero_le _, Nat.zero_le _⟩) hS hP (fun H locs hP hS => ?_)
    obtain rfl := Option.some.inj hF
    subst hQ
    exact W.iret hx hb hr (fun t ht hW => zq_ro (hS.F ht)) hS.2.2 (z_d hX6_sceneFact_0 13 rfl)
  have hF := z_neg hs13_0 hF
  by_cases hs13_1 : p2 = 1
  · have hF := z_pos hs13_1 hF
    refine lv_tableIn (off := 63) (tgt := 76) hx hb (z_d hX6_sceneFact_0 7 rfl) (by rw [hs13_1]; decide) (by rw [hs13_1]; decide) (by rw [hs13_1]; first | done | rfl) (by decide) ?_
    refine lv_aload_n hx hb (z_d hX6_sceneFact_0 14 rfl) rfl (lv_at hl 1 rfl) ?_
    refine va_get (D := Z.1) (ci := 6) (v := .ref (Ac 0)) (C := RX6) (T := TX6) (N := 9) hx hb hts zinX6 hown hK.1 (zP_reg hP 0 rfl) 0 rfl rfl 2 (by decide) (hts _ k_f_X6_22) (fun _ h9 => h9) rfl (z_d hX6_sceneFact_0 15 rfl) ?_
    refine va_getN (D := Z.1) (ci := 4) (v := .ref (Ac 9)) (C := RX4) (T := TX4) (N := 12) hx hb hts zinX4 hown hK.1 (zP_reg (L := l_Scenes Z.2.1 Ac C.1 C.2.1 C.2.2.1 C.2.2.2.1 C.2.2.2.2.1 C.2.2.2.2.2.1 C.2.2.2.2.2.2.1 C.2.2.2.2.2.2.2.1 C.2.2.2.2.2.2.2.2.1 C.2.2.2.2.2.2.2.2.2.1 C.2.2.2.2.2.2.2.2.2.2.1 C.2.2.2.2.2.2.2.2.2.2.2) (zP_reg hP 3 rfl) 0 rfl) 0 rfl rfl 7 (by decide) (kn_X6_156 hK.2) (fun _ h9 => h9) rfl (z_d hX6_sceneFact_0 16 rfl) ?_
    refine lv_iload_n hx hb (z_d hX6_sceneFact_0 17 rfl) rfl (lv_at hl 2 rfl) ?_
    refine z_let hF (fun q3 hq3 hF => ?_)
    refine z_ro_i (z_rV (As := [.int p1]) (rest := []) hx hb hml hown hts vt_X3_at (c_rAt l Z 60 (Ac 9) (Ac 10) (by decide) C.2.2.2.2.2.2.2.1 p1 _ hq3) rfl rfl ⟨Nat.le_of_ble_eq_true rfl, Nat.le_of_ble_eq_true rfl⟩ k_m_X6_150 zPro_blind (z_recv (q := (RX3, TX3, 1)) (ci := 3) (q0 := 0) hK (zP_reg (L := l_Scenes Z.2.1 Ac C.1 C.2.1 C.2.2.1 C.2.2.2.1 C.2.2.2.2.1 C.2.2.2.2.2.1 C.2.2.2.2.2.2.1 C.2.2.2.2.2.2.2.1 C.2.2.2.2.2.2.2.2.1 C.2.2.2.2.2.2.2.2.2.1 C.2.2.2.2.2.2.2.2.2.2.1 C.2.2.2.2.2.2.2.2.2.2.2) (zP_reg hP 3 rfl) 5 rfl) rfl rfl) (z_prec hK (zP_reg (L := l_Scenes Z.2.1 Ac C.1 C.2.1 C.2.2.1 C.2.2.2.1 C.2.2.2.2.1 C.2.2.2.2.2.1 C.2.2.2.2.2.2.1 C.2.2.2.2.2.2.2.1 C.2.2.2.2.2.2.2.2.1 C.2.2.2.2.2.2.2.2.2.1 C.2.2.2.2.2.2.2.2.2.2.1 C.2.2.2.2.2.2.2.2.2.2.2) (zP_reg hP 3 rfl) 5 rfl)) rfl hl.1 (Nat.le_of_ble_eq_true rfl) (z_d hX6_sceneFact_0 18 rfl) ⟨Nat.zero_le _, Nat.zero_le _⟩) hS hP (fun H locs hP hS => ?_)
    obtain rfl := Option.some.inj hF
    subst hQ
    exact W.iret hx hb hr (fun t ht hW => zq_ro (hS.F ht)) hS.2.2 (z_d hX6_sceneFact_0 19 rfl)
  have hF := z_neg hs13_1 hF
  by_cases hs13_2 : p2 = 2
  · have hF := z_pos hs13_2 hF
    refine lv_tableIn (off := 75) (tgt := 88) hx hb (z_d hX6_sceneFact_0 7 rfl) (by rw [hs13_2]; decide) (by rw [hs13_2]; decide) (by rw [hs13_2]; first | done | rfl) (by decide) ?_
    refine lv_aload_n hx hb (z_d hX6_sceneFact_0 20 rfl) rfl (lv_at hl 1 rfl) ?_
    refine va_get (D := Z.1) (ci := 6) (v := .ref (Ac 0)) (C := RX6) (T := TX6) (N := 9) hx hb hts zinX6 hown hK.1 (zP_reg hP 0 rfl) 0 rfl rfl 2 (by decide) (hts _ k_f_X6_22) (fun _ h9 => h9) rfl (z_d hX6_sceneFact_0 21 rfl) ?_
    refine va_getN (D := Z.1) (ci := 4) (v := .ref (Ac 11)) (C := RX4) (T := TX4) (N := 12) hx hb hts zinX4 hown hK.1 (zP_reg (L := l_Scenes Z.2.1 Ac C.1 C.2.1 C.2.2.1 C.2.2.2.1 C.2.2.2.2.1 C.2.2.2.2.2.1 C.2.2.2.2.2.2.1 C.2.2.2.2.2.2.2.1 C.2.2.2.2.2.2.2.2.1 C.2.2.2.2.2.2.2.2.2.1 C.2.2.2.2.2.2.2.2.2.2.1 C.2.2.2.2.2.2.2.2.2.2.2) (zP_reg hP 3 rfl) 0 rfl) 0 rfl rfl 8 (by decide) (kn_X6_159 hK.2) (fun _ h9 => h9) rfl (z_d hX6_sceneFact_0 22 rfl) ?_
    refine lv_iload_n hx hb (z_d hX6_sceneFact_0 23 rfl) rfl (lv_at hl 2 rfl) ?_
    refine z_let hF (fun q4 hq4 hF => ?_)
    refine z_ro_i (z_rV (As := [.int p1]) (rest := []) hx hb hml hown hts vt_X3_at (c_rAt l Z 60 (Ac 11) (Ac 12) (by decide) C.2.2.2.2.2.2.2.2.1 p1 _ hq4) rfl rfl ⟨Nat.le_of_ble_eq_true rfl, Nat.le_of_ble_eq_true rfl⟩ k_m_X6_150 zPro_blind (z_recv (q := (RX3, TX3, 1)) (ci := 3) (q0 := 0) hK (zP_reg (L := l_Scenes Z.2.1 Ac C.1 C.2.1 C.2.2.1 C.2.2.2.1 C.2.2.2.2.1 C.2.2.2.2.2.1 C.2.2.2.2.2.2.1 C.2.2.2.2.2.2.2.1 C.2.2.2.2.2.2.2.2.1 C.2.2.2.2.2.2.2.2.2.1 C.2.2.2.2.2.2.2.2.2.2.1 C.2.2.2.2.2.2.2.2.2.2.2) (zP_reg hP 3 rfl) 6 rfl) rfl rfl) (z_prec hK (zP_reg (L := l_Scenes Z.2.1 Ac C.1 C.2.1 C.2.2.1 C.2.2.2.1 C.2.2.2.2.1 C.2.2.2.2.2.1 C.2.2.2.2.2.2.1 C.2.2.2.2.2.2.2.1 C.2.2.2.2.2.2.2.2.1 C.2.2.2.2.2.2.2.2.2.1 C.2.2.2.2.2.2.2.2.2.2.1 C.2.2.2.2.2.2.2.2.2.2.2) (zP_reg hP 3 rfl) 6 rfl)) rfl hl.1 (Nat.le_of_ble_eq_true rfl) (z_d hX6_sceneFact_0 24 rfl) ⟨Nat.zero_le _, Nat.zero_le _⟩) hS hP (fun H locs hP hS => ?_)
    obtain rfl := Option.some.inj hF
    subst hQ
    exact W.iret hx hb hr (fun t ht hW => zq_ro (hS.F ht)) hS.2.2 (z_d hX6_sceneFact_0 25 rfl)
  have hF := z_neg hs13_2 hF
  by_cases hs13_3 : p2 = 3
  · have hF := z_pos hs13_3 hF
    refine lv_tableIn (off := 87) (tgt := 100) hx hb (z_d hX6_sceneFact_0 7 rfl) (by rw [hs13_3]; decide) (by rw [hs13_3]; decide) (by rw [hs13_3]; first | done | rfl) (by decide) ?_
    refine lv_aload_n hx hb (z_d hX6_sceneFact_0 26 rfl) rfl (lv_at hl 1 rfl) ?_
    refine va_get (D := Z.1) (ci := 6) (v := .ref (As 0)) (C := RX6) (T := TX6) (N := 9) hx hb hts zinX6 hown hK.1 (zP_reg hP 0 rfl) 0 rfl rfl 0 (by decide) (hts _ k_f_X6_12) (fun _ h9 => h9) rfl (z_d hX6_sceneFact_0 27 rfl) ?_
    refine lv_iload_n hx hb (z_d hX6_sceneFact_0 28 rfl) rfl (lv_at hl 0 rfl) ?_
    refine z_let hF (fun q5 hq5 hF => ?_)
    refine z_ro_i (z_rV (As := [.int q1]) (rest := []) hx hb hml hown hts vt_X5_isLocked (c_X5_isLocked l Z As S q1 _ hq5) rfl rfl ⟨Nat.le_of_ble_eq_true rfl, Nat.le_of_ble_eq_true rfl⟩ k_m_X6_115 zPro_blind (z_recv (q := (RX5, TX5, 10)) (ci := 5) (q0 := 0) hK (zP_reg (L := l_Script Z.2.1 As S.1 S.2.1 S.2.2.1 S.2.2.2.1 S.2.2.2.2.1 S.2.2.2.2.2.1 S.2.2.2.2.2.2.1 S.2.2.2.2.2.2.2.1 S.2.2.2.2.2.2.2.2.1 S.2.2.2.2.2.2.2.2.2) (zP_reg hP 1 rfl) 0 rfl) rfl rfl) (z_prec hK (zP_reg hP 1 rfl)) rfl hl.1 (Nat.le_of_ble_eq_true rfl) (z_d hX6_sceneFact_0 29 rfl) ⟨Nat.zero_le _, Nat.zero_le _⟩) hS hP (fun H locs hP hS => ?_)
    refine lv_if_eq (tgt := 115) hx hb (z_d hX6_sceneFact_0 30 rfl) (by decide) (fun hc108 => ?_) (fun hc108 => ?_)
    · have hF := z_pos hc108 hF
      refine lv_iconst (v := 0) hx hb (z_d hX6_sceneFact_0 33 rfl) (by decide) ?_
      obtain rfl := Option.some.inj hF
      subst hQ
      exact W.iret hx hb hr (fun t ht hW => zq_ro (hS.F ht)) hS.2.2 (z_d hX6_sceneFact_0 34 rfl)
    · have hF := z_neg hc108 hF
      refine lv_iconst (v := 1) hx hb (z_d hX6_sceneFact_0 31 rfl) (by decide) ?_
      refine lv_goto (tgt := 116) hx hb (z_d hX6_sceneFact_0 32 rfl) (by decide) ?_
      obtain rfl := Option.some.inj hF
      subst hQ
      exact W.iret hx hb hr (fun t ht hW => zq_ro (hS.F ht)) hS.2.2 (z_d hX6_sceneFact_0 34 rfl)
  have hF := z_neg hs13_3 hF
  by_cases hs13_4 : p2 = 4
  · have hF := z_pos hs13_4 hF
    refine lv_tableIn (off := 104) (tgt := 117) hx hb (z_d hX6_sceneFact_0 7 rfl) (by rw [hs13_4]; decide) (by rw [hs13_4]; decide) (by rw [hs13_4]; first | done | rfl) (by decide) ?_
    refine lv_aload_n hx hb (z_d hX6_sceneFact_0 35 rfl) rfl (lv_at hl 1 rfl) ?_
    refine va_get (D := Z.1) (ci := 6) (v := .ref (As 0)) (C := RX6) (T := TX6) (N := 9) hx hb hts zinX6 hown hK.1 (zP_reg hP 0 rfl) 0 rfl rfl 0 (by decide) (hts _ k_f_X6_12) (fun _ h9 => h9) rfl (z_d hX6_sceneFact_0 36 rfl) ?_
    refine lv_iload_n hx hb (z_d hX6_sceneFact_0 37 rfl) rfl (lv_at hl 0 rfl) ?_
    refine z_let hF (fun q6 hq6 hF => ?_)
    refine z_ro_i (z_rV (As := [.int q1]) (rest := []) hx hb hml hown hts vt_X5_isOmitted (c_X5_isOmitted l Z As S q1 _ hq6) rfl rfl ⟨Nat.le_of_ble_eq_true rfl, Nat.le_of_ble_eq_true rfl⟩ k_m_X6_168 zPro_blind (z_recv (q := (RX5, TX5, 10)) (ci := 5) (q0 := 0) hK (zP_reg (L := l_Script Z.2.1 As S.1 S.2.1 S.2.2.1 S.2.2.2.1 S.2.2.2.2.1 S.2.2.2.2.2.1 S.2.2.2.2.2.2.1 S.2.2.2.2.2.2.2.1 S.2.2.2.2.2.2.2.2.1 S.2.2.2.2.2.2.2.2.2) (zP_reg hP 1 rfl) 0 rfl) rfl rfl) (z_prec hK (zP_reg hP 1 rfl)) rfl hl.1 (Nat.le_of_ble_eq_true rfl) (z_d hX6_sceneFact_0 38 rfl) ⟨Nat.zero_le _, Nat.zero_le _⟩) hS hP (fun H locs hP hS => ?_)
    refine lv_if_eq (tgt := 132) hx hb (z_d hX6_sceneFact_0 39 rfl) (by decide) (fun hc125 => ?_) (fun hc125 => ?_)
    · have hF := z_pos hc125 hF
      refine lv_iconst (v := 0) hx hb (z_d hX6_sceneFact_0 42 rfl) (by decide) ?_
      obtain rfl := Option.some.inj hF
      subst hQ
      exact W.iret hx hb hr (fun t ht hW => zq_ro (hS.F ht)) hS.2.2 (z_d hX6_sceneFact_0 43 rfl)
    · have hF := z_neg hc125 hF
      refine lv_iconst (v := 1) hx hb (z_d hX6_sceneFact_0 40 rfl) (by decide) ?_
      refine lv_goto (tgt := 133) hx hb (z_d hX6_sceneFact_0 41 rfl) (by decide) ?_
      obtain rfl := Option.some.inj hF
      subst hQ
      exact W.iret hx hb hr (fun t ht hW => zq_ro (hS.F ht)) hS.2.2 (z_d hX6_sceneFact_0 43 rfl)
  have hF := z_neg hs13_4 hF
  by_cases hs13_5 : p2 = 5
  · have hF := z_pos hs13_5 hF
    refine lv_tableIn (off := 121) (tgt := 134) hx hb (z_d hX6_sceneFact_0 7 rfl) (by rw [hs13_5]; decide) (by rw [hs13_5]; decide) (by rw [hs13_5]; first | done | rfl) (by decide) ?_
    refine lv_iload_n hx hb (z_d hX6_sceneFact_0 44 rfl) rfl (lv_at hl 0 rfl) ?_
    obtain rfl := Option.some.inj hF
    subst hQ
    exact W.iret hx hb hr (fun t ht hW => zq_ro (hS.F ht)) hS.2.2 (z_d hX6_sceneFact_0 45 rfl)
  have hF := z_neg hs13_5 hF
  by_cases hs13_6 : p2 = 6
  · have hF := z_pos hs13_6 hF
    refine lv_tableIn (off := 123) (tgt := 136) hx hb (z_d hX6_sceneFact_0 7 rfl) (by rw [hs13_6]; decide) (by rw [hs13_6]; decide) (by rw [hs13_6]; first | done | rfl) (by decide) ?_
    refine lv_aload_n hx hb (z_d hX6_sceneFact_0 46 rfl) rfl (lv_at hl 1 rfl) ?_
    refine va_get (D := Z.1) (ci := 6) (v := .ref (Ac 0)) (C := RX6) (T := TX6) (N := 9) hx hb hts zinX6 hown hK.1 (zP_reg hP 0 rfl) 0 rfl rfl 2 (by decide) (hts _ k_f_X6_22) (fun _ h9 => h9) rfl (z_d hX6_sceneFact_0 47 rfl) ?_
    refine va_getN (D := Z.1) (ci := 4) (v := .ref (Ac 3)) (C := RX4) (T := TX4) (N := 12) hx hb hts zinX4 hown hK.1 (zP_reg (L := l_Scenes Z.2.1 Ac C.1 C.2.1 C.2.2.1 C.2.2.2.1 C.2.2.2.2.1 C.2.2.2.2.2.1 C.2.2.2.2.2.2.1 C.2.2.2.2.2.2.2.1 C.2.2.2.2.2.2.2.2.1 C.2.2.2.2.2.2.2.2.2.1 C.2.2.2.2.2.2.2.2.2.2.1 C.2.2.2.2.2.2.2.2.2.2.2) (zP_reg hP 3 rfl) 0 rfl) 0 rfl rfl 4 (by decide) (kn_X6_173 hK.2) (fun _ h9 => h9) rfl (z_d hX6_sceneFact_0 48 rfl) ?_
    refine lv_iload_n hx hb (z_d hX6_sceneFact_0 49 rfl) rfl (lv_at hl 2 rfl) ?_
    refine z_let hF (fun q7 hq7 hF => ?_)
    refine z_ro_i (z_rV (As := [.int p1]) (rest := []) hx hb hml hown hts vt_X3_at (c_rAt l Z 60 (Ac 3) (Ac 4) (by decide) C.2.2.2.2.1 p1 _ hq7) rfl rfl ⟨Nat.le_of_ble_eq_true rfl, Nat.le_of_ble_eq_true rfl⟩ k_m_X6_150 zPro_blind (z_recv (q := (RX3, TX3, 1)) (ci := 3) (q0 := 0) hK (zP_reg (L := l_Scenes Z.2.1 Ac C.1 C.2.1 C.2.2.1 C.2.2.2.1 C.2.2.2.2.1 C.2.2.2.2.2.1 C.2.2.2.2.2.2.1 C.2.2.2.2.2.2.2.1 C.2.2.2.2.2.2.2.2.1 C.2.2.2.2.2.2.2.2.2.1 C.2.2.2.2.2.2.2.2.2.2.1 C.2.2.2.2.2.2.2.2.2.2.2) (zP_reg hP 3 rfl) 2 rfl) rfl rfl) (z_prec hK (zP_reg (L := l_Scenes Z.2.1 Ac C.1 C.2.1 C.2.2.1 C.2.2.2.1 C.2.2.2.2.1 C.2.2.2.2.2.1 C.2.2.2.2.2.2.1 C.2.2.2.2.2.2.2.1 C.2.2.2.2.2.2.2.2.1 C.2.2.2.2.2.2.2.2.2.1 C.2.2.2.2.2.2.2.2.2.2.1 C.2.2.2.2.2.2.2.2.2.2.2) (zP_reg hP 3 rfl) 2 rfl)) rfl hl.1 (Nat.le_of_ble_eq_true rfl) (z_d hX6_sceneFact_0 50 rfl) ⟨Nat.zero_le _, Nat.zero_le _⟩) hS hP (fun H locs hP hS => ?_)
    obtain rfl := Option.some.inj hF
    subst hQ
    exact W.iret hx hb hr (fun t ht hW => zq_ro (hS.F ht)) hS.2.2 (z_d hX6_sceneFact_0 51 rfl)
  have hF := z_neg hs13_6 hF
  by_cases hs13_7 : p2 = 7
  · have hF := z_pos hs13_7 hF
    refine lv_tableIn (off := 135) (tgt := 148) hx hb (z_d hX6_sceneFact_0 7 rfl) (by rw [hs13_7]; decide) (by rw [hs13_7]; decide) (by rw [hs13_7]; first | done | rfl) (by decide) ?_
    refine lv_aload_n hx hb (z_d hX6_sceneFact_0 52 rfl) rfl (lv_at hl 1 rfl) ?_
    refine va_get (D := Z.1) (ci := 6) (v := .ref (Ac 0)) (C := RX6) (T := TX6) (N := 9) hx hb hts zinX6 hown hK.1 (zP_reg hP 0 rfl) 0 rfl rfl 2 (by decide) (hts _ k_f_X6_22) (fun _ h9 => h9) rfl (z_d hX6_sceneFact_0 53 rfl) ?_
    refine va_getN (D := Z.1) (ci := 4) (v := .ref (Ac 5)) (C := RX4) (T := TX4) (N := 12) hx hb hts zinX4 hown hK.1 (zP_reg (L := l_Scenes Z.2.1 Ac C.1 C.2.1 C.2.2.1 C.2.2.2.1 C.2.2.2.2.1 C.2.2.2.2.2.1 C.2.2.2.2.2.2.1 C.2.2.2.2.2.2.2.1 C.2.2.2.2.2.2.2.2.1 C.2.2.2.2.2.2.2.2.2.1 C.2.2.2.2.2.2.2.2.2.2.1 C.2.2.2.2.2.2.2.2.2.2.2) (zP_reg hP 3 rfl) 0 rfl) 0 rfl rfl 5 (by decide) (kn_X6_282 hK.2) (fun _ h9 => h9) rfl (z_d hX6_sceneFact_0 54 rfl) ?_
    refine lv_iload_n hx hb (z_d hX6_sceneFact_0 55 rfl) rfl (lv_at hl 2 rfl) ?_
    refine z_let hF (fun q8 hq8 hF => ?_)
    refine z_ro_i (z_rV (As := [.int p1]) (rest := []) hx hb hml hown hts vt_X3_at (c_rAt l Z 60 (Ac 5) (Ac 6) (by decide) C.2.2.2.2.2.1 p1 _ hq8) rfl rfl ⟨Nat.le_of_ble_eq_true rfl, Nat.le_of_ble_eq_true rfl⟩ k_m_X6_150 zPro_blind (z_recv (q := (RX3, TX3, 1)) (ci := 3) (q0 := 0) hK (zP_reg (L := l_Scenes Z.2.1 Ac C.1 C.2.1 C.2.2.1 C.2.2.2.1 C.2.2.2.2.1 C.2.2.2.2.2.1 C.2.2.2.2.2.2.1 C.2.2.2.2.2.2.2.1 C.2.2.2.2.2.2.2.2.1 C.2.2.2.2.2.2.2.2.2.1 C.2.2.2.2.2.2.2.2.2.2.1 C.2.2.2.2.2.2.2.2.2.2.2) (zP_reg hP 3 rfl) 3 rfl) rfl rfl) (z_prec hK (zP_reg (L := l_Scenes Z.2.1 Ac C.1 C.2.1 C.2.2.1 C.2.2.2.1 C.2.2.2.2.1 C.2.2.2.2.2.1 C.2.2.2.2.2.2.1 C.2.2.2.2.2.2.2.1 C.2.2.2.2.2.2.2.2.1 C.2.2.2.2.2.2.2.2.2.1 C.2.2.2.2.2.2.2.2.2.2.1 C.2.2.2.2.2.2.2.2.2.2.2) (zP_reg hP 3 rfl) 3 rfl)) rfl hl.1 (Nat.le_of_ble_eq_true rfl) (z_d hX6_sceneFact_0 56 rfl) ⟨Nat.zero_le _, Nat.zero_le _⟩) hS hP (fun H locs hP hS => ?_)
    obtain rfl := Option.some.inj hF
    subst hQ
    exact W.iret hx hb hr (fun t ht hW => zq_ro (hS.F ht)) hS.2.2 (z_d hX6_sceneFact_0 57 rfl)
  have hF := z_neg hs13_7 hF
  by_cases hs13_8 : p2 = 8
  · have hF := z_pos hs13_8 hF
    refine lv_tableIn (off := 147) (tgt := 160) hx hb (z_d hX6_sceneFact_0 7 rfl) (by rw [hs13_8]; decide) (by rw [hs13_8]; decide) (by rw [hs13_8]; first | done | rfl) (by decide) ?_
    refine lv_aload_n hx hb (z_d hX6_sceneFact_0 58 rfl) rfl (lv_at hl 1 rfl) ?_
    refine lv_aload_n hx hb (z_d hX6_sceneFact_0 59 rfl) rfl (lv_at hl 1 rfl) ?_
    refine va_get (D := Z.1) (ci := 6) (v := .ref (Ac 0)) (C := RX6) (T := TX6) (N := 9) hx hb hts zinX6 hown hK.1 (zP_reg hP 0 rfl) 0 rfl rfl 2 (by decide) (hts _ k_f_X6_22) (fun _ h9 => h9) rfl (z_d hX6_sceneFact_1 0 rfl) ?_
    refine va_getN (D := Z.1) (ci := 4) (v := .ref (Ac 5)) (C := RX4) (T := TX4) (N := 12) hx hb hts zinX4 hown hK.1 (zP_reg (L := l_Scenes Z.2.1 Ac C.1 C.2.1 C.2.2.1 C.2.2.2.1 C.2.2.2.2.1 C.2.2.2.2.2.1 C.2.2.2.2.2.2.1 C.2.2.2.2.2.2.2.1 C.2.2.2.2.2.2.2.2.1 C.2.2.2.2.2.2.2.2.2.1 C.2.2.2.2.2.2.2.2.2.2.1 C.2.2.2.2.2.2.2.2.2.2.2) (zP_reg hP 3 rfl) 0 rfl) 0 rfl rfl 5 (by decide) (kn_X6_282 hK.2) (fun _ h9 => h9) rfl (z_d hX6_sceneFact_1 1 rfl) ?_
    refine lv_iload_n hx hb (z_d hX6_sceneFact_1 2 rfl) rfl (lv_at hl 2 rfl) ?_
    refine z_let hF (fun q9 hq9 hF => ?_)
    refine z_ro_i (z_rV (As := [.int p1]) (rest := [.ref mm]) hx hb hml hown hts vt_X3_at (c_rAt l Z 60 (Ac 5) (Ac 6) (by decide) C.2.2.2.2.2.1 p1 _ hq9) rfl rfl ⟨Nat.le_of_ble_eq_true rfl, Nat.le_of_ble_eq_true rfl⟩ k_m_X6_150 zPro_blind (z_recv (q := (RX3, TX3, 1)) (ci := 3) (q0 := 0) hK (zP_reg (L := l_Scenes Z.2.1 Ac C.1 C.2.1 C.2.2.1 C.2.2.2.1 C.2.2.2.2.1 C.2.2.2.2.2.1 C.2.2.2.2.2.2.1 C.2.2.2.2.2.2.2.1 C.2.2.2.2.2.2.2.2.1 C.2.2.2.2.2.2.2.2.2.1 C.2.2.2.2.2.2.2.2.2.2.1 C.2.2.2.2.2.2.2.2.2.2.2) (zP_reg hP 3 rfl) 3 rfl) rfl rfl) (z_prec hK (zP_reg (L := l_Scenes Z.2.1 Ac C.1 C.2.1 C.2.2.1 C.2.2.2.1 C.2.2.2.2.1 C.2.2.2.2.2.1 C.2.2.2.2.2.2.1 C.2.2.2.2.2.2.2.1 C.2.2.2.2.2.2.2.2.1 C.2.2.2.2.2.2.2.2.2.1 C.2.2.2.2.2.2.2.2.2.2.1 C.2.2.2.2.2.2.2.2.2.2.2) (zP_reg hP 3 rfl) 3 rfl)) rfl hl.1 (Nat.le_of_ble_eq_true rfl) (z_d hX6_sceneFact_1 3 rfl) ⟨Nat.zero_le _, Nat.zero_le _⟩) hS hP (fun H locs hP hS => ?_)
    refine z_bnd hF (fun q10 hq10 hF => ?_)
    refine z_ro_i (z_rV (As := [.int q9]) (rest := []) hx hb hml hown hts vt_X6_eighths (c_X6_eighths l Z mm As Bs Ac Bc Ag Bg hh ha Ah rt rq tl S D C E G F Hs tx q9 _ hq10) rfl rfl ⟨Nat.le_of_ble_eq_true rfl, Nat.le_of_ble_eq_true rfl⟩ k_m_X6_285 zPro_blind (z_recv (q := (RX6, TX6, 9)) (ci := 6) (q0 := 0) hK (zP_reg hP 0 rfl) rfl rfl) (z_prec hK hP) rfl hl.1 (Nat.le_of_ble_eq_true rfl) (z_d hX6_sceneFact_1 4 rfl) ⟨Nat.zero_le _, Nat.zero_le _⟩) hS hP (fun H locs hP hS => ?_)
    obtain rfl := Option.some.inj hF
    subst hQ
    exact W.iret hx hb hr (fun t ht hW => zq_ro (hS.F ht)) hS.2.2 (z_d hX6_sceneFact_1 5 rfl)
  have hF := z_neg hs13_8 hF
  have n0 := lv_neT (a := 0) hs13_0 (by decide)
  have n1 := lv_neT (a := 1) hs13_1 (by decide)
  have n2 := lv_neT (a := 2) hs13_2 (by decide)
  have n3 := lv_neT (a := 3) hs13_3 (by decide)
  have n4 := lv_neT (a := 4) hs13_4 (by decide)
  have n5 := lv_neT (a := 5) hs13_5 (by decide)
  have n6 := lv_neT (a := 6) hs13_6 (by decide)
  have n7 := lv_neT (a := 7) hs13_7 (by decide)
  have n8 := lv_neT (a := 8) hs13_8 (by decide)
  refine lv_tableOut (tgt := 176) hx hb (z_d hX6_sceneFact_0 7 rfl) (by omega) (by decide) ?_
  refine lv_aload_n hx hb (z_d hX6_sceneFact_1 6 rfl) rfl (lv_at hl 1 rfl) ?_
  refine va_get (D := Z.1) (ci := 6) (v := .ref (Ag 0)) (C := RX6) (T := TX6) (N := 9) hx hb hts zinX6 hown hK.1 (zP_reg hP 0 rfl) 0 rfl rfl 4 (by decide) (hts _ k_f_X6_32) (fun _ h9 => h9) rfl (z_d hX6_sceneFact_1 7 rfl) ?_
  refine va_getN (D := Z.1) (ci := 1) (v := .ref (Ag 3)) (C := RX1) (T := TX1) (N := 14) hx hb hts zinX1 hown hK.1 (zP_reg (L := l_Pages Z.2.1 Ag G.1 G.2.1 G.2.2.1 G.2.2.2.1 G.2.2.2.2.1 G.2.2.2.2.2.1 G.2.2.2.2.2.2.1 G.2.2.2.2.2.2.2.1 G.2.2.2.2.2.2.2.2.1 G.2.2.2.2.2.2.2.2.2.1 G.2.2.2.2.2.2.2.2.2.2.1 G.2.2.2.2.2.2.2.2.2.2.2.1 G.2.2.2.2.2.2.2.2.2.2.2.2.1 G.2.2.2.2.2.2.2.2.2.2.2.2.2) (zP_reg hP 5 rfl) 0 rfl) 0 rfl rfl 6 (by decide) (kn_X6_273 hK.2) (fun _ h9 => h9) rfl (z_d hX6_sceneFact_1 8 rfl) ?_
  refine lv_iload_n hx hb (z_d hX6_sceneFact_1 9 rfl) rfl (lv_at hl 0 rfl) ?_
  refine z_let hF (fun q11 hq11 hF => ?_)
  refine z_ro_i (z_rV (As := [.int q1]) (rest := []) hx hb hml hown hts vt_X3_at (c_rAt l Z 60 (Ag 3) (Ag 4) (by decide) G.2.2.2.2.2.2.1 q1 _ hq11) rfl rfl ⟨Nat.le_of_ble_eq_true rfl, Nat.le_of_ble_eq_true rfl⟩ k_m_X6_150 zPro_blind (z_recv (q := (RX3, TX3, 1)) (ci := 3) (q0 := 0) hK (zP_reg (L := l_Pages Z.2.1 Ag G.1 G.2.1 G.2.2.1 G.2.2.2.1 G.2.2.2.2.1 G.2.2.2.2.2.1 G.2.2.2.2.2.2.1 G.2.2.2.2.2.2.2.1 G.2.2.2.2.2.2.2.2.1 G.2.2.2.2.2.2.2.2.2.1 G.2.2.2.2.2.2.2.2.2.2.1 G.2.2.2.2.2.2.2.2.2.2.2.1 G.2.2.2.2.2.2.2.2.2.2.2.2.1 G.2.2.2.2.2.2.2.2.2.2.2.2.2) (zP_reg hP 5 rfl) 2 rfl) rfl rfl) (z_prec hK (zP_reg (L := l_Pages Z.2.1 Ag G.1 G.2.1 G.2.2.1 G.2.2.2.1 G.2.2.2.2.1 G.2.2.2.2.2.1 G.2.2.2.2.2.2.1 G.2.2.2.2.2.2.2.1 G.2.2.2.2.2.2.2.2.1 G.2.2.2.2.2.2.2.2.2.1 G.2.2.2.2.2.2.2.2.2.2.1 G.2.2.2.2.2.2.2.2.2.2.2.1 G.2.2.2.2.2.2.2.2.2.2.2.2.1 G.2.2.2.2.2.2.2.2.2.2.2.2.2) (zP_reg hP 5 rfl) 2 rfl)) rfl hl.1 (Nat.le_of_ble_eq_true rfl) (z_d hX6_sceneFact_1 10 rfl) ⟨Nat.zero_le _, Nat.zero_le _⟩) hS hP (fun H locs hP hS => ?_)
  obtain rfl := Option.some.inj hF
  subst hQ
  exact W.iret hx hb hr (fun t ht hW => zq_ro (hS.F ht)) hS.2.2 (z_d hX6_sceneFact_1 11 rfl)
