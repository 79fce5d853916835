section ABC
variable {E : ab_E} {own : String} {cc : ByteArray} {nL : Nat} {p : Program} {e : Env} {R : Room} {s : State} {m : MethodId} {args : Array Value} {below : List Frame} {meth : Method} {c : Code} {Fin : State → Prop} {ad0 : ab_A} {cn0 : ab_C} {TC TS pc : Nat} {L : ab_L} {st : List ab_V} {hi : ab_I} {hr : ab_R} {cn : ab_C} {ck cs : Nat}
theorem ab_mem4 {a b c d w : Cond} {ws : List Cond} (ha : a ∈ ab_ALL) (hb : b ∈ ab_ALL) (hc : c ∈ ab_ALL) (hd : d ∈ ab_ALL) (hws : ∀ w ∈ ws, w ∈ ab_ALL) (h : w ∈ [a, b, c, d] ++ ws) : w ∈ ab_ALL := by
  rcases List.mem_append.mp h with h | h
  · simp only [List.mem_cons, List.not_mem_nil, or_false] at h
    rcases h with rfl | rfl | rfl | rfl <;> assumption
  · exact hws w h
theorem ab_ws_in {M : ab_M} (hcode : Cond.code M.1 M.2.1 M.2.2.1 M.2.2.2.1 ∈ ab_ALL) : ∀ w ∈ ab_ws M, w ∈ ab_ALL := fun w hw => (List.mem_cons.mp hw).elim (fun q => q ▸ hcode) id
theorem ab_rest (ad : ab_A) {pc : Nat} {ls : Array Slot} {rest0 : List Value} {rest : List ab_V} (h : rest.length ≤ 8) : 2 * (F0 m pc ls rest0).monitorRoom + ((rest.map (ab_cv ad)).map fun v => v.category).sum ≤ 8 := lv_room (by rw [ab_cat_sum]; exact h)
/-- what a program has looked up of a method that is called -/
def ab_mk (y n : Nat) : Prop := Cond.code (ab_mt y).1 (ab_mt y).2.1 (ab_mt y).2.2.1 (ab_mt y).2.2.2.1 ∈ ab_ALL ∧ Cond.initialized (ab_mt y).1.cls ∈ ab_ALL ∧ (ab_mt y).2.2.1 ≤ 21 ∧ ((ab_mt y).1.cls ≠ "java/lang/invoke/MethodHandle" ∧ (ab_mt y).1.cls ≠ "java/lang/invoke/VarHandle" ∧ (parseMethodDescriptor (ab_mt y).1.desc).map (fun d => d.parameters.length) = some n)
theorem ab_cv_ref {ad : ab_A} {K i : Nat} : ab_cv ad (.inr (some (K, i))) = .ref (ad K i) := rfl
theorem ab_rmR {d mc ms maxL : Nat} (h : maxL ≤ 21) (hf : d + 2 ≤ R.frames) (hl : 40 * d + 80 ≤ R.locals) : (ab_rm d mc ms).frames + 1 ≤ R.frames ∧ 8 + (maxL + 11) + (ab_rm d mc ms).locals ≤ R.locals := by
  constructor
  · show d + 1 + 1 ≤ _; omega
  · show 8 + (maxL + 11) + (40 * d + 40) ≤ _; omega
theorem ab_callV (X : ab_X E own cc nL p R s m args c TC TS) {d y K i idx : Nat} {Q : ab_Q} {as rest : List ab_V} (hf : d + 2 ≤ R.frames) (hlo : 40 * d + 80 ≤ R.locals) (hK : K < 10) (hcls : ab_N K = (ab_mt y).1.cls) (hk : ab_mk y as.length) (h1 : Cond.methodLink own idx (ab_mt y).1 ∈ ab_ALL) (h2 : Cond.instanceMethod (ab_mt y).1 ∈ ab_ALL) (h3 : Cond.selects (ab_mt y).1.cls (ab_mt y).1 (ab_mt y).1 ∈ ab_ALL)
    (hlen : rest.length ≤ 8) (hmc : ab_mc y ≤ ck) (hms : ab_mS y ≤ cs) (hd : decode cc pc = .ok (.invokevirtual idx, 3)) (hW : ab_Wm E d y (.inr (some (K, i)) :: as) hi hr cn Q)
    (kk : ∀ (v : Option ab_V) (hi' : ab_I) (hr' : ab_R) (cn' : ab_C), Q v hi' hr' cn' → ab_W E nL p e R s m args below meth c Fin ad0 cn0 TC TS (pc + 3) L (v.toList ++ rest) hi' hr' cn' (ck - ab_mc y) (cs - ab_mS y)) : ab_W E nL p e R s m args below meth c Fin ad0 cn0 TC TS pc L (as.reverse ++ .inr (some (K, i)) :: rest) hi hr cn ck cs := by
  intro ad H locs ls cells slots hR hN hL hst hl hS hc hs hx
  have hrest : ∀ v ∈ rest, ab_lv cn v := fun v hv => hst v (List.mem_append_right _ (List.mem_cons_of_mem _ hv))
  have has : ∀ v ∈ (.inr (some (K, i)) :: as : List ab_V), ab_lv cn v := ab_lv_cons (hst _ (List.mem_append_right _ List.mem_cons_self)) (fun v hv => hst v (List.mem_append_left _ (List.mem_reverse.mpr hv)))
  have hR' := hR
  obtain ⟨ws, hP, hD, hcell, -⟩ := hR
  obtain ⟨q, hq⟩ := hcell K i (has _ List.mem_cons_self K i rfl) (by omega)
  rw [ab_cE_obj hK] at hq
  have hrecv := va_recv X.2.2.2.2.2.1.1 hP (ab_cl hK) hq
  have hts := X.2.2.2.2.1
  have hRc := X.2.2.2.2.2.2.1
  have hRs := X.2.2.2.2.2.2.2
  have cw : CallW R s args own (ab_N K) idx (ab_mt y).1 (ab_mt y).2.1 (ab_mt y).2.2.1 (ab_mt y).2.2.2.1 (ab_ws (ab_mt y)) (ab_rm d (ab_mc y) (ab_mS y)) (ab_mc y) (ab_mS y) as.length := cwV as.length hts (ab_all_good (fun w hw => ab_mem4 h1 h2 (by rw [hcls]; exact h3) (by rw [hcls]; exact hk.2.1) (ab_ws_in hk.1) hw) (fun _ h => h)) rfl rfl rfl ⟨hcls.symm, hk.2.2.2⟩ (ab_rmR hk.2.2.1 hf hlo)
  have hrun := va_runV (l := ab_l E) (e := e) (below := below) (meth := meth) (H := H) (locs := locs) (cells := cells) (slots := slots) (g := F0 m pc ls ((as.reverse ++ .inr (some (K, i)) :: rest).map (ab_cv ad))) (b := ad K i) (As := as.map (ab_cv ad)) (rest := rest.map (ab_cv ad)) (nL := nL) ⟨X.1, X.2.1, X.2.2.1, X.2.2.2.1, hts⟩ (hW ad) cw ⟨ab_blind, hrecv, ab_pre X hR' hS has⟩ rfl (List.length_map _) hl.1 (by rw [List.map_append, List.map_reverse]; rfl) (ab_rest ad hlen) hd ⟨by omega, by omega⟩
  exact ab_call hrun hN hL hrest hl hS hc hs hx hmc hms kk
theorem ab_callS (X : ab_X E own cc nL p R s m args c TC TS) {d y idx : Nat} {Q : ab_Q} {as rest : List ab_V} (hf : d + 2 ≤ R.frames) (hlo : 40 * d + 80 ≤ R.locals) (hk : ab_mk y as.length) (h1 : Cond.methodLink own idx (ab_mt y).1 ∈ ab_ALL) (h2 : Cond.static (ab_mt y).1 ∈ ab_ALL)
    (hlen : rest.length ≤ 8) (hmc : ab_mc y ≤ ck) (hms : ab_mS y ≤ cs) (hd : decode cc pc = .ok (.invokestatic idx, 3)) (hW : ab_Wm E d y as hi hr cn Q)
    (kk : ∀ (v : Option ab_V) (hi' : ab_I) (hr' : ab_R) (cn' : ab_C), Q v hi' hr' cn' → ab_W E nL p e R s m args below meth c Fin ad0 cn0 TC TS (pc + 3) L (v.toList ++ rest) hi' hr' cn' (ck - ab_mc y) (cs - ab_mS y)) : ab_W E nL p e R s m args below meth c Fin ad0 cn0 TC TS pc L (as.reverse ++ rest) hi hr cn ck cs := by
  intro ad H locs ls cells slots hR hN hL hst hl hS hc hs hx
  have hrest : ∀ v ∈ rest, ab_lv cn v := fun v hv => hst v (List.mem_append_right _ hv)
  have has : ∀ v ∈ as, ab_lv cn v := fun v hv => hst v (List.mem_append_left _ (List.mem_reverse.mpr hv))
  have hts := X.2.2.2.2.1
  have hRc := X.2.2.2.2.2.2.1
  have hRs := X.2.2.2.2.2.2.2
  have cw : CallB R s args own idx (ab_mt y).1 (ab_mt y).2.1 (ab_mt y).2.2.1 (ab_mt y).2.2.2.1 (ab_ws (ab_mt y)) (ab_rm d (ab_mc y) (ab_mS y)) (ab_mc y) (ab_mS y) as.length ∧ (Cond.static (ab_mt y).1).before args s = true := va_cwS as.length hts (ab_all_good (fun w hw => by
    rcases List.mem_append.mp hw with h | h
    · simp only [List.mem_cons, List.not_mem_nil, or_false] at h
      rcases h with rfl | rfl | rfl
      · exact h1
      · exact h2
      · exact hk.2.1
    · exact ab_ws_in hk.1 w h) (fun _ h => h)) rfl rfl rfl hk.2.2.2 (ab_rmR hk.2.2.1 hf hlo)
  have hrun := va_runS (l := ab_l E) (e := e) (below := below) (meth := meth) (H := H) (locs := locs) (cells := cells) (slots := slots) (g := F0 m pc ls ((as.reverse ++ rest).map (ab_cv ad))) (As := as.map (ab_cv ad)) (rest := rest.map (ab_cv ad)) (nL := nL) ⟨X.1, X.2.1, X.2.2.1, X.2.2.2.1, hts⟩ (hW ad) cw ⟨ab_blind, ab_pre X hR hS has⟩ rfl (List.length_map _) hl.1 (by rw [List.map_append, List.map_reverse]) (ab_rest ad hlen) hd ⟨by omega, by omega⟩
  exact ab_call hrun hN hL hrest hl hS hc hs hx hmc hms kk
theorem ab_callI (X : ab_X E own cc nL p R s m args c TC TS) {d y K i idx : Nat} {Q : ab_Q} {as rest : List ab_V} (hf : d + 2 ≤ R.frames) (hlo : 40 * d + 80 ≤ R.locals) (hk : ab_mk y as.length) (hret : (ab_mt y).2.2.2.1 = none) (hnm : (ab_mt y).1.name = "<init>") (h1 : Cond.methodLink own idx (ab_mt y).1 ∈ ab_ALL) (h2 : Cond.instanceMethod (ab_mt y).1 ∈ ab_ALL)
    (hlen : rest.length ≤ 8) (hmc : ab_mc y ≤ ck) (hms : ab_mS y ≤ cs) (hd : decode cc pc = .ok (.invokespecial idx, 3)) (hW : ab_Wm E d y (.inr (some (K, i)) :: as) hi hr cn Q)
    (kk : ∀ (v : Option ab_V) (hi' : ab_I) (hr' : ab_R) (cn' : ab_C), Q v hi' hr' cn' → ab_W E nL p e R s m args below meth c Fin ad0 cn0 TC TS (pc + 3) L (v.toList ++ rest) hi' hr' cn' (ck - ab_mc y) (cs - ab_mS y)) : ab_W E nL p e R s m args below meth c Fin ad0 cn0 TC TS pc L (as.reverse ++ .inr (some (K, i)) :: rest) hi hr cn ck cs := by
  intro ad H locs ls cells slots hR hN hL hst hl hS hc hs hx
  have hrest : ∀ v ∈ rest, ab_lv cn v := fun v hv => hst v (List.mem_append_right _ (List.mem_cons_of_mem _ hv))
  have has : ∀ v ∈ (.inr (some (K, i)) :: as : List ab_V), ab_lv cn v := ab_lv_cons (hst _ (List.mem_append_right _ List.mem_cons_self)) (fun v hv => hst v (List.mem_append_left _ (List.mem_reverse.mpr hv)))
  have hts := X.2.2.2.2.1
  have hRc := X.2.2.2.2.2.2.1
  have hRs := X.2.2.2.2.2.2.2
  have cw : CallB R s args own idx (ab_mt y).1 (ab_mt y).2.1 (ab_mt y).2.2.1 none (ab_ws (ab_mt y)) (ab_rm d (ab_mc y) (ab_mS y)) (ab_mc y) (ab_mS y) as.length ∧ (ab_mt y).1.name = "<init>" ∧ (Cond.instanceMethod (ab_mt y).1).before args s = true := cwI as.length hts (ab_all_good (ab_ws_in hk.1) (fun _ h => h)) (by unfold ab_ws; rw [hret]) rfl rfl (hts _ hk.2.1) (hts _ h1) (hts _ h2) hnm hk.2.2.2 (ab_rmR hk.2.2.1 hf hlo)
  have hrun := va_runI (l := ab_l E) (e := e) (below := below) (meth := meth) (H := H) (locs := locs) (cells := cells) (slots := slots) (g := F0 m pc ls ((as.reverse ++ .inr (some (K, i)) :: rest).map (ab_cv ad))) (b := ad K i) (As := as.map (ab_cv ad)) (rest := rest.map (ab_cv ad)) (nL := nL) ⟨X.1, X.2.1, X.2.2.1, X.2.2.2.1, hts⟩ (hW ad) cw ⟨ab_blind, ab_pre X hR hS has⟩ rfl (List.length_map _) hl.1 (by rw [List.map_append, List.map_reverse]; rfl) (ab_rest ad hlen) hd ⟨by omega, by omega⟩
  exact ab_call hrun hN hL hrest hl hS hc hs hx hmc hms kk
theorem ab_callIN (X : ab_X E own cc nL p R s m args c TC TS) {d y K i idx : Nat} {host : String} {Q : ab_Q} {as rest : List ab_V} (hf : d + 2 ≤ R.frames) (hlo : 40 * d + 80 ≤ R.locals) (hk : ab_mk y as.length) (hret : (ab_mt y).2.2.2.1 = none) (hnm : (ab_mt y).1.name = "<init>") (h1 : va_Nw (.methodLinkNest own idx (ab_mt y).1 host) s) (h2 : Cond.instanceMethod (ab_mt y).1 ∈ ab_ALL)
    (hlen : rest.length ≤ 8) (hmc : ab_mc y ≤ ck) (hms : ab_mS y ≤ cs) (hd : decode cc pc = .ok (.invokespecial idx, 3)) (hW : ab_Wm E d y (.inr (some (K, i)) :: as) hi hr cn Q)
    (kk : ∀ (v : Option ab_V) (hi' : ab_I) (hr' : ab_R) (cn' : ab_C), Q v hi' hr' cn' → ab_W E nL p e R s m args below meth c Fin ad0 cn0 TC TS (pc + 3) L (v.toList ++ rest) hi' hr' cn' (ck - ab_mc y) (cs - ab_mS y)) : ab_W E nL p e R s m args below meth c Fin ad0 cn0 TC TS pc L (as.reverse ++ .inr (some (K, i)) :: rest) hi hr cn ck cs := by
  intro ad H locs ls cells slots hR hN hL hst hl hS hc hs hx
  have hrest : ∀ v ∈ rest, ab_lv cn v := fun v hv => hst v (List.mem_append_right _ (List.mem_cons_of_mem _ hv))
  have has : ∀ v ∈ (.inr (some (K, i)) :: as : List ab_V), ab_lv cn v := ab_lv_cons (hst _ (List.mem_append_right _ List.mem_cons_self)) (fun v hv => hst v (List.mem_append_left _ (List.mem_reverse.mpr hv)))
  have hts := X.2.2.2.2.1
  have hRc := X.2.2.2.2.2.2.1
  have hRs := X.2.2.2.2.2.2.2
  have cw : va_CN R s args own idx (ab_mt y).1 host (ab_mt y).2.1 (ab_mt y).2.2.1 none (ab_ws (ab_mt y)) (ab_rm d (ab_mc y) (ab_mS y)) (ab_mc y) (ab_mS y) as.length := va_cnB as.length hts (ab_all_good (ab_ws_in hk.1) (fun _ h => h)) (by unfold ab_ws; rw [hret]) rfl rfl h1 (hts _ hk.2.1) hk.2.2.2 (ab_rmR hk.2.2.1 hf hlo)
  have hrun := va_runIN (l := ab_l E) (e := e) (below := below) (meth := meth) (H := H) (locs := locs) (cells := cells) (slots := slots) (g := F0 m pc ls ((as.reverse ++ .inr (some (K, i)) :: rest).map (ab_cv ad))) (b := ad K i) (As := as.map (ab_cv ad)) (rest := rest.map (ab_cv ad)) (nL := nL) ⟨X.1, X.2.1, X.2.2.1, X.2.2.2.1, hts⟩ (hW ad) ⟨cw, hnm, hts _ h2⟩ ⟨ab_blind, ab_pre X hR hS has⟩ rfl (List.length_map _) hl.1 (by rw [List.map_append, List.map_reverse]; rfl) (ab_rest ad hlen) hd ⟨by omega, by omega⟩
  exact ab_call hrun hN hL hrest hl hS hc hs hx hmc hms kk
theorem ab_callSN (X : ab_X E own cc nL p R s m args c TC TS) {d y idx : Nat} {host : String} {Q : ab_Q} {as rest : List ab_V} (hf : d + 2 ≤ R.frames) (hlo : 40 * d + 80 ≤ R.locals) (hk : ab_mk y as.length) (h1 : va_Nw (.methodLinkNest own idx (ab_mt y).1 host) s) (h2 : Cond.static (ab_mt y).1 ∈ ab_ALL)
    (hlen : rest.length ≤ 8) (hmc : ab_mc y ≤ ck) (hms : ab_mS y ≤ cs) (hd : decode cc pc = .ok (.invokestatic idx, 3)) (hW : ab_Wm E d y as hi hr cn Q)
    (kk : ∀ (v : Option ab_V) (hi' : ab_I) (hr' : ab_R) (cn' : ab_C), Q v hi' hr' cn' → ab_W E nL p e R s m args below meth c Fin ad0 cn0 TC TS (pc + 3) L (v.toList ++ rest) hi' hr' cn' (ck - ab_mc y) (cs - ab_mS y)) : ab_W E nL p e R s m args below meth c Fin ad0 cn0 TC TS pc L (as.reverse ++ rest) hi hr cn ck cs := by
  intro ad H locs ls cells slots hR hN hL hst hl hS hc hs hx
  have hrest : ∀ v ∈ rest, ab_lv cn v := fun v hv => hst v (List.mem_append_right _ hv)
  have has : ∀ v ∈ as, ab_lv cn v := fun v hv => hst v (List.mem_append_left _ (List.mem_reverse.mpr hv))
  have hts := X.2.2.2.2.1
  have hRc := X.2.2.2.2.2.2.1
  have hRs := X.2.2.2.2.2.2.2
  have cw : va_CN R s args own idx (ab_mt y).1 host (ab_mt y).2.1 (ab_mt y).2.2.1 (ab_mt y).2.2.2.1 (ab_ws (ab_mt y)) (ab_rm d (ab_mc y) (ab_mS y)) (ab_mc y) (ab_mS y) as.length := va_cnB as.length hts (ab_all_good (ab_ws_in hk.1) (fun _ h => h)) rfl rfl rfl h1 (hts _ hk.2.1) hk.2.2.2 (ab_rmR hk.2.2.1 hf hlo)
  have hrun := va_runSN (l := ab_l E) (e := e) (below := below) (meth := meth) (H := H) (locs := locs) (cells := cells) (slots := slots) (g := F0 m pc ls ((as.reverse ++ rest).map (ab_cv ad))) (As := as.map (ab_cv ad)) (rest := rest.map (ab_cv ad)) (nL := nL) ⟨X.1, X.2.1, X.2.2.1, X.2.2.2.1, hts⟩ (hW ad) ⟨cw, hts _ h2, trivial⟩ ⟨ab_blind, ab_pre X hR hS has⟩ rfl (List.length_map _) hl.1 (by rw [List.map_append, List.map_reverse]) (ab_rest ad hlen) hd ⟨by omega, by omega⟩
  exact ab_call hrun hN hL hrest hl hS hc hs hx hmc hms kk
theorem ab_objInit (X : ab_X E own cc nL p R s m args c TC TS) {K i idx : Nat} (hf : 1 ≤ R.frames) (hlo : 40 ≤ R.locals) (h1 : Cond.methodLink own idx objectInit ∈ ab_ALL) (hlen : st.length ≤ 8) (hd : decode cc pc = .ok (.invokespecial idx, 3))
    (kk : ab_W E nL p e R s m args below meth c Fin ad0 cn0 TC TS (pc + 3) L st hi hr cn ck cs) : ab_W E nL p e R s m args below meth c Fin ad0 cn0 TC TS pc L (.inr (some (K, i)) :: st) hi hr cn ck cs := by
  intro ad H locs ls cells slots hR hN hL hst hl hS hc hs hx
  have hts := X.2.2.2.2.1
  refine W.objInit X.1 X.2.1 X.2.2.2.1 (hts _ h1) (hts _ ab_w_oi) (hts _ ab_w_oc) rfl (by rw [X.2.2.1]; exact hl.1) (a := ad K i) (rest := st.map (ab_cv ad)) rfl hd hf ?_ ?_
  · have := ab_rest (m := m) (pc := pc) (ls := ls) (rest0 := (.inr (some (K, i)) :: st).map (ab_cv ad)) ad hlen
    omega
  · exact kk ad H locs ls cells slots hR hN hL (fun w hw => hst w (List.mem_cons_of_mem _ hw)) hl hS hc hs hx
end ABC
