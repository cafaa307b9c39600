theorem Wx_callST {S : Sx} {pc : Nat} {lv st : List Value} {σ : Hp} {idx : Nat} {y : MethodName} {code : ByteArray} {maxL : Nat} {ret : Option FieldType} {d : Nat} {Q : Oc → Hp → Prop} (av : List Value) (np : Nat) (hm : mok y code maxL ret np) (hlk : Cond.methodLink S.1.2.1 idx y ∈ gw) (hsta : Cond.static y ∈ gw) (hd : decode S.1.1 pc = .ok (.invokestatic idx, 3)) (hc : CxT y code maxL ret d av σ Q)
    (hD : d + 1 ≤ S.2.1) (hp : av.length = np) (hw : wsum st ≤ 8) {st0 : List Value} (hst : st0 = av.reverse ++ st) (kk : ∀ (v : Option Value) (τ : Hp), Q (.inl v) τ → Wx S 122 (pc + 3) lv (v.toList ++ st) τ) (kt : ∀ (j : Nat) (τ : Hp), Q (.inr j) τ → Tx S pc lv st τ j) : Wx S 122 pc lv st0 σ := by
  subst hst
  intro p l e R s m args below meth c G H locs ls C hn hH hl T hT X
  have hR := C.rm
  have hz : H.size ≤ s.heap.size + (122 - S.2.2.1) := by rw [← hT]; exact X.heapSize
  have hs1 := sl_mono hn.1
  have hs3 := sl_mono hn.2
  have hst2 : (av.reverse ++ st).map (cv G.2.2) = (av.map (cv G.2.2)).reverse ++ st.map (cv G.2.2) := by rw [List.map_append, List.map_reverse]
  rw [hst2]
  have hroom : 2 * (F0 m pc ls (st.map (cv G.2.2))).monitorRoom + ((st.map (cv G.2.2)).map fun v => v.category).sum ≤ 8 := lv_room (by rw [wsum_cv]; exact hw)
  have hpre := Wx_pre (av := av) C hn.1 hH hz
  have hy : y.cls ≠ "java/lang/invoke/MethodHandle" ∧ y.cls ≠ "java/lang/invoke/VarHandle" := ⟨hm.2.2.1.1, hm.2.2.1.2.1⟩
  have hcode := C.wd hm.2.1
  obtain ⟨mk, hnamed⟩ := Cond.code_named hcode
  obtain ⟨methM, cM, hmethM, -, -, -, -, -, -, hsigM⟩ := Cond.code_spec hnamed hcode
  have hstatic : methM.isStatic = true := Cond.static_spec hnamed hmethM (C.wd hsta)
  obtain ⟨kP, hkP, -⟩ := className_of_methodNamed hnamed
  have hinitP : kP.init = .initialized := Cond.initialized_spec (findClass_of_methodNamed hnamed) hkP (C.wd hm.1)
  have hlen : (av.map (cv G.2.2)).length = methM.sig.parameters.length := by
    have h2 := hm.2.2.1.2.2
    rw [hsigM] at h2
    rw [List.length_map, hp]
    exact (Option.some.inj h2).symm
  obtain ⟨vm₁, X₁, hstep₁⟩ := X.invokestatic C.1 C.own (C.wd hlk) hnamed hmethM hstatic hkP hinitP hy (g := F0 m pc ls ((av.map (cv G.2.2)).reverse ++ st.map (cv G.2.2))) rfl (argsL := av.map (cv G.2.2)) (rest := st.map (cv G.2.2)) hlen rfl (by rw [C.2.1]; exact hd)
  have hws := pay_in C.2.2.2.2.2.1 (gw_cons hm.2.1)
  obtain ⟨o, s₂, U', L, hq, hL, X', e1, e2, hor⟩ := call_both (E := fun L => ∀ q ∈ L, G.2.2 ≤ q.base) (bytes := code) (maxL := maxL) (ret := ret) (W0 := 8) (hc l G) (Nat.le_trans hD hR.1) (show 8 + (maxL + 11) + 30 * d ≤ R.locals by have := hm.2.2.2; omega) (g := F0 m pc ls (st.map (cv G.2.2))) (a := (av.map (cv G.2.2)).toArray) X₁ rfl (hl.1.trans C.2.2.2.1.symm) (by rw [C.2.1]; exact hd) hroom (X₁.named hnamed)
    (atoms_intro fun w hw => hws w hw _ _ X₁.warmed) (hws _ List.mem_cons_self _ _ X₁.warmed) (word_at X₁.warmed (gw_good _ hm.1).2 (C.wd hm.1)) (show 122 - S.2.2.1 + 0 ≤ R.cells by omega) (show sl 122 - sl S.2.2.1 + 0 ≤ R.slots by omega) (Px_blind _ _ _ _ (hpre.2 (T.setVm vm₁) hT X₁.warmed)) (fun a first o t h => h.2)
  obtain ⟨⟨⟨o', τ, hQ, ho, hP⟩, hFr⟩, -⟩ := hq
  have h0 : ((T.setVm vm₁).calling (F0 m pc ls (st.map (cv G.2.2))) mk (av.map (cv G.2.2)).toArray).heap = H := hT
  have hB := ht_behind hH h0 hP hFr hL e1
  rcases hor with ⟨v, hv, hst⟩ | ⟨b, hb, hst⟩
  · match o', hQ, ho with
    | .inr j, hQ, ho =>
      rw [hv] at ho
      cases ho
    | .inl w, hQ, ho =>
      have hvv : v = w.map (cv G.2.2) := Outcome.returned.inj (hv.symm.trans ho)
      subst hvv
      obtain ⟨t2, a1, b1⟩ := kk w τ hQ p l e R s m args below meth c G U'.heap (locs ++ L) ls C hn hB hl U' rfl X'
      refine ⟨t2, hstep₁ _ fun acts => ?_, b1⟩
      rw [doInvoke_state]
      have hstk : (w.toList ++ st).map (cv G.2.2) = (w.map (cv G.2.2)).toList ++ st.map (cv G.2.2) := by cases w <;> simp
      rw [hstk] at a1
      exact hst.trans a1
  · match o', hQ, ho with
    | .inl w, hQ, ho =>
      rw [hb] at ho
      cases ho
    | .inr j, hQ, ho =>
      have hbb : b = G.2.2 + j := Outcome.threw.inj (hb.symm.trans ho)
      subst hbb
      obtain ⟨t2, a1, b1⟩ := kt j τ hQ p l e R s m args below meth c G U'.heap (locs ++ L) ls C hn hB hl U' rfl X'
      refine ⟨t2, hstep₁ _ fun acts => ?_, b1⟩
      rw [doInvoke_state]
      exact hst.trans a1
def nestInit : Cond → Bool
  | .methodLinkNest _ _ y _ => y.name == "<init>"
  | _ => true
set_option maxRecDepth 100000 in
theorem nw_init : nw.all nestInit = true := by decide +kernel
theorem lok_in {own : String} {idx : Nat} {y : MethodName} (hy : y.name ≠ "<init>") (h : lok own idx y) : Cond.methodLink own idx y ∈ gw := by
  rcases h with h | ⟨w, h⟩
  · exact h
  · have := List.all_eq_true.mp nw_init _ h
    exact absurd (eq_of_beq this) hy
abbrev SxmT (M : Mi) (d : Nat) (Q : Oc → Hp → Prop) : Sx := ((M.2.1, M.1.cls, M.2.2.2.2.1, M.2.2.2.1, false), d, 122, 122, true, Q, ET)
theorem opT_sound {S : Sx} {pc : Nat} {lv st : List Value} {σ : Hp} {i : Instr} {o : Nat} (hE : S.2.2.2.2.2.2 = ET) (hth : S.2.2.2.2.1 = true) (hF : S.2.2.2.1 = 122) (hd : decode S.1.1 pc = .ok (i, ilen i)) (h : opT i st = some o) (hQ : S.2.2.2.2.2.1 (.inr o) σ) : Wx S 122 pc lv st σ := by
  cases i
  case athrow =>
    simp only [opT] at h
    split at h
    · cases h
      exact Wx_athrow hE hth hF hd hQ
    · cases h
  all_goals cases h
theorem opT_sw {i : Instr} {st : List Value} {q : Nat} (h : opT i st = some q) : ¬ ((∃ d l h o, i = .tableswitch d l h o) ∨ ∃ d p, i = .lookupswitch d p) := by
  rintro (⟨_, _, _, _, rfl⟩ | ⟨_, _, rfl⟩) <;> cases h
theorem opC_soundT {S : Sx} {pc : Nat} {lv st av r : List Value} {σ τ : Hp} {i : Instr} {a b d : Nat} {t : Int} {mt : Nat → Mi} {o : Oc} (hin : (mt a).1.name ≠ "<init>") (hd : decode S.1.1 pc = .ok (i, ilen i)) (hc : cok mt S.1.2.1 i a b) (h : opC mt i a b t st = some (av, r)) (hD : d + 1 ≤ S.2.1)
    (hC : CxT (mt a).1 (mt a).2.1 (mt a).2.2.2.1 (mt a).2.2.2.2.1 d av σ (fun o' τ' => o' = o ∧ τ' = τ)) (k : ∀ v, o = .inl v → Wx S 122 (pc + 3) lv (v.toList ++ r) τ) (kt : ∀ j, o = .inr j → Tx S pc lv r τ j) : Wx S 122 pc lv st σ := by
  have hkk : ∀ (w : Option Value) (τ' : Hp), ((Sum.inl w : Oc) = o ∧ τ' = τ) → Wx S 122 (pc + 3) lv (w.toList ++ r) τ' := by
    rintro w τ' ⟨h1, rfl⟩
    exact k w h1.symm
  have hkt : ∀ (j : Nat) (τ' : Hp), ((Sum.inr j : Oc) = o ∧ τ' = τ) → Tx S pc lv r τ' j := by
    rintro w τ' ⟨h1, rfl⟩
    exact kt w h1.symm
  cases i
  case invokevirtual x =>
    simp only [opC] at h
    split at h
    · rename_i q r' hst
      obtain ⟨hb, h⟩ := cond_some h
      simp only [Bool.and_eq_true, decide_eq_true_eq] at hb
      cases h
      obtain ⟨h1, h2, h3, h4⟩ := hc
      refine Wx_callVT q (mt a).2.2.1 (st.take b).reverse b h1 (lok_in hin h2) h3 hb.1.1.2 h4 hb.1.1.1.2 hd hC hD (by rw [List.length_reverse]; exact hb.2) hb.1.2 ?_ hkk hkt
      rw [List.reverse_reverse, ← hst, List.take_append_drop]
    · cases h
  case invokestatic x =>
    simp only [opC] at h
    obtain ⟨hb, h⟩ := cond_some h
    simp only [Bool.and_eq_true, decide_eq_true_eq] at hb
    cases h
    obtain ⟨h1, h2, h3⟩ := hc
    refine Wx_callST (st.take b).reverse b h1 (lok_in hin h2) h3 hd hC hD (by rw [List.length_reverse]; exact hb.2) hb.1.2 ?_ hkk hkt
    rw [List.reverse_reverse, List.take_append_drop]
  all_goals cases h
/-- the interpreter, where it throws too -/
theorem ex_soundT {mt : Nat → Mi} (HM : ∀ i, MOK mt (mt i)) : ∀ (f d : Nat) (M : Mi) (pc : Nat) (lv st : List Value) (σ : Hp) (o : Oc) (τ : Hp), MOK mt M → lv.length = M.2.2.2.1 → ex mt f d M pc lv st σ = some (o, τ) → Wx (SxmT M d (fun o' τ' => o' = o ∧ τ' = τ)) 122 pc lv st σ := by
  intro f
  induction f with
  | zero =>
    intro d M pc lv st σ o τ _ _ h
    cases h
  | succ f ih =>
    intro d M pc lv st σ o τ hM hlen h
    unfold ex at h
    split at h
    · cases h
    rename_i r hr
    obtain ⟨k1, k2, k3, k4, k5, k6, k7⟩ := hM.2.2 _ (lk_mem hr)
    have hd := k1
    have fix : ¬ ((∃ d l h o, r.1 = .tableswitch d l h o) ∨ ∃ d p, r.1 = .lookupswitch d p) → r.2.1 = ilen r.1 := fun q => k2.elim id fun z => absurd z q
    split at h
    · rename_i st' hS
      have e := fix (opS_sw hS)
      dsimp only at hd
      rw [e] at h hd
      exact opS_sound hd k3 hS (ih _ _ _ _ _ _ _ _ hM hlen h)
    split at h
    · rename_i q hL
      have e := fix (opL_sw hL)
      dsimp only at hd
      rw [e] at h hd
      exact opL_sound hd hlen hL (ih _ _ _ _ _ _ _ _ hM ((opL_len hL).trans hlen) h)
    split at h
    · rename_i q hH
      have e := fix (opH_sw hH)
      dsimp only at hd
      rw [e] at h hd
      exact opH_sound hd k4 hH (ih _ _ _ _ _ _ _ _ hM hlen h)
    split at h
    · rename_i q hJ
      exact opJ_sound hd k2 k5 hJ (ih _ _ _ _ _ _ _ _ hM hlen h)
    split at h
    · rename_i w hR
      have e := fix (opR_sw hR)
      dsimp only at hd
      rw [e] at hd
      cases h
      exact opR_sound hd rfl hR ⟨rfl, rfl⟩
    split at h
    · rename_i w hT
      have e := fix (opT_sw hT)
      dsimp only at hd
      rw [e] at hd
      cases h
      exact opT_sound rfl rfl rfl hd hT ⟨rfl, rfl⟩
    split at h
    · cases h
    split at h
    · rename_i q hY
      have e := fix (opY_sw hY)
      dsimp only at hd
      rw [e] at hd
      exact opY_sound hd k7 hY (Nat.le_add_left 1 _) (ih _ _ _ _ _ _ _ _ hM hlen h)
    split at h
    · cases h
    rename_i hYn _ q hC
    have e := fix (opC_sw hC)
    dsimp only at hd
    rw [e] at hd
    have hM' := HM r.2.2.1
    split at h
    · rename_i w τ' hE
      obtain ⟨hb, h⟩ := cond_some h
      have hb := of_decide_eq_true hb
      refine opC_soundT hM'.2.1 hd (k6 (opC_t hC)) hC (Nat.le_refl _) (o := .inl w) (τ := τ') (CxT_of _ hM'.1 rfl rfl hb (ih _ _ _ _ _ _ _ _ hM' (by simp [lvE]; omega) hE)) (fun v hv => ?_) (fun j hj => by cases hj)
      cases hv
      exact ih _ _ _ _ _ _ _ _ hM hlen h
    · rename_i w τ' hE
      obtain ⟨hb, h⟩ := cond_some h
      have hb := of_decide_eq_true hb
      cases h
      refine opC_soundT hM'.2.1 hd (k6 (opC_t hC)) hC (Nat.le_refl _) (o := .inr w) (τ := τ) (CxT_of _ hM'.1 rfl rfl hb (ih _ _ _ _ _ _ _ _ hM' (by simp [lvE]; omega) hE)) (fun v hv => by cases hv) (fun j hj => ?_)
      cases hj
      exact Tx_out rfl rfl rfl ⟨rfl, rfl⟩
    · cases h
