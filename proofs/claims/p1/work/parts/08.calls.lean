/-! ===== calls and new cells ===== -/
def wsum (st : List Value) : Nat := (st.map fun v => v.category).sum
theorem wsum_cv (B : Nat) (st : List Value) : ((st.map (cv B)).map fun v => v.category).sum = wsum st := by
  unfold wsum
  rw [List.map_map]
  congr 1
  exact List.map_congr_left fun v _ => cv_cat B v
theorem gw_cons {y : MethodName} {code : ByteArray} {maxL : Nat} {ret : Option FieldType} (h : Cond.code y code maxL ret ∈ gw) : GoodIn gw (Cond.code y code maxL ret :: gw) := by
  intro w hw
  rcases List.mem_cons.mp hw with rfl | hw
  · exact gw_good _ h
  · exact gw_good _ hw
theorem Px_blind {G : Gx} {n0 : Nat} {σ : Hp} {av : List Value} : FrameBlind (va_Pc av (Px G n0 σ)) := by
  intro a U g mk h
  exact ⟨h.1, Kt.same (u := U) rfl rfl h.2.1, h.2.2⟩
/-- behind a call -/
theorem Wx_back {S : Sx} {n n' pc : Nat} {lv st : List Value} {σ : Hp} {Q : Oc → Hp → Prop} (hle : n ≤ n') (kk : ∀ (v : Option Value) (τ : Hp), Q (.inl v) τ → Wx S n' (pc + 3) lv (v.toList ++ st) τ) (hno : ∀ (i : Nat) (τ : Hp), ¬ Q (.inr i) τ) (hF : n' ≤ S.2.2.2.1)
    {p : Program} {l : Launch} {e : Env} {R : Room} {s : State} {m : MethodId} {args : Array Value} {below : List Frame} {meth : Method} {c : Code} {G : Gx} {H : Heap} {locs : List Loc} {ls : Array Slot} {a : Array Value} {st0 : List Value}
    (C : CX S p R s m args meth c G) (hn : S.2.2.1 ≤ n ∧ n ≤ S.2.2.2.1) (hH : Ht G n σ s H locs) (hl : lvx G.2.2 lv S.1.2.2.2.1 ls)
    (hr : va_Run p l e R s m args below meth c H locs (n - S.2.2.1) (sl n - sl S.2.2.1) (n' - n) (sl n' - sl n) (F0 m pc ls st0) (st.map (cv G.2.2)) (QX G n' Q a) (fun q => G.2.2 ≤ q)) :
    W p l e R s m args below meth c H locs (n - S.2.2.1) (sl n - sl S.2.2.1) (MZ S.2.2.2.2.1 below (QX G S.2.2.2.1 S.2.2.2.2.2.1) args s (S.2.2.2.1 - S.2.2.1) (sl S.2.2.2.1 - sl S.2.2.1) (fun q => G.2.2 ≤ q)) (F0 m pc ls st0) := by
  intro T hT X
  obtain ⟨v, st₀, t, T', L, h0, X', hL, e1, e2, ⟨⟨o, τ, hQ, ho, hP⟩, hz, hk⟩, stp⟩ := hr T hT X
  rw [h0] at hz hk
  match o, hQ, ho with
  | .inr i, hQ, _ => exact absurd hQ (hno i τ)
  | .inl w, hQ, ho =>
    have hv : v = w.map (cv G.2.2) := Outcome.returned.inj ho
    subst hv
    have hs1 := sl_mono hn.1
    have hs2 := sl_mono hle
    have ec : n - S.2.2.1 + (n' - n) = n' - S.2.2.1 := by omega
    have es : sl n - sl S.2.2.1 + (sl n' - sl n) = sl n' - sl S.2.2.1 := by omega
    rw [ec, es] at X'
    have hS : va_S (fun q => G.2.2 ≤ q) s.heap T'.heap (locs ++ L) :=
      ⟨Nat.le_trans hH.2.1 (by rw [e1]; exact hz), fun q h1 h2 => by rw [e1, hk q (Nat.lt_of_lt_of_le h1 hH.2.1) h2]; exact hH.2.2.1 q h1 h2, fun q hq => by
        rcases List.mem_append.mp hq with h | h
        · exact hH.2.2.2 q h
        · exact hL q h⟩
    obtain ⟨t2, a1, b1⟩ := kk w τ hQ p l e R s m args below meth c G T'.heap (locs ++ L) ls C ⟨by omega, hF⟩ ⟨by rw [e1]; exact hP, hS⟩ hl T' rfl X'
    refine ⟨t2, stp t2 ?_, b1⟩
    have hst : (w.toList ++ st).map (cv G.2.2) = (w.map (cv G.2.2)).toList ++ st.map (cv G.2.2) := by cases w <;> simp
    rw [hst] at a1
    exact a1
theorem Wx_pre {S : Sx} {n : Nat} {σ : Hp} {av : List Value} {p : Program} {R : Room} {s : State} {m : MethodId} {args : Array Value} {meth : Method} {c : Code} {G : Gx} {H : Heap} {locs : List Loc} (C : CX S p R s m args meth c G) (hn : S.2.2.1 ≤ n) (hH : Ht G n σ s H locs) (hz : H.size ≤ s.heap.size + (n - S.2.2.1)) :
    PreS s H (va_Pc (av.map (cv G.2.2)) (Px G n σ)) (av.map (cv G.2.2)) :=
  ⟨Px_blind, fun U hU hW => ⟨rfl, C.kt.moved hW (fun a h1 h2 => by rw [hU]; exact hH.2.2.1 a h1 h2), by rw [hU]; exact hH.1, by rw [hU]; exact Ht_size C hn hH hz⟩⟩
/-- a static method -/
theorem Wx_callS {S : Sx} {n pc : Nat} {lv st : List Value} {σ : Hp} {idx : Nat} {y : MethodName} {code : ByteArray} {maxL : Nat} {ret : Option FieldType} {d n' : Nat} {Q : Oc → Hp → Prop} (av : List Value) (np : Nat) (hm : mok y code maxL ret np) (hlk : lok S.1.2.1 idx y) (hs : Cond.static y ∈ gw) (hd : decode S.1.1 pc = .ok (.invokestatic idx, 3)) (hc : Cx y code maxL ret d n n' av σ Q)
    (hD : d + 1 ≤ S.2.1) (hle : n ≤ n') (hF : n' ≤ S.2.2.2.1) (hp : av.length = np) (hw : wsum st ≤ 8) {st0 : List Value} (hst : st0 = av.reverse ++ st) (hno : ∀ (i : Nat) (τ : Hp), ¬ Q (.inr i) τ) (kk : ∀ (v : Option Value) (τ : Hp), Q (.inl v) τ → Wx S n' (pc + 3) lv (v.toList ++ st) τ) : Wx S n pc lv st0 σ := by
  subst hst
  intro p l e R s m args below meth c G H locs ls C hn hH hl
  refine W_size fun hz => ?_
  have hs1 := sl_mono hn.1
  have hs2 := sl_mono hle
  have hs3 := sl_mono hF
  have hR := C.rm
  have hfr : d + 1 ≤ R.frames := Nat.le_trans hD hR.1
  have hlo : 8 + (maxL + 11) + 30 * d ≤ R.locals := by have := hm.2.2.2; omega
  have hro : n - S.2.2.1 + (n' - n) ≤ R.cells ∧ sl n - sl S.2.2.1 + (sl n' - sl n) ≤ R.slots := by omega
  have hst2 : (av.reverse ++ st).map (cv G.2.2) = (av.map (cv G.2.2)).reverse ++ st.map (cv G.2.2) := by rw [List.map_append, List.map_reverse]
  rw [hst2]
  have hroom : 2 * (F0 m pc ls ((av.map (cv G.2.2)).reverse ++ st.map (cv G.2.2))).monitorRoom + ((st.map (cv G.2.2)).map fun v => v.category).sum ≤ 8 := lv_room (by rw [wsum_cv]; exact hw)
  refine Wx_back hle kk hno hF C hn hH hl (a := (av.map (cv G.2.2)).toArray) ?_
  rcases hlk with hlk | ⟨h, hlk⟩
  · exact va_runS (As := av.map (cv G.2.2)) ⟨C.1, C.2.1, C.2.2.2.1, C.own, C.2.2.2.2.2.1⟩ (hc l G) ⟨callB_of np C.2.2.2.2.2.1 (gw_cons hm.2.1) rfl rfl rfl (C.wd hm.1) (C.wd hlk) hm.2.2.1 ⟨hfr, hlo⟩, C.wd hs⟩ (Wx_pre C hn.1 hH hz) rfl (by rw [List.length_map]; exact hp) hl.1 rfl hroom hd hro
  · exact va_runSN (As := av.map (cv G.2.2)) ⟨C.1, C.2.1, C.2.2.2.1, C.own, C.2.2.2.2.2.1⟩ (hc l G) ⟨va_cnB np C.2.2.2.2.2.1 (gw_cons hm.2.1) rfl rfl rfl (C.kt.2.1 _ hlk) (C.wd hm.1) hm.2.2.1 ⟨hfr, hlo⟩, C.wd hs, trivial⟩ (Wx_pre C hn.1 hH hz) rfl (by rw [List.length_map]; exact hp) hl.1 rfl hroom hd hro
/-- a constructor -/
theorem Wx_callI {S : Sx} {n pc : Nat} {lv st : List Value} {σ : Hp} {idx : Nat} {y : MethodName} {code : ByteArray} {maxL : Nat} {d n' : Nat} {Q : Oc → Hp → Prop} (i : Nat) (av : List Value) (np : Nat) (hm : mok y code maxL none np) (hlk : lok S.1.2.1 idx y) (hs : Cond.instanceMethod y ∈ gw) (hy : y.name = "<init>") (hd : decode S.1.1 pc = .ok (.invokespecial idx, 3)) (hc : Cx y code maxL none d n n' (.ref i :: av) σ Q)
    (hD : d + 1 ≤ S.2.1) (hle : n ≤ n') (hF : n' ≤ S.2.2.2.1) (hp : av.length = np) (hw : wsum st ≤ 8) {st0 : List Value} (hst : st0 = av.reverse ++ .ref i :: st) (hno : ∀ (i : Nat) (τ : Hp), ¬ Q (.inr i) τ) (kk : ∀ (v : Option Value) (τ : Hp), Q (.inl v) τ → Wx S n' (pc + 3) lv (v.toList ++ st) τ) : Wx S n pc lv st0 σ := by
  subst hst
  intro p l e R s m args below meth c G H locs ls C hn hH hl
  refine W_size fun hz => ?_
  have hs1 := sl_mono hn.1
  have hs2 := sl_mono hle
  have hs3 := sl_mono hF
  have hR := C.rm
  have hfr : d + 1 ≤ R.frames := Nat.le_trans hD hR.1
  have hlo : 8 + (maxL + 11) + 30 * d ≤ R.locals := by have := hm.2.2.2; omega
  have hro : n - S.2.2.1 + (n' - n) ≤ R.cells ∧ sl n - sl S.2.2.1 + (sl n' - sl n) ≤ R.slots := by omega
  have hst2 : (av.reverse ++ .ref i :: st).map (cv G.2.2) = (av.map (cv G.2.2)).reverse ++ .ref (G.2.2 + i) :: st.map (cv G.2.2) := by rw [List.map_append, List.map_reverse]; rfl
  rw [hst2]
  have hroom : 2 * (F0 m pc ls ((av.map (cv G.2.2)).reverse ++ .ref (G.2.2 + i) :: st.map (cv G.2.2))).monitorRoom + ((st.map (cv G.2.2)).map fun v => v.category).sum ≤ 8 := lv_room (by rw [wsum_cv]; exact hw)
  refine Wx_back hle kk hno hF C hn hH hl (a := (Value.ref (G.2.2 + i) :: av.map (cv G.2.2)).toArray) ?_
  rcases hlk with hlk | ⟨h, hlk⟩
  · exact va_runI (b := G.2.2 + i) (As := av.map (cv G.2.2)) ⟨C.1, C.2.1, C.2.2.2.1, C.own, C.2.2.2.2.2.1⟩ (hc l G) ⟨callB_of np C.2.2.2.2.2.1 (gw_cons hm.2.1) rfl rfl rfl (C.wd hm.1) (C.wd hlk) hm.2.2.1 ⟨hfr, hlo⟩, hy, C.wd hs⟩ (Wx_pre (av := .ref i :: av) C hn.1 hH hz) rfl (by rw [List.length_map]; exact hp) hl.1 rfl hroom hd hro
  · exact va_runIN (b := G.2.2 + i) (As := av.map (cv G.2.2)) ⟨C.1, C.2.1, C.2.2.2.1, C.own, C.2.2.2.2.2.1⟩ (hc l G) ⟨va_cnB np C.2.2.2.2.2.1 (gw_cons hm.2.1) rfl rfl rfl (C.kt.2.1 _ hlk) (C.wd hm.1) hm.2.2.1 ⟨hfr, hlo⟩, hy, C.wd hs⟩ (Wx_pre (av := .ref i :: av) C hn.1 hH hz) rfl (by rw [List.length_map]; exact hp) hl.1 rfl hroom hd hro
/-- a method of an object of a known class -/
theorem Wx_callV {S : Sx} {n pc : Nat} {lv st : List Value} {σ : Hp} {idx : Nat} {y : MethodName} {code : ByteArray} {maxL : Nat} {ret : Option FieldType} {d n' : Nat} {Q : Oc → Hp → Prop} (i ci : Nat) (av : List Value) (np : Nat) (hm : mok y code maxL ret np) (hlk : lok S.1.2.1 idx y) (hio : iok y) (hsh : sh i = .inl ci) (hcl : (cl_all[ci]?).map (fun q => q.1) = some y.cls) (hi : i < n) (hd : decode S.1.1 pc = .ok (.invokevirtual idx, 3)) (hc : Cx y code maxL ret d n n' (.ref i :: av) σ Q)
    (hD : d + 1 ≤ S.2.1) (hle : n ≤ n') (hF : n' ≤ S.2.2.2.1) (hp : av.length = np) (hw : wsum st ≤ 8) {st0 : List Value} (hst : st0 = av.reverse ++ .ref i :: st) (hno : ∀ (i : Nat) (τ : Hp), ¬ Q (.inr i) τ) (kk : ∀ (v : Option Value) (τ : Hp), Q (.inl v) τ → Wx S n' (pc + 3) lv (v.toList ++ st) τ) : Wx S n pc lv st0 σ := by
  subst hst
  intro p l e R s m args below meth c G H locs ls C hn hH hl
  refine W_size fun hz => ?_
  have hs1 := sl_mono hn.1
  have hs2 := sl_mono hle
  have hs3 := sl_mono hF
  have hR := C.rm
  have hfr : d + 1 ≤ R.frames := Nat.le_trans hD hR.1
  have hlo : 8 + (maxL + 11) + 30 * d ≤ R.locals := by have := hm.2.2.2; omega
  have hro : n - S.2.2.1 + (n' - n) ≤ R.cells ∧ sl n - sl S.2.2.1 + (sl n' - sl n) ≤ R.slots := by omega
  have hst2 : (av.reverse ++ .ref i :: st).map (cv G.2.2) = (av.map (cv G.2.2)).reverse ++ .ref (G.2.2 + i) :: st.map (cv G.2.2) := by rw [List.map_append, List.map_reverse]; rfl
  rw [hst2]
  have hroom : 2 * (F0 m pc ls ((av.map (cv G.2.2)).reverse ++ .ref (G.2.2 + i) :: st.map (cv G.2.2))).monitorRoom + ((st.map (cv G.2.2)).map fun v => v.category).sum ≤ 8 := lv_room (by rw [wsum_cv]; exact hw)
  have hrecv : ∃ cell : Cell, H[G.2.2 + i]? = some cell ∧ cell.vm.isStatics = false ∧ s.vm.findClass y.cls = some cell.cls := by
    cases hq : cl_all[ci]? with
    | none => rw [hq] at hcl; cases hcl
    | some q =>
      rw [hq] at hcl
      have e : q.1 = y.cls := Option.some.inj hcl
      rw [← e]
      exact va_recv C.kt.1 hH.1 hq (q0 := i) (by rw [wW_at hi, wE_obj hsh])
  have hpre := Wx_pre (av := .ref i :: av) C hn.1 hH hz
  refine Wx_back hle kk hno hF C hn hH hl (a := (Value.ref (G.2.2 + i) :: av.map (cv G.2.2)).toArray) ?_
  rcases hlk with hlk | ⟨h, hlk⟩
  · exact va_runV (C := y.cls) (b := G.2.2 + i) (As := av.map (cv G.2.2)) ⟨C.1, C.2.1, C.2.2.2.1, C.own, C.2.2.2.2.2.1⟩ (hc l G) ⟨callB_of np C.2.2.2.2.2.1 (gw_cons hm.2.1) rfl rfl rfl (C.wd hm.1) (C.wd hlk) hm.2.2.1 ⟨hfr, hlo⟩, C.wd hio.1, C.wd hio.2⟩ ⟨hpre.1, hrecv, hpre.2⟩ rfl (by rw [List.length_map]; exact hp) hl.1 rfl hroom hd hro
  · exact va_runVN (C := y.cls) (b := G.2.2 + i) (As := av.map (cv G.2.2)) ⟨C.1, C.2.1, C.2.2.2.1, C.own, C.2.2.2.2.2.1⟩ (hc l G) ⟨va_cnB np C.2.2.2.2.2.1 (gw_cons hm.2.1) rfl rfl rfl (C.kt.2.1 _ hlk) (C.wd hm.1) hm.2.2.1 ⟨hfr, hlo⟩, C.wd hio.1, C.wd hio.2⟩ ⟨hpre.1, hrecv, hpre.2⟩ rfl (by rw [List.length_map]; exact hp) hl.1 rfl hroom hd hro
/-- Object's own constructor -/
theorem Wx_objInit {S : Sx} {n pc : Nat} {lv st : List Value} {σ : Hp} {idx i : Nat} (hlk : Cond.methodLink S.1.2.1 idx Lib.objectInit ∈ gw) (h1 : Cond.instanceMethod Lib.objectInit ∈ gw) (h2 : Cond.code Lib.objectInit ⟨#[0xb1]⟩ 1 none ∈ gw) (hd : decode S.1.1 pc = .ok (.invokespecial idx, 3)) (hD : 1 ≤ S.2.1) (hw : wsum st ≤ 8) (kk : Wx S n (pc + 3) lv st σ) : Wx S n pc lv (.ref i :: st) σ := by
  intro p l e R s m args below meth c G H locs ls C hn hH hl
  have hR := C.rm
  have hroom : 2 * (F0 m pc ls ((Value.ref i :: st).map (cv G.2.2))).monitorRoom + ((st.map (cv G.2.2)).map fun v => v.category).sum ≤ 8 := lv_room (by rw [wsum_cv]; exact hw)
  exact W.objInit C.1 C.2.1 C.own (C.wd hlk) (C.wd h1) (C.wd h2) rfl (hl.1.trans C.2.2.2.1.symm) rfl hd (Nat.le_trans hD hR.1) (Nat.le_trans (Nat.add_le_add_right hroom 12) (by omega)) (kk p l e R s m args below meth c G H locs ls C hn hH hl)
/-- where a new cell lies -/
theorem new_at {S : Sx} {p : Program} {R : Room} {s : State} {m : MethodId} {args : Array Value} {meth : Method} {c : Code} {G : Gx} (C : CX S p R s m args meth c G) {n q : Nat} {σ : Hp} {x : va_E} {H : Heap} (hn : S.2.2.1 ≤ n) (hP : va_P G.1 cl_all (wW G n σ ++ [(q, x)]) H) (hD : va_D (fun q => G.2.2 ≤ q) (wW G n σ ++ [(q, x)])) (hz : H.size ≤ s.heap.size + (n - S.2.2.1 + 1)) : q = G.2.2 + n := by
  have h0 : s.heap.size = G.2.2 + S.2.2.1 := C.2.2.2.2.2.2.2.2.2.2.1
  have hlen : (wW G n σ).length = n := by simp [wW]
  have hq : (wW G n σ ++ [(q, x)])[n]? = some (q, x) := by
    rw [List.getElem?_append_right (by omega), hlen, Nat.sub_self]
    rfl
  have h1 := (hP n _ hq).lt
  have h2 := hD.2 n _ hq
  dsimp only at h1 h2
  by_cases he : q = G.2.2 + n
  · exact he
  · have h3 : q - G.2.2 < n := by omega
    have h4 : (wW G n σ ++ [(q, x)])[q - G.2.2]? = some (G.2.2 + (q - G.2.2), wE G σ (q - G.2.2)) := by
      rw [List.getElem?_append_left (by omega)]
      exact wW_at h3
    have h5 := hD.1 _ _ _ _ h4 hq (by dsimp only; omega)
    omega
theorem nO_other {G : Gx} {σ : Hp} {n j : Nat} (h : j ≠ n) : wE G (nO σ n) j = wE G σ j := wE_congr (by funext b; simp [gI, nO, upr, h]) (by funext b; simp [gR, nO, upr, h]) rfl rfl
theorem nA_other {G : Gx} {σ : Hp} {n j : Nat} (h : j ≠ n) : wE G (nA σ n) j = wE G σ j := wE_congr rfl rfl (by funext b; simp [gA, nA, upr, h]) (by funext b; simp [gL, nA, upr, h])
theorem Wx_new {S : Sx} {n pc : Nat} {lv st : List Value} {σ : Hp} {idx : Nat} {Cn : String} {T : u_T} {N : Nat} (ci : Nat) (hd : decode S.1.1 pc = .ok (.new idx, 3)) (hc : cl_all[ci]? = some (Cn, T, N)) (h1 : Cond.classLink S.1.2.1 idx Cn ∈ gw) (h2 : Cond.instantiable Cn N ∈ gw) (h3 : Cond.initialized Cn ∈ gw) (hsh : sh n = .inl ci) (hF : n + 1 ≤ S.2.2.2.1)
    (hT : (List.range (cl_n ci)).all (fun j => isI (cl_ty ci j) || isR (cl_ty ci j)) = true) (kk : Wx S (n + 1) (pc + 3) lv (.ref n :: st) (nO σ n)) : Wx S n pc lv st σ := by
  intro p l e R s m args below meth c G H locs ls C hn hH hl
  have hs1 := sl_mono hn.1
  have hs3 := sl_mono hF
  have hR := C.rm
  have hN : N = cl_n ci := cl_len ci _ hc
  have hsz : sl (n + 1) = sl n + N := by
    show sl n + szC n = sl n + N
    rw [hN, szC, hsh]
  have h0 : s.heap.size = G.2.2 + S.2.2.1 := C.2.2.2.2.2.2.2.2.2.2.1
  refine va_new (ci := ci) (fs := (List.range (cl_n ci)).map (fun k => cv G.2.2 (fv (nO σ n) ci n k))) C.1 C.2.1 C.2.2.2.2.2.1 (cl_in ci _ hc) (cl_ty ci) (cl_tyok ci _ hc) C.own (C.wd h1) (C.wd h2) (C.wd h3) C.kt.1 hH.1 wW_D hH.2 (fun q h => by omega) hc (fun j hj => ?_) (by omega) (show sl n - sl S.2.2.1 + N ≤ R.slots by omega) hd fun q H1 hP hD hS => ?_
  · replace hj : j < N := hj
    have h4 := List.all_eq_true.mp hT j (List.mem_range.mpr (by omega))
    unfold vp_V
    rw [List.getD_eq_getElem?_getD, List.getElem?_map, List.getElem?_range (by omega)]
    show defaultValue (cl_ty ci j) = cv G.2.2 (fv (nO σ n) ci n j)
    unfold fv
    cases hty : cl_ty ci j <;> rw [hty] at h4 <;> first | (simp [isI, isR] at h4; done) | simp [isI, gI, gR, nO, upr, cv, rv, defaultValue]
  · refine W_size fun hz => ?_
    have hq := new_at C hn.1 hP hD hz
    subst hq
    show W p l e R s m args below meth c H1 locs (n - S.2.2.1 + 1) (sl n - sl S.2.2.1 + N) _ _
    have ec : n - S.2.2.1 + 1 = n + 1 - S.2.2.1 := by omega
    have es : sl n - sl S.2.2.1 + N = sl (n + 1) - sl S.2.2.1 := by omega
    rw [ec, es]
    rw [← wE_obj hsh, wW_push (fun j hj => nO_other (by omega))] at hP
    exact kk p l e R s m args below meth c G H1 locs ls C ⟨by omega, hF⟩ ⟨hP, hS⟩ hl
theorem ra_one {s : State} {t : FieldType} {c1 c2 : ClassId} (ht : isR t = false) (h1 : va_RA s c1 t) (h2 : va_RA s c2 t) : c1 = c2 := by
  cases t <;> first | exact Option.some.inj (h1.symm.trans h2) | cases ht
theorem Wx_newa {S : Sx} {n pc : Nat} {lv st : List Value} {σ : Hp} {at0 : ArrayType} {x : Int32} (t len : Nat) (hd : decode S.1.1 pc = .ok (.newarray at0, 2)) (hty : newarray.typeOf at0 = tyA t) (ht : t < 4) (hw : Cond.arrayClass (tyA t) ∈ gw) (hsh : sh n = .inr (t, len)) (hx : ¬ x < 0) (hN : x.toNatClampNeg = len) (hb : len * componentBytes (tyA t) ≤ 536870912) (hF : n + 1 ≤ S.2.2.2.1) (kk : Wx S (n + 1) (pc + 2) lv (.ref n :: st) (nA σ n)) : Wx S n pc lv (.int x :: st) σ := by
  intro p l e R s m args below meth c G H locs ls C hn hH hl
  have hs1 := sl_mono hn.1
  have hs3 := sl_mono hF
  have hR := C.rm
  have hsz : sl (n + 1) = sl n + len := by
    show sl n + szC n = sl n + len
    rw [szC, hsh]
  have h0 : s.heap.size = G.2.2 + S.2.2.1 := C.2.2.2.2.2.2.2.2.2.2.1
  have hent : (tyL G.2.1)[t]? = some (G.2.1 t, tyA t) := by
    match t, ht with
    | 0, _ => rfl
    | 1, _ => rfl
    | 2, _ => rfl
    | 3, _ => rfl
  have hnr : isR (tyA t) = false := by
    match t, ht with
    | 0, _ => rfl
    | 1, _ => rfl
    | 2, _ => rfl
    | 3, _ => rfl
  refine va_newa C.1 C.2.1 (by rw [hty]; exact C.wd hw) hty C.kt.1 hH.1 wW_D hH.2 (fun q h => by omega) (a0 := rowE t len (nA σ n) n) (fun cA => ?_) hx hN hb (by omega) (by omega) hd fun q cA H1 hK hP hD hS => ?_
  · match t, ht with
    | 0, _ => simp [rowE, gA, nA, upr, tyA, vp_cell_i, defaultValue]
    | 1, _ => simp [rowE, gA, nA, upr, tyA, vp_cell_i, defaultValue]
    | 2, _ => simp [rowE, gL, nA, upr, tyA, vp_cell_l, defaultValue]
    | 3, _ => simp [rowE, gA, nA, upr, tyA, vp_cell_i, defaultValue]
  · refine W_size fun hz => ?_
    have hq := new_at C hn.1 hP hD hz
    subst hq
    have hcA : cA = G.2.1 t := by
      have h1 := (hK.2 4 (cA, tyA t) rfl).2
      exact ra_one hnr h1 (C.kt.1.2 t _ hent).2
    subst hcA
    have ec : n - S.2.2.1 + 1 = n + 1 - S.2.2.1 := by omega
    have es : sl n - sl S.2.2.1 + len = sl (n + 1) - sl S.2.2.1 := by omega
    rw [ec, es]
    rw [← wE_row (σ := nA σ n) hsh, wW_push (fun j hj => nA_other (by omega))] at hP
    exact kk p l e R s m args below meth c G H1 locs ls C ⟨by omega, hF⟩ ⟨hP, hS⟩ hl
