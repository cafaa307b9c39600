/-! ===== fields, rows, new cells ===== -/
theorem wE_obj {G : Gx} {σ : Hp} {i ci : Nat} (h : sh i = .inl ci) : wE G σ i = .inr (ci, (List.range (cl_n ci)).map (fun k => cv G.2.2 (fv σ ci i k))) := by
  unfold wE
  rw [h]
theorem wE_row {G : Gx} {σ : Hp} {i t len : Nat} (h : sh i = .inr (t, len)) : wE G σ i = .inl (G.2.1 t, rowE t len σ i) := by
  unfold wE
  rw [h]
theorem Wx_get {S : Sx} {n pc : Nat} {lv st : List Value} {σ : Hp} {idx ci i k : Nat} (hd : decode S.1.1 pc = .ok (.getfield idx, 3)) (hf : fok S.1.2.1 idx ci k) (hs : sh i = .inl ci) (hi : i < n) (kk : Wx S n (pc + 3) lv (fv σ ci i k :: st) σ) : Wx S n pc lv (.ref i :: st) σ := by
  intro p l e R s m args below meth c G H locs ls C hn hH hl
  obtain ⟨Cn, T, N, hc, hk, hlink⟩ := hf
  have hN : N = cl_n ci := cl_len ci _ hc
  have he : (wW G n σ)[i]? = some (G.2.2 + i, .inr (ci, (List.range (cl_n ci)).map (fun k => cv G.2.2 (fv σ ci i k)))) := by rw [wW_at hi, wE_obj hs]
  have hv : ((List.range (cl_n ci)).map (fun k => cv G.2.2 (fv σ ci i k)))[k]? = some (cv G.2.2 (fv σ ci i k)) := by
    rw [List.getElem?_map, List.getElem?_range (by omega)]
    rfl
  rcases hlink with hlink | ⟨h, hlink⟩
  · exact va_get C.1 C.2.1 C.2.2.2.2.2.1 (cl_in ci _ hc) C.own C.kt.1 hH.1 i he hc k hk (C.wd hlink) (fun x h => h) hv hd (kk p l e R s m args below meth c G H locs ls C hn hH hl)
  · exact va_getN C.1 C.2.1 C.2.2.2.2.2.1 (cl_in ci _ hc) C.own C.kt.1 hH.1 i he hc k hk (va_Nw.use rfl (C.kt.2.1 _ hlink)) (fun x h => h) hv hd (kk p l e R s m args below meth c G H locs ls C hn hH hl)
theorem fv_I {σ : Hp} {ci i k : Nat} (h : isI (cl_ty ci k) = true) : fv σ ci i k = .int (gI σ i k) := by simp [fv, h]
theorem fv_R {σ : Hp} {ci i k j : Nat} (h : isI (cl_ty ci k) = false) (hr : gR σ i k = some j) : fv σ ci i k = .ref j := by simp [fv, h, hr, rv]
theorem Wx_getI {S : Sx} {n pc : Nat} {lv st : List Value} {σ : Hp} {idx i : Nat} (ci k : Nat) (hd : decode S.1.1 pc = .ok (.getfield idx, 3)) (hf : fok S.1.2.1 idx ci k) (hs : sh i = .inl ci) (hi : i < n) (ht : isI (cl_ty ci k) = true) (kk : Wx S n (pc + 3) lv (.int (gI σ i k) :: st) σ) : Wx S n pc lv (.ref i :: st) σ :=
  Wx_get hd hf hs hi (by rw [fv_I ht]; exact kk)
theorem Wx_getR {S : Sx} {n pc : Nat} {lv st : List Value} {σ : Hp} {idx i : Nat} (ci k j : Nat) (hd : decode S.1.1 pc = .ok (.getfield idx, 3)) (hf : fok S.1.2.1 idx ci k) (hs : sh i = .inl ci) (hi : i < n) (ht : isI (cl_ty ci k) = false) (hr : gR σ i k = some j) (kk : Wx S n (pc + 3) lv (.ref j :: st) σ) : Wx S n pc lv (.ref i :: st) σ :=
  Wx_get hd hf hs hi (by rw [fv_R ht hr]; exact kk)
theorem setR (N k : Nat) (f : Nat → Value) (v : Value) : ((List.range N).map f).set k v = (List.range N).map (fun j => if j = k then v else f j) := by
  apply List.ext_getElem?
  intro j
  by_cases hj : j < N
  · by_cases e : j = k
    · subst e
      rw [List.getElem?_set_self (by simpa using hj), List.getElem?_map, List.getElem?_range hj]
      simp
    · rw [List.getElem?_set_ne (Ne.symm e), List.getElem?_map, List.getElem?_map, List.getElem?_range hj]
      simp [e]
  · rw [List.getElem?_eq_none (by simp; omega), List.getElem?_eq_none (by simp; omega)]
theorem wE_other {G : Gx} {σ : Hp} {i k j : Nat} {v : Int32} (h : j ≠ i) : wE G (pI σ i k v) j = wE G σ j := wE_congr (by funext b; simp [gI, pI, up2, h]) rfl rfl rfl
theorem wE_otherR {G : Gx} {σ : Hp} {i k j : Nat} {v : Option Nat} (h : j ≠ i) : wE G (pR σ i k v) j = wE G σ j := wE_congr rfl (by funext b; simp [gR, pR, up2, h]) rfl rfl
theorem wE_otherA {G : Gx} {σ : Hp} {i k j : Nat} {v : Int32} (h : j ≠ i) : wE G (pA σ i k v) j = wE G σ j := wE_congr rfl rfl (by funext b; simp [gA, pA, up2, h]) rfl
theorem wE_otherL {G : Gx} {σ : Hp} {i k j : Nat} {v : Int64} (h : j ≠ i) : wE G (pL σ i k v) j = wE G σ j := wE_congr rfl rfl rfl (by funext b; simp [gL, pL, up2, h])
theorem wE_pI {G : Gx} {σ : Hp} {i ci k : Nat} {v : Int32} (hs : sh i = .inl ci) (ht : isI (cl_ty ci k) = true) : wE G (pI σ i k v) i = .inr (ci, ((List.range (cl_n ci)).map (fun k => cv G.2.2 (fv σ ci i k))).set k (.int v)) := by
  rw [wE_obj hs, setR]
  congr 2
  apply List.map_congr_left
  intro j _
  by_cases e : j = k
  · subst e
    simp [fv, ht, gI, pI, up2, cv]
  · simp [fv, gI, gR, pI, up2, e]
theorem wE_pR {G : Gx} {σ : Hp} {i ci k : Nat} {v : Option Nat} (hs : sh i = .inl ci) (ht : isI (cl_ty ci k) = false) : wE G (pR σ i k v) i = .inr (ci, ((List.range (cl_n ci)).map (fun k => cv G.2.2 (fv σ ci i k))).set k (cv G.2.2 (rv v))) := by
  rw [wE_obj hs, setR]
  congr 2
  apply List.map_congr_left
  intro j _
  by_cases e : j = k
  · subst e
    simp [fv, ht, gR, pR, up2]
  · simp [fv, gI, gR, pR, up2, e]
/-- a store into a field: what is asked of the value, and the new heap -/
theorem Wx_put {S : Sx} {n pc : Nat} {lv st : List Value} {σ τ : Hp} {idx ci i k : Nat} {v : Value} (hd : decode S.1.1 pc = .ok (.putfield idx, 3)) (hf : fok S.1.2.1 idx ci k) (hs : sh i = .inl ci) (hi : i < n)
    (hn : ∀ B, narrow (cl_ty ci k) (cv B v) = cv B v) (hfit : ∀ B, fits (cl_ty ci k) (cv B v) = true) (hfin : clf ci k = false)
    (ho : ∀ G j, j ≠ i → wE G τ j = wE G σ j) (he : ∀ G : Gx, wE G τ i = .inr (ci, ((List.range (cl_n ci)).map (fun k => cv G.2.2 (fv σ ci i k))).set k (cv G.2.2 v)))
    (kk : Wx S n (pc + 3) lv st τ) : Wx S n pc lv (v :: .ref i :: st) σ := by
  intro p l e R s m args below meth c G H locs ls C hn0 hH hl
  obtain ⟨Cn, T, N, hc, hk, hlink⟩ := hf
  have hN : N = cl_n ci := cl_len ci _ hc
  have h0 : (wW G n σ)[i]? = some (G.2.2 + i, .inr (ci, (List.range (cl_n ci)).map (fun k => cv G.2.2 (fv σ ci i k)))) := by rw [wW_at hi, wE_obj hs]
  have hw : (wW G n σ).set i (G.2.2 + i, .inr (ci, ((List.range (cl_n ci)).map (fun k => cv G.2.2 (fv σ ci i k))).set k (cv G.2.2 v))) = wW G n τ := by
    rw [← he G]
    exact wW_set (fun j _ hj => ho G j hj)
  have hfin' : (T k).2.2.2 = false := by
    have h1 := hfin
    unfold clf at h1
    rw [hc] at h1
    exact h1
  rcases hlink with hlink | ⟨h, hlink⟩
  · refine va_put C.1 C.2.1 C.2.2.2.2.2.1 (cl_in ci _ hc) (cl_ty ci) (cl_tyok ci _ hc) (cl_nm ci _ hc) C.own C.kt.1 hH.1 wW_D hH.2 i h0 hc k hk (C.wd hlink) (fun x h => h) hfin' (cl_tyok ci _ hc k hk) (hn _) (hfit _) (by simp; omega) hd fun H1 locs1 hP hD hS => ?_
    rw [hw] at hP
    exact kk p l e R s m args below meth c G H1 locs1 ls C hn0 ⟨hP, hS⟩ hl
  · refine va_putN C.1 C.2.1 C.2.2.2.2.2.1 (cl_in ci _ hc) (cl_ty ci) (cl_tyok ci _ hc) (cl_nm ci _ hc) C.own C.kt.1 hH.1 wW_D hH.2 i h0 hc k hk (va_Nw.use rfl (C.kt.2.1 _ hlink)) (fun x h => h) hfin' (cl_tyok ci _ hc k hk) (hn _) (hfit _) (by simp; omega) hd fun H1 locs1 hP hD hS => ?_
    rw [hw] at hP
    exact kk p l e R s m args below meth c G H1 locs1 ls C hn0 ⟨hP, hS⟩ hl
/-- the same of a final field, in a constructor -/
theorem Wx_putF {S : Sx} {n pc : Nat} {lv st : List Value} {σ τ : Hp} {idx ci i k : Nat} {v : Value} (hd : decode S.1.1 pc = .ok (.putfield idx, 3)) (hf : fok S.1.2.1 idx ci k) (hs : sh i = .inl ci) (hi : i < n)
    (hn : ∀ B, narrow (cl_ty ci k) (cv B v) = cv B v) (hfit : ∀ B, fits (cl_ty ci k) (cv B v) = true) (hfin : clf ci k = true) (hini : S.1.2.2.2.2 = true) (hdecl : (cl_all[ci]?).map (fun q => (q.2.1 k).1) = some S.1.2.1)
    (hgood : ∃ (C : String) (T : u_T) (N : Nat), cl_all[ci]? = some (C, T, N) ∧ Cond.fieldLink S.1.2.1 idx (T k).1 (T k).2.1 (T k).2.2.1 ∈ gw)
    (ho : ∀ G j, j ≠ i → wE G τ j = wE G σ j) (he : ∀ G : Gx, wE G τ i = .inr (ci, ((List.range (cl_n ci)).map (fun k => cv G.2.2 (fv σ ci i k))).set k (cv G.2.2 v)))
    (kk : Wx S n (pc + 3) lv st τ) : Wx S n pc lv (v :: .ref i :: st) σ := by
  intro p l e R s m args below meth c G H locs ls C hn0 hH hl
  obtain ⟨Cn, T, N, hc, hk, -⟩ := hf
  obtain ⟨Cn', T', N', hc', hlink⟩ := hgood
  rw [hc] at hc' hdecl
  cases hc'
  have hN : N = cl_n ci := cl_len ci _ hc
  have h0 : (wW G n σ)[i]? = some (G.2.2 + i, .inr (ci, (List.range (cl_n ci)).map (fun k => cv G.2.2 (fv σ ci i k)))) := by rw [wW_at hi, wE_obj hs]
  have hw : (wW G n σ).set i (G.2.2 + i, .inr (ci, ((List.range (cl_n ci)).map (fun k => cv G.2.2 (fv σ ci i k))).set k (cv G.2.2 v))) = wW G n τ := by
    rw [← he G]
    exact wW_set (fun j _ hj => ho G j hj)
  have hfin' : (T k).2.2.2 = true := by
    have h1 := hfin
    unfold clf at h1
    rw [hc] at h1
    exact h1
  refine va_putF C.1 C.2.1 C.2.2.2.2.2.1 (cl_in ci _ hc) (cl_ty ci) (cl_tyok ci _ hc) (cl_nm ci _ hc) C.own C.kt.1 hH.1 wW_D hH.2 i h0 hc k hk (C.wd hlink) (fun x h => h) hfin' (C.2.2.2.2.2.2.2.1 hini) (Option.some.inj hdecl) (cl_tyok ci _ hc k hk) (hn _) (hfit _) (by simp; omega) hd fun H1 locs1 hP hD hS => ?_
  rw [hw] at hP
  exact kk p l e R s m args below meth c G H1 locs1 ls C hn0 ⟨hP, hS⟩ hl
theorem Wx_putI {S : Sx} {n pc : Nat} {lv st : List Value} {σ : Hp} {idx i : Nat} {x : Int32} (ci k : Nat) (hd : decode S.1.1 pc = .ok (.putfield idx, 3)) (hf : fok S.1.2.1 idx ci k) (hs : sh i = .inl ci) (hi : i < n) (ht : cl_ty ci k = .int) (hfin : clf ci k = false) (kk : Wx S n (pc + 3) lv st (pI σ i k x)) : Wx S n pc lv (.int x :: .ref i :: st) σ :=
  Wx_put hd hf hs hi (fun _ => by rw [ht]; rfl) (fun _ => by rw [ht]; rfl) hfin (fun G j h => wE_other h) (fun G => wE_pI hs (by rw [ht]; rfl)) kk
theorem Wx_putZ {S : Sx} {n pc : Nat} {lv st : List Value} {σ : Hp} {idx i : Nat} {x : Int32} (ci k : Nat) (hd : decode S.1.1 pc = .ok (.putfield idx, 3)) (hf : fok S.1.2.1 idx ci k) (hs : sh i = .inl ci) (hi : i < n) (ht : cl_ty ci k = .boolean) (hfin : clf ci k = false) (hx : x = 0 ∨ x = 1) (kk : Wx S n (pc + 3) lv st (pI σ i k x)) : Wx S n pc lv (.int x :: .ref i :: st) σ :=
  Wx_put hd hf hs hi (fun _ => by rw [ht]; rcases hx with rfl | rfl <;> rfl) (fun _ => by rw [ht]; rcases hx with rfl | rfl <;> rfl) hfin (fun G j h => wE_other h) (fun G => wE_pI hs (by rw [ht]; rfl)) kk
def isR (ty : FieldType) : Bool := match ty with
  | .object _ => true
  | .array _ => true
  | _ => false
theorem isR_I {ty : FieldType} (h : isR ty = true) : isI ty = false := by cases ty <;> first | rfl | cases h
theorem isR_fit {ty : FieldType} (h : isR ty = true) (i : Nat) : narrow ty (.ref i) = .ref i ∧ fits ty (.ref i) = true := by cases ty <;> first | exact ⟨rfl, rfl⟩ | cases h
theorem Wx_putR {S : Sx} {n pc : Nat} {lv st : List Value} {σ : Hp} {idx i j : Nat} (ci k : Nat) (hd : decode S.1.1 pc = .ok (.putfield idx, 3)) (hf : fok S.1.2.1 idx ci k) (hs : sh i = .inl ci) (hi : i < n) (ht : isR (cl_ty ci k) = true) (hfin : clf ci k = false) (kk : Wx S n (pc + 3) lv st (pR σ i k (some j))) : Wx S n pc lv (.ref j :: .ref i :: st) σ :=
  Wx_put hd hf hs hi (fun B => (isR_fit ht _).1) (fun B => (isR_fit ht _).2) hfin (fun G j h => wE_otherR h) (fun G => wE_pR hs (isR_I ht)) kk
theorem Wx_putRF {S : Sx} {n pc : Nat} {lv st : List Value} {σ : Hp} {idx i j : Nat} (ci k : Nat) (hd : decode S.1.1 pc = .ok (.putfield idx, 3)) (hf : fok S.1.2.1 idx ci k) (hs : sh i = .inl ci) (hi : i < n) (ht : isR (cl_ty ci k) = true) (hfin : clf ci k = true) (hini : S.1.2.2.2.2 = true) (hdecl : (cl_all[ci]?).map (fun q => (q.2.1 k).1) = some S.1.2.1)
    (hgood : ∃ (C : String) (T : u_T) (N : Nat), cl_all[ci]? = some (C, T, N) ∧ Cond.fieldLink S.1.2.1 idx (T k).1 (T k).2.1 (T k).2.2.1 ∈ gw) (kk : Wx S n (pc + 3) lv st (pR σ i k (some j))) : Wx S n pc lv (.ref j :: .ref i :: st) σ :=
  Wx_putF hd hf hs hi (fun B => (isR_fit ht _).1) (fun B => (isR_fit ht _).2) hfin hini hdecl hgood (fun G j h => wE_otherR h) (fun G => wE_pR hs (isR_I ht)) kk
/-! rows -/
theorem tyL_at (cy : Nat → ClassId) : (tyL cy)[0]? = some (cy 0, .byte) ∧ (tyL cy)[1]? = some (cy 1, .int) ∧ (tyL cy)[2]? = some (cy 2, .long) ∧ (tyL cy)[3]? = some (cy 3, .boolean) := ⟨rfl, rfl, rfl, rfl⟩
theorem Wx_iaload {S : Sx} {n pc : Nat} {lv st : List Value} {σ : Hp} {i : Nat} {j : Int32} (len : Nat) (hd : decode S.1.1 pc = .ok (.iaload, 1)) (hs : sh i = .inr (1, len)) (hi : i < n) (hj : vp_in j len) (kk : Wx S n (pc + 1) lv (.int (gA σ i j.toNatClampNeg) :: st) σ) : Wx S n pc lv (.int j :: .ref i :: st) σ := by
  intro p l e R s m args below meth c G H locs ls C hn hH hl
  exact va_iald C.1 C.2.1 C.kt.1 hH.1 i 1 (by rw [wW_at hi, wE_row hs]; rfl) (tyL_at _).2.1 hj hd (kk p l e R s m args below meth c G H locs ls C hn hH hl)
theorem Wx_baload {S : Sx} {n pc : Nat} {lv st : List Value} {σ : Hp} {i : Nat} {j : Int32} (len : Nat) (hd : decode S.1.1 pc = .ok (.baload, 1)) (hs : sh i = .inr (0, len)) (hi : i < n) (hj : vp_in j len) (kk : Wx S n (pc + 1) lv (.int (gA σ i j.toNatClampNeg) :: st) σ) : Wx S n pc lv (.int j :: .ref i :: st) σ := by
  intro p l e R s m args below meth c G H locs ls C hn hH hl
  exact va_bald C.1 C.2.1 C.kt.1 hH.1 i 0 (by rw [wW_at hi, wE_row hs]; rfl) (tyL_at _).1 hj hd (kk p l e R s m args below meth c G H locs ls C hn hH hl)
theorem Wx_zaload {S : Sx} {n pc : Nat} {lv st : List Value} {σ : Hp} {i : Nat} {j : Int32} (len : Nat) (hd : decode S.1.1 pc = .ok (.baload, 1)) (hs : sh i = .inr (3, len)) (hi : i < n) (hj : vp_in j len) (kk : Wx S n (pc + 1) lv (.int (gA σ i j.toNatClampNeg) :: st) σ) : Wx S n pc lv (.int j :: .ref i :: st) σ := by
  intro p l e R s m args below meth c G H locs ls C hn hH hl
  exact va_zald C.1 C.2.1 C.kt.1 hH.1 i 3 (by rw [wW_at hi, wE_row hs]; rfl) (tyL_at _).2.2.2 hj hd (kk p l e R s m args below meth c G H locs ls C hn hH hl)
theorem Wx_laload {S : Sx} {n pc : Nat} {lv st : List Value} {σ : Hp} {i : Nat} {j : Int32} (len : Nat) (hd : decode S.1.1 pc = .ok (.laload, 1)) (hs : sh i = .inr (2, len)) (hi : i < n) (hj : vp_in j len) (kk : Wx S n (pc + 1) lv (.long (gL σ i j.toNatClampNeg) :: st) σ) : Wx S n pc lv (.int j :: .ref i :: st) σ := by
  intro p l e R s m args below meth c G H locs ls C hn hH hl
  exact va_lald C.1 C.2.1 C.kt.1 hH.1 i 2 (by rw [wW_at hi, wE_row hs]; rfl) (tyL_at _).2.2.1 hj hd (kk p l e R s m args below meth c G H locs ls C hn hH hl)
theorem Wx_alen {S : Sx} {n pc : Nat} {lv st : List Value} {σ : Hp} {i t : Nat} (len : Nat) (hd : decode S.1.1 pc = .ok (.arraylength, 1)) (hs : sh i = .inr (t, len)) (ht : t < 4) (hi : i < n) {v : Int32} (hv : Int32.ofNat len = v) (kk : Wx S n (pc + 1) lv (.int v :: st) σ) : Wx S n pc lv (.ref i :: st) σ := by
  intro p l e R s m args below meth c G H locs ls C hn hH hl
  have h : ∃ ty, (tyL G.2.1)[t]? = some (G.2.1 t, ty) := by
    match t, ht with
    | 0, _ => exact ⟨_, rfl⟩
    | 1, _ => exact ⟨_, rfl⟩
    | 2, _ => exact ⟨_, rfl⟩
    | 3, _ => exact ⟨_, rfl⟩
  obtain ⟨ty, hty⟩ := h
  exact va_alen C.1 C.2.1 C.kt.1 hH.1 i t (x := rowE t len σ i) (by rw [wW_at hi, wE_row hs]) hty hv hd (kk p l e R s m args below meth c G H locs ls C hn hH hl)
theorem wE_pA {G : Gx} {σ : Hp} {i t len j : Nat} {v : Int32} (hs : sh i = .inr (t, len)) (ht : t ≠ 2) : wE G (pA σ i j v) i = .inl (G.2.1 t, len, .inl (upd (gA σ i) j v)) := by
  rw [wE_row hs]
  unfold rowE
  rw [if_neg ht]
  congr 4
  funext b
  simp [gA, pA, up2, upd]
theorem wE_pL {G : Gx} {σ : Hp} {i len j : Nat} {v : Int64} (hs : sh i = .inr (2, len)) : wE G (pL σ i j v) i = .inl (G.2.1 2, len, .inr (.inl (vp_updL (gL σ i) j v))) := by
  rw [wE_row hs]
  unfold rowE
  rw [if_pos rfl]
  congr 5
  funext b
  simp [gL, pL, up2, vp_updL]
theorem Wx_iastore {S : Sx} {n pc : Nat} {lv st : List Value} {σ : Hp} {i : Nat} {j x : Int32} (len : Nat) (hd : decode S.1.1 pc = .ok (.iastore, 1)) (hs : sh i = .inr (1, len)) (hi : i < n) (hj : vp_in j len) (kk : Wx S n (pc + 1) lv st (pA σ i j.toNatClampNeg x)) : Wx S n pc lv (.int x :: .int j :: .ref i :: st) σ := by
  intro p l e R s m args below meth c G H locs ls C hn hH hl
  refine va_iast C.1 C.2.1 C.kt.1 hH.1 wW_D hH.2 i 1 (by rw [wW_at hi, wE_row hs]; rfl) (tyL_at _).2.1 hj hd fun H1 locs1 hP hD hS => ?_
  rw [← wE_pA (σ := σ) hs (by decide), wW_set (fun j _ h => wE_otherA h)] at hP
  exact kk p l e R s m args below meth c G H1 locs1 ls C hn ⟨hP, hS⟩ hl
theorem Wx_bastore {S : Sx} {n pc : Nat} {lv st : List Value} {σ : Hp} {i : Nat} {j x : Int32} (len : Nat) (hd : decode S.1.1 pc = .ok (.bastore, 1)) (hs : sh i = .inr (0, len)) (hi : i < n) (hj : vp_in j len) (kk : Wx S n (pc + 1) lv st (pA σ i j.toNatClampNeg x.toInt8.toInt32)) : Wx S n pc lv (.int x :: .int j :: .ref i :: st) σ := by
  intro p l e R s m args below meth c G H locs ls C hn hH hl
  refine va_bast C.1 C.2.1 C.kt.1 hH.1 wW_D hH.2 i 0 (by rw [wW_at hi, wE_row hs]; rfl) (tyL_at _).1 hj hd fun H1 locs1 hP hD hS => ?_
  rw [vp_nar_byte, ← wE_pA (σ := σ) hs (by decide), wW_set (fun j _ h => wE_otherA h)] at hP
  exact kk p l e R s m args below meth c G H1 locs1 ls C hn ⟨hP, hS⟩ hl
theorem Wx_zastore {S : Sx} {n pc : Nat} {lv st : List Value} {σ : Hp} {i : Nat} {j x : Int32} (len : Nat) (hd : decode S.1.1 pc = .ok (.bastore, 1)) (hs : sh i = .inr (3, len)) (hi : i < n) (hj : vp_in j len) (hx : x = 0 ∨ x = 1) (kk : Wx S n (pc + 1) lv st (pA σ i j.toNatClampNeg x)) : Wx S n pc lv (.int x :: .int j :: .ref i :: st) σ := by
  intro p l e R s m args below meth c G H locs ls C hn hH hl
  refine va_zast C.1 C.2.1 C.kt.1 hH.1 wW_D hH.2 i 3 (by rw [wW_at hi, wE_row hs]; rfl) (tyL_at _).2.2.2 hj hd fun H1 locs1 hP hD hS => ?_
  rw [show vp_nar .boolean x = x by rcases hx with rfl | rfl <;> decide, ← wE_pA (σ := σ) hs (by decide), wW_set (fun j _ h => wE_otherA h)] at hP
  exact kk p l e R s m args below meth c G H1 locs1 ls C hn ⟨hP, hS⟩ hl
theorem Wx_lastore {S : Sx} {n pc : Nat} {lv st : List Value} {σ : Hp} {i : Nat} {j : Int32} {x : Int64} (len : Nat) (hd : decode S.1.1 pc = .ok (.lastore, 1)) (hs : sh i = .inr (2, len)) (hi : i < n) (hj : vp_in j len) (kk : Wx S n (pc + 1) lv st (pL σ i j.toNatClampNeg x)) : Wx S n pc lv (.long x :: .int j :: .ref i :: st) σ := by
  intro p l e R s m args below meth c G H locs ls C hn hH hl
  refine va_last C.1 C.2.1 C.kt.1 hH.1 wW_D hH.2 i 2 (by rw [wW_at hi, wE_row hs]; rfl) (tyL_at _).2.2.1 hj hd fun H1 locs1 hP hD hS => ?_
  rw [← wE_pL (σ := σ) hs, wW_set (fun j _ h => wE_otherL h)] at hP
  exact kk p l e R s m args below meth c G H1 locs1 ls C hn ⟨hP, hS⟩ hl
