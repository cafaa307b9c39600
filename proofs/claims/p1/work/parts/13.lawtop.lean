/-! ===== the law's start: classes, rows, statics; its end ===== -/
theorem kn_class {s : State} {args : Array Value} (hts : ∀ w ∈ lw_tbl, w.before args s = true) : ∀ ci : Nat, ∃ d : ClassId × (Nat → Nat), ∀ q, cl_all[ci]? = some q → u_Kn s q.1 q.2.1 q.2.2 d.1 d.2 := by
  have key : ∀ (ci : Nat) (q : vw_C) (n : Nat), cl_all[ci]? = some q → Cond.instantiable q.1 n ∈ gw → ∃ d : ClassId × (Nat → Nat), ∀ q, cl_all[ci]? = some q → u_Kn s q.1 q.2.1 q.2.2 d.1 d.2 := by
    intro ci q n hq hi
    obtain ⟨cC, iS, hk⟩ := u_known (n := n) (fun w hw => hts w (gw_tbl hw)) (cl_in ci q hq) (hts _ (gw_tbl hi))
    refine ⟨(cC, iS), fun q' hq' => ?_⟩
    rw [hq] at hq'
    cases hq'
    exact hk
  intro ci
  match ci with
  | 0 => exact key 0 _ _ rfl in_X0
  | 1 => exact key 1 _ _ rfl in_X1
  | 2 => exact key 2 _ _ rfl in_X2
  | 3 => exact key 3 _ _ rfl in_X3
  | 4 => exact key 4 _ _ rfl in_X4
  | 5 => exact key 5 _ _ rfl in_X5
  | 6 => exact key 6 _ _ rfl in_X6
  | 7 => exact key 7 _ _ rfl in_X7
  | 8 => exact key 8 _ _ rfl in_X8
  | 9 => exact key 9 _ _ rfl in_X9
  | 10 => exact key 10 _ _ rfl in_X10
  | 11 => exact key 11 _ _ rfl in_X11
  | 12 => exact key 12 _ _ rfl in_X12
  | 13 => exact key 13 _ _ rfl in_X13
  | 14 => exact key 14 _ _ rfl in_X14
  | k + 15 => exact ⟨(0, fun _ => 0), fun q hq => by simp [cl_all] at hq⟩
theorem kn_row {s : State} {args : Array Value} {ty : FieldType} (h : (Cond.arrayClass ty).before args s = true) (ht : isR ty = false) : ∃ c : ClassId, ArrOfT s c ty ∧ va_RA s c ty := by
  obtain ⟨c, k, comp, h1, h2, h3⟩ := Cond.arrayClass_spec h
  refine ⟨c, fun n z => ⟨fun k h => (by cases h), k, h2, comp, h3⟩, ?_⟩
  cases ty <;> first | exact h1 | cases ht
set_option maxRecDepth 100000 in
theorem kt_start {p : Program} {s : State} {m : MethodId} {meth : Method} {c : Code} {b L : Nat} {xs : Nat → Int32} (C0 : lw_At p s m meth c b L xs) : ∃ G : Gx, G.2.2 = s.heap.size ∧ Kt G s := by
  obtain ⟨hx, hb, hr, hml, hown, hts, hX, hbl, hlocks, hgv⟩ := C0
  obtain ⟨d, hd⟩ := Classical.skolem.mp (kn_class hts)
  obtain ⟨c0, h0⟩ := kn_row (hts _ (gw_tbl ac_byte)) rfl
  obtain ⟨c1, h1⟩ := kn_row (hts _ (gw_tbl ac_int)) rfl
  obtain ⟨c2, h2⟩ := kn_row (hts _ (gw_tbl ac_long)) rfl
  obtain ⟨c3, h3⟩ := kn_row (hts _ (gw_tbl ac_boolean)) rfl
  refine ⟨((fun ci => (d ci).1, fun ci => (d ci).2), fun t => match t with | 0 => c0 | 1 => c1 | 2 => c2 | _ => c3, s.heap.size), rfl, ⟨fun ci q hq => hd ci q hq, fun k q hq => ?_⟩, fun w hw => ?_, ?_, ?_⟩
  · match k, hq with
    | 0, hq => cases hq; exact h0
    | 1, hq => cases hq; exact h1
    | 2, hq => cases hq; exact h2
    | 3, hq => cases hq; exact h3
    | k + 4, hq => simp [tyL] at hq
  · have h2 := (List.mem_filter.mp hw).2
    have h3 := hts w (nw_tbl hw)
    cases w <;> first | exact va_Nw.of rfl h3 | cases h2
  · exact va_Zqof (hts _ (tbl_7 24 rfl)) (hts _ (tbl_1 14 rfl)) (flat_of_before _ hgv _ (by decide +kernel)) (fun a h q => absurd h (Nat.not_lt.mpr q))
  · exact va_Zqof (hts _ (tbl_7 26 rfl)) (hts _ (tbl_1 14 rfl)) (flat_of_before _ hgv _ (by decide +kernel)) (fun a h q => absurd h (Nat.not_lt.mpr q))
/-- nothing is there yet -/
def σ0 : Hp := (fun _ _ => 0, fun _ _ => none, fun _ _ => 0, fun _ _ => 0)
def SL (b L : Nat) (xs : Nat → Int32) : Sx := ((code, RL, ret, 4, false), 1000, 0, 122, false, fun o _ => o = .inl (some (.int 1)), fun s _ => va_X b L xs s s.heap ∧ b < s.heap.size)
theorem law_of {p : Program} {e : Env} {s : State} {m : MethodId} {below : List Frame} {meth : Method} {c : Code} (l : Launch) {b L : Nat} {xs : Nat → Int32} (C0 : lw_At p s m meth c b L xs) (body : Wx (SL b L xs) 0 0 [.retAddr (b + 1), .retAddr 0, .retAddr 0, .retAddr 0] [] σ0) : W p l e room_1 s m #[Value.ref b] below meth c s.heap [] 0 0 (lw_Z below #[Value.ref b] s) (entryFrame m ([Value.ref b] : List Value).toArray 4) := by
  obtain ⟨G, hB, hKt⟩ := kt_start C0
  obtain ⟨hx, hb, hr, hml, hown, hts, hX, hbl, hlocks, hgv⟩ := C0
  have hle : sl 122 ≤ 7302232 := by decide +kernel
  have C : CX (SL b L xs) p room_1 s m #[Value.ref b] meth c G := ⟨hx, hb, hr, hml, hown, fun w hw => hts w (gw_tbl hw), hlocks, (fun h => by cases h), ⟨(show 1000 ≤ 2048 by decide), (show 30 * 1000 ≤ 84000 by decide), (show 122 - 0 ≤ 600002 by decide), (show sl 122 - sl 0 ≤ 7302232 by decide +kernel)⟩, hKt, (by rw [hB]; rfl), hX, hbl⟩
  have hl := lv_entry ([.ref b]) (n := 4) (Nat.le_of_ble_eq_true rfl)
  rw [lg_entry_eq]
  have h := body p l e room_1 s m #[Value.ref b] below meth c G s.heap [] _ C ⟨Nat.le_refl _, (show 0 ≤ 122 by decide)⟩ ⟨(fun k q hq => by simp [wW] at hq), va_S.rf⟩ ⟨hl.1, hl.2.1, fun i v hi hk => by
    match i, hi with
    | 0, hi => cases hi; exact hl.2.2 (0, .ref b) (by simp [lv_args])
    | 1, hi => cases hi; cases hk
    | 2, hi => cases hi; cases hk
    | 3, hi => cases hi; cases hk
    | i + 4, hi => simp at hi⟩
  refine W.mono (fun t q => ?_) h
  obtain ⟨o, h1, h2, ⟨⟨o', τ, hQ, ho, -⟩, -⟩, h4, Lc, h5, h6, h7⟩ := q
  have hQ : o' = .inl (some (.int 1)) := hQ
  subst hQ
  refine ⟨o, h1, h2, ho, ⟨_, ho⟩, h5, ?_⟩
  refine h6.weaken (fun y hy hlt => ?_) (show 122 - 0 ≤ 600002 by decide) (show sl 122 - sl 0 ≤ 7302232 by decide +kernel)
  exact absurd hlt (Nat.not_lt.mpr (by rw [← hB]; exact h7 y hy))
theorem Wx_aload0X {S : Sx} {n pc : Nat} {st : List Value} {σ : Hp} {tl : List Value} {b : Nat} (hd : decode S.1.1 pc = .ok (.aload_n 0, 1)) (k : Wx S n (pc + 1) (.retAddr (b + 1) :: tl) (.retAddr (b + 1) :: st) σ) : Wx S n pc (.retAddr (b + 1) :: tl) st σ := by
  intro p l e R s m args below meth c G H locs ls C hn hH hl
  exact lv_aload_n C.1 C.2.1 hd rfl (lvx_at hl (i := 0) (v := .retAddr (b + 1)) rfl rfl) (k p l e R s m args below meth c G H locs ls C hn hH hl)
theorem Wx_slen {b L : Nat} {xs : Nat → Int32} {n pc : Nat} {lv st : List Value} {σ : Hp} (hd : decode code pc = .ok (.arraylength, 1)) (k : Wx (SL b L xs) n (pc + 1) lv (.int (Int32.ofNat L) :: st) σ) : Wx (SL b L xs) n pc lv (.retAddr (b + 1) :: st) σ := by
  intro p l e R s m args below meth c G H locs ls C hn hH hl
  have h0 : s.heap.size = G.2.2 + 0 := C.2.2.2.2.2.2.2.2.2.2.1
  have hX := C.2.2.2.2.2.2.2.2.2.2.2
  exact va_slen C.1 C.2.1 hX.1 hX.2 (A := fun q => G.2.2 ≤ q) (fun h => by have := hX.2; omega) hH.2 hd (k p l e R s m args below meth c G H locs ls C hn hH hl)
theorem Wx_sld {b L : Nat} {xs : Nat → Int32} {n pc : Nat} {lv st : List Value} {σ : Hp} {j : Int32} (hd : decode code pc = .ok (.iaload, 1)) (hj : vp_in j L) (k : Wx (SL b L xs) n (pc + 1) lv (.int (xs j.toNatClampNeg) :: st) σ) : Wx (SL b L xs) n pc lv (.int j :: .retAddr (b + 1) :: st) σ := by
  intro p l e R s m args below meth c G H locs ls C hn hH hl
  have h0 : s.heap.size = G.2.2 + 0 := C.2.2.2.2.2.2.2.2.2.2.1
  have hX := C.2.2.2.2.2.2.2.2.2.2.2
  exact va_sld C.1 C.2.1 hX.1 hX.2 (A := fun q => G.2.2 ≤ q) (fun h => by have := hX.2; omega) hH.2 hj hd (k p l e R s m args below meth c G H locs ls C hn hH hl)
