/-! ===== glue ===== -/
theorem Wx_weakE {M : MI} {d n0 nF : Nat} {th : Bool} {Q : Oc → Hp → Prop} {E : State → Code → Prop} {n pc : Nat} {lv st : List Value} {σ : Hp} (h : Wx (M, d, n0, nF, th, Q, fun _ _ => True) n pc lv st σ) : Wx (M, d, n0, nF, th, Q, E) n pc lv st σ :=
  fun p l e R s m args below meth c G H locs ls C hn hH hl => h p l e R s m args below meth c G H locs ls ⟨C.1, C.2.1, C.2.2.1, C.2.2.2.1, C.2.2.2.2.1, C.2.2.2.2.2.1, C.2.2.2.2.2.2.1, C.2.2.2.2.2.2.2.1, C.2.2.2.2.2.2.2.2.1, C.2.2.2.2.2.2.2.2.2.1, C.2.2.2.2.2.2.2.2.2.2.1, trivial⟩ hn hH hl
/-- a run of the interpreter is a contract -/
theorem Cx_ex (k f d : Nat) {av : List Value} {σ τ : Hp} {v : Option Value} (hlen : (lvD av).length ≤ (mt k).2.2.2.1) (h : ex mt f d (mt k) 0 (lvE av (mt k).2.2.2.1) [] σ = some (.inl v, τ)) : Cx (mt k).1 (mt k).2.1 (mt k).2.2.2.1 (mt k).2.2.2.2.1 d 122 122 av σ (fun o τ' => o = .inl v ∧ τ' = τ) :=
  Cx_of _ false (mt_ok k).1 rfl (fun q => by cases q) (Nat.le_refl _) rfl hlen (ex_sound mt_ok f d (mt k) 0 _ [] σ v τ (mt_ok k) (by simp [lvE]; omega) h)
theorem CxT_ex (k f d : Nat) {av : List Value} {σ τ : Hp} {o : Oc} (hlen : (lvD av).length ≤ (mt k).2.2.2.1) (h : ex mt f d (mt k) 0 (lvE av (mt k).2.2.2.1) [] σ = some (o, τ)) : CxT (mt k).1 (mt k).2.1 (mt k).2.2.2.1 (mt k).2.2.2.2.1 d av σ (fun o' τ' => o' = o ∧ τ' = τ) :=
  CxT_of _ (mt_ok k).1 rfl rfl hlen (ex_soundT mt_ok f d (mt k) 0 _ [] σ o τ (mt_ok k) (by simp [lvE]; omega) h)
/-- the claim's walk out of an invariant that every call keeps -/
theorem whole_of {p : Program} {e : Env} {s : State} {m : MethodId} {below : List Frame} {meth : Method} {c : Code} (l : Launch) {b L : Nat} {xs : Nat → Int32} (hL : L ≤ 384) (C0 : lw_At p s m meth c b L xs) (I : Nat → Hp → Prop) (h0 : I 0 σF) (hob : ∀ j, j < 64 → Obs (I j) (I (j + 1))) :
    W p l e room_1 s m #[Value.ref b] below meth c s.heap [] 0 0 (lw_Z below #[Value.ref b] s) (entryFrame m ([Value.ref b] : List Value).toArray 4) :=
  law_of l C0 (law_body hL 64 (by decide) (by omega) I h0 hob)
