/-! ===== the interpreter itself ===== -/
/-- jumps: a is the target -/
def opJ (i : Instr) (a pc : Nat) (st : List Value) : Option (Nat × List Value) := match i with
  | .goto _ => some (a, st)
  | .ifCond c _ => match st with
    | .int x :: r => some (cond (cnd c x 0) a (pc + 3), r)
    | _ => none
  | .if_icmp c _ => match st with
    | .int y :: .int x :: r => some (cond (cnd c x y) a (pc + 3), r)
    | _ => none
  | .tableswitch dflt lo hi offs => match st with
    | .int x :: r => match (if x.toInt < lo ∨ hi < x.toInt then some dflt else offs[(x.toInt - lo).toNat]?) with
      | some o => if 0 ≤ (pc : Int) + o then some (((pc : Int) + o).toNat, r) else none
      | none => none
    | _ => none
  | .lookupswitch dflt ps => match st with
    | .int x :: r => if (ps.toList.zip (ps.toList.drop 1)).all (fun (a, next) => a.1 < next.1) = true ∧ 0 ≤ (pc : Int) + Op.lookupswitch.offset ps.toList dflt x.toInt then some (((pc : Int) + Op.lookupswitch.offset ps.toList dflt x.toInt).toNat, r) else none
    | _ => none
  | _ => none
def jok (i : Instr) (a pc : Nat) : Prop := match i with
  | .goto o => (pc : Int) + o = a
  | .ifCond _ o => (pc : Int) + o = a
  | .if_icmp _ o => (pc : Int) + o = a
  | _ => True
theorem cnd_if {α : Sort _} {P : α → Prop} {b : Bool} {x y : α} (h : P (cond b x y)) : (b = true → P x) ∧ (b = false → P y) := by
  cases b
  · exact ⟨(fun q => by cases q), fun _ => h⟩
  · exact ⟨fun _ => h, (fun q => by cases q)⟩
theorem opJ_sound {S : Sx} {n pc len : Nat} {lv st st' : List Value} {σ : Hp} {i : Instr} {a pc' : Nat} (hd : decode S.1.1 pc = .ok (i, len)) (hlen : len = ilen i ∨ (∃ d l h o, i = .tableswitch d l h o) ∨ ∃ d p, i = .lookupswitch d p) (hj : jok i a pc) (h : opJ i a pc st = some (pc', st')) (k : Wx S n pc' lv st' σ) : Wx S n pc lv st σ := by
  cases i
  case goto o =>
    cases h
    rcases hlen with rfl | ⟨_, _, _, _, q⟩ | ⟨_, _, q⟩
    · exact Wx_goto a hd hj k
    · cases q
    · cases q
  case ifCond c o =>
    rcases hlen with rfl | ⟨_, _, _, _, q⟩ | ⟨_, _, q⟩
    · simp only [opJ] at h
      split at h
      · cases h
        have K := cnd_if (P := fun p => Wx S n p lv st' σ) k
        cases c
        · exact Wx_if_eq a hd hj (fun q => K.1 (by simp [cnd, q])) (fun q => K.2 (by simp [cnd, q]))
        · exact Wx_if_ne a hd hj (fun q => K.1 (by simp [cnd, q])) (fun q => K.2 (by simpa [cnd] using q))
        · exact Wx_if_lt a hd hj (fun q => K.1 (by simp [cnd, q])) (fun q => K.2 (by simpa [cnd] using q))
        · exact Wx_if_ge a hd hj (fun q => K.1 (by simp [cnd, q])) (fun q => K.2 (by simpa [cnd] using q))
        · exact Wx_if_gt a hd hj (fun q => K.1 (by simp [cnd, q])) (fun q => K.2 (by simpa [cnd] using q))
        · exact Wx_if_le a hd hj (fun q => K.1 (by simp [cnd, q])) (fun q => K.2 (by simpa [cnd] using q))
      · cases h
    · cases q
    · cases q
  case if_icmp c o =>
    rcases hlen with rfl | ⟨_, _, _, _, q⟩ | ⟨_, _, q⟩
    · simp only [opJ] at h
      split at h
      · cases h
        have K := cnd_if (P := fun p => Wx S n p lv st' σ) k
        cases c
        · exact Wx_icmp_eq a hd hj (fun q => K.1 (by simp [cnd, q])) (fun q => K.2 (by simp [cnd, q]))
        · exact Wx_icmp_ne a hd hj (fun q => K.1 (by simp [cnd, q])) (fun q => K.2 (by simpa [cnd] using q))
        · exact Wx_icmp_lt a hd hj (fun q => K.1 (by simp [cnd, q])) (fun q => K.2 (by simpa [cnd] using q))
        · exact Wx_icmp_ge a hd hj (fun q => K.1 (by simp [cnd, q])) (fun q => K.2 (by simpa [cnd] using q))
        · exact Wx_icmp_gt a hd hj (fun q => K.1 (by simp [cnd, q])) (fun q => K.2 (by simpa [cnd] using q))
        · exact Wx_icmp_le a hd hj (fun q => K.1 (by simp [cnd, q])) (fun q => K.2 (by simpa [cnd] using q))
      · cases h
    · cases q
    · cases q
  case tableswitch dflt lo hi offs =>
    simp only [opJ] at h
    split at h
    · split at h
      · rename_i x r o ho
        split at h
        · rename_i hp
          cases h
          have ht : (pc : Int) + o = ((((pc : Int) + o).toNat : Nat) : Int) := (Int.toNat_of_nonneg hp).symm
          split at ho
          · rename_i hq
            cases ho
            exact Wx_tableOut _ hd hq ht k
          · rename_i hq
            exact Wx_tableIn _ hd (fun z => hq (Or.inl z)) (fun z => hq (Or.inr z)) ho ht k
        · cases h
      · cases h
    · cases h
  case lookupswitch dflt ps =>
    simp only [opJ] at h
    split at h
    · split at h
      · rename_i hp
        cases h
        exact Wx_lookup _ hd hp.1 rfl (Int.toNat_of_nonneg hp.2).symm k
      · cases h
    · cases h
  all_goals cases h
/-- returns -/
def opR (ret : Option FieldType) (i : Instr) (st : List Value) : Option (Option Value) := match i with
  | .ireturn => match st with
    | [.int x] => match ret with
      | some .int => some (some (.int x))
      | some .boolean => if x = 0 ∨ x = 1 then some (some (.int x)) else none
      | _ => none
    | _ => none
  | .lreturn => match st with
    | [.long x] => match ret with
      | some .long => some (some (.long x))
      | _ => none
    | _ => none
  | .return_ => match st with
    | [] => match ret with
      | none => some none
      | _ => none
    | _ => none
  | _ => none
theorem opR_sound {S : Sx} {n pc : Nat} {lv st : List Value} {σ : Hp} {i : Instr} {v : Option Value} (hd : decode S.1.1 pc = .ok (i, ilen i)) (hn : n = S.2.2.2.1) (h : opR S.1.2.2.1 i st = some v) (hQ : S.2.2.2.2.2.1 (.inl v) σ) : Wx S n pc lv st σ := by
  cases i
  case ireturn =>
    simp only [opR] at h
    split at h
    · split at h
      · rename_i hr
        cases h
        exact Wx_ireturn hd hr hn hQ
      · rename_i hr
        split at h
        · rename_i hx
          cases h
          exact Wx_zreturn hd hr hx hn hQ
        · cases h
      · cases h
    · cases h
  case lreturn =>
    simp only [opR] at h
    split at h
    · split at h
      · rename_i hr
        cases h
        exact Wx_lreturn hd hr hn hQ
      · cases h
    · cases h
  case return_ =>
    simp only [opR] at h
    split at h
    · split at h
      · rename_i hr
        cases h
        exact Wx_return hd hr hn hQ
      · cases h
    · cases h
  all_goals cases h
/-- calls: the arguments and the rest of the stack -/
def opC (mt : Nat → Mi) (i : Instr) (a b : Nat) (t : Int) (st : List Value) : Option (List Value × List Value) := match i with
  | .invokevirtual _ => match st.drop b with
    | .ref o :: r => cond (decide (t < 7) && decide (o < 122) && decide (sh o = .inl (mt a).2.2.1) && decide (wsum r ≤ 8) && decide ((st.take b).length = b)) (some (.ref o :: (st.take b).reverse, r)) none
    | _ => none
  | .invokestatic _ => cond (decide (t < 7) && decide (wsum (st.drop b) ≤ 8) && decide ((st.take b).length = b)) (some ((st.take b).reverse, st.drop b)) none
  | _ => none
def cok (mt : Nat → Mi) (own : String) (i : Instr) (a b : Nat) : Prop := match i with
  | .invokevirtual x => mok (mt a).1 (mt a).2.1 (mt a).2.2.2.1 (mt a).2.2.2.2.1 b ∧ lok own x (mt a).1 ∧ iok (mt a).1 ∧ (cl_all[(mt a).2.2.1]?).map (fun q => q.1) = some (mt a).1.cls
  | .invokestatic x => mok (mt a).1 (mt a).2.1 (mt a).2.2.2.1 (mt a).2.2.2.2.1 b ∧ lok own x (mt a).1 ∧ Cond.static (mt a).1 ∈ gw
  | _ => True
theorem opC_t {i : Instr} {a b : Nat} {t : Int} {mt : Nat → Mi} {st : List Value} {q : List Value × List Value} (h : opC mt i a b t st = some q) : t < 7 := by
  cases i
  case invokevirtual x =>
    simp only [opC] at h
    split at h
    · obtain ⟨hb, h⟩ := cond_some h
      simp only [Bool.and_eq_true, decide_eq_true_eq, Bool.not_eq_true', decide_eq_false_iff_not] at hb
      exact hb.1.1.1.1
    · cases h
  case invokestatic x =>
    simp only [opC] at h
    obtain ⟨hb, h⟩ := cond_some h
    simp only [Bool.and_eq_true, decide_eq_true_eq, Bool.not_eq_true', decide_eq_false_iff_not] at hb
    exact hb.1.1
  all_goals cases h
theorem opC_sound {S : Sx} {pc : Nat} {lv st av r : List Value} {σ τ : Hp} {i : Instr} {a b d : Nat} {t : Int} {mt : Nat → Mi} {v : Option Value} (hd : decode S.1.1 pc = .ok (i, ilen i)) (hc : cok mt S.1.2.1 i a b) (h : opC mt i a b t st = some (av, r)) (hF : S.2.2.2.1 = 122) (hD : d + 1 ≤ S.2.1)
    (hC : Cx (mt a).1 (mt a).2.1 (mt a).2.2.2.1 (mt a).2.2.2.2.1 d 122 122 av σ (fun o τ' => o = .inl v ∧ τ' = τ)) (k : Wx S 122 (pc + 3) lv (v.toList ++ r) τ) : Wx S 122 pc lv st σ := by
  have hno : ∀ (i : Nat) (τ' : Hp), ¬ ((Sum.inr i : Oc) = .inl v ∧ τ' = τ) := fun _ _ q => by cases q.1
  have hkk : ∀ (w : Option Value) (τ' : Hp), ((Sum.inl w : Oc) = .inl v ∧ τ' = τ) → Wx S 122 (pc + 3) lv (w.toList ++ r) τ' := by
    rintro w τ' ⟨h1, rfl⟩
    cases h1
    exact k
  cases i
  case invokevirtual x =>
    simp only [opC] at h
    split at h
    · rename_i o r' hst
      obtain ⟨hb, h⟩ := cond_some h
      simp only [Bool.and_eq_true, decide_eq_true_eq] at hb
      cases h
      obtain ⟨h1, h2, h3, h4⟩ := hc
      refine Wx_callV o (mt a).2.2.1 (st.take b).reverse b h1 h2 h3 hb.1.1.2 h4 hb.1.1.1.2 hd hC hD (Nat.le_refl _) (by omega) (by rw [List.length_reverse]; exact hb.2) hb.1.2 ?_ hno hkk
      rw [List.reverse_reverse, ← hst, List.take_append_drop]
    · cases h
  case invokestatic x =>
    simp only [opC] at h
    obtain ⟨hb, h⟩ := cond_some h
    simp only [Bool.and_eq_true, decide_eq_true_eq] at hb
    cases h
    obtain ⟨h1, h2, h3⟩ := hc
    refine Wx_callS (st.take b).reverse b h1 h2 h3 hd hC hD (Nat.le_refl _) (by omega) (by rw [List.length_reverse]; exact hb.2) hb.1.2 ?_ hno hkk
    rw [List.reverse_reverse, List.take_append_drop]
  all_goals cases h
/-- the copying of a row (t = 7), the greater (8) and the lesser (9) of two numbers -/
def opY (i : Instr) (t : Int) (st : List Value) (σ : Hp) : Option (List Value × Hp) := match i with
  | .invokestatic _ => match t with
    | 7 => match st with
      | .int n :: .int dp :: .ref q :: .int sp :: .ref p :: r => match sh p, sh q with
        | .inr (ty, n0), .inr (ty', n1) => cond (decide (p < 122) && decide (q < 122) && decide (ty = ty') && decide (ty < 2) && !decide (n < 0) && !decide (dp < 0) && !decide (sp < 0) && decide (sp.toNatClampNeg + n.toNatClampNeg ≤ n0) && decide (dp.toNatClampNeg + n.toNatClampNeg ≤ n1) && decide (wsum r ≤ 8) && (List.range n.toNatClampNeg).all (fun j => fits (tyA ty) (.int (gA σ p (sp.toNatClampNeg + j))))) (some (r, rA σ q (va_cpy (gA σ p) (gA σ q) sp.toNatClampNeg dp.toNatClampNeg n.toNatClampNeg))) none
        | _, _ => none
      | _ => none
    | 8 => match st with
      | .int y :: .int x :: r => cond (decide (wsum r ≤ 8)) (some (.int (if x < y then y else x) :: r, σ)) none
      | _ => none
    | 9 => match st with
      | .int y :: .int x :: r => cond (decide (wsum r ≤ 8)) (some (.int (if y < x then y else x) :: r, σ)) none
      | _ => none
    | _ => none
  | _ => none
def yok (own : String) (i : Instr) (t : Int) : Prop := match i with
  | .invokestatic x => (t = 7 → Cond.methodLink own x arraycopyName ∈ gw ∧ Cond.native arraycopyName ∈ gw ∧ Cond.static arraycopyName ∈ gw ∧ Cond.initialized "java/lang/System" ∈ gw) ∧
    (t = 8 → Cond.methodLink own x Lib.Math.max.name ∈ gw ∧ Cond.static Lib.Math.max.name ∈ gw ∧ Cond.initialized "java/lang/Math" ∈ gw ∧ Cond.code Lib.Math.max.name Lib.Math.max.code 2 (some .int) ∈ gw) ∧
    (t = 9 → Cond.methodLink own x Lib.Math.min.name ∈ gw ∧ Cond.static Lib.Math.min.name ∈ gw ∧ Cond.initialized "java/lang/Math" ∈ gw ∧ Cond.code Lib.Math.min.name Lib.Math.min.code 2 (some .int) ∈ gw)
  | _ => True
theorem wE_rA {G : Gx} {σ : Hp} {i t len : Nat} {r : Nat → Int32} (hs : sh i = .inr (t, len)) (ht : t ≠ 2) : wE G (rA σ i r) i = .inl (G.2.1 t, len, .inl r) := by
  rw [wE_row hs]
  unfold rowE
  rw [if_neg ht]
  congr 4
  funext b
  simp [gA, rA, upr]
theorem wE_otherRA {G : Gx} {σ : Hp} {i j : Nat} {r : Nat → Int32} (h : j ≠ i) : wE G (rA σ i r) j = wE G σ j := wE_congr rfl rfl (by funext b; simp [gA, rA, upr, h]) rfl
theorem opY_sound {S : Sx} {pc : Nat} {lv st st' : List Value} {σ τ : Hp} {i : Instr} {t : Int} (hd : decode S.1.1 pc = .ok (i, ilen i)) (hy : yok S.1.2.1 i t) (h : opY i t st σ = some (st', τ)) (hD : 1 ≤ S.2.1) (k : Wx S 122 (pc + 3) lv st' τ) : Wx S 122 pc lv st σ := by
  cases i
  case invokestatic x =>
    simp only [opY] at h
    split at h
    · obtain ⟨y1, y2, y3, y4⟩ := hy.1 rfl
      split at h
      · rename_i n dp q sp p r
        split at h
        · rename_i ty n0 ty' n1 hp hq
          obtain ⟨hb, h⟩ := cond_some h
          simp only [Bool.and_eq_true, decide_eq_true_eq, Bool.not_eq_true', decide_eq_false_iff_not] at hb
          obtain ⟨⟨⟨⟨⟨⟨⟨⟨⟨⟨b1, b2⟩, b3⟩, b4⟩, b5⟩, b6⟩, b7⟩, b8⟩, b9⟩, b10⟩, b11⟩ := hb
          cases h
          subst b3
          intro p0 l e R s m args below meth c G H locs ls C hn hH hl
          have hR := C.rm
          have hent : (tyL G.2.1)[ty]? = some (G.2.1 ty, tyA ty) := by
            match ty, b4 with
            | 0, _ => rfl
            | 1, _ => rfl
          have hne : ty ≠ 2 := by omega
          have e0 : wE G σ p = .inl (G.2.1 ty, n0, .inl (gA σ p)) := by rw [wE_row hp]; unfold rowE; rw [if_neg hne]
          have e1 : wE G σ q = .inl (G.2.1 ty, n1, .inl (gA σ q)) := by rw [wE_row hq]; unfold rowE; rw [if_neg hne]
          have hw : ((st'.map (cv G.2.2)).map fun v => v.category).sum ≤ 8 := by rw [wsum_cv]; exact b10
          refine va_copyi C.1 C.2.1 (C.2.2.2.1.trans hl.1.symm) C.own (C.wd y1) (C.wd y2) (C.wd y3) (C.wd y4) C.kt.1 hH.1 wW_D hH.2 p q ty ty (by rw [wW_at b1, e0]) (by rw [wW_at b2, e1]) hent hent ?_ b7 b6 b5 b8 b9 (fun j hj => List.all_eq_true.mp b11 j (List.mem_range.mpr hj)) (Nat.le_trans hD hR.1) (Nat.le_trans (Nat.add_le_add_right hw _) ?_) hd fun H1 locs1 hP hD1 hS => ?_
          · match ty, b4 with
            | 0, _ => rfl
            | 1, _ => rfl
          · have : nativeFrameWords "java/lang/System" "arraycopy" 5 + 11 ≤ 22 := by decide
            omega
          · rw [← wE_rA (σ := σ) hq hne, wW_set (fun j _ hj => wE_otherRA hj)] at hP
            exact k p0 l e R s m args below meth c G H1 locs1 ls C hn ⟨hP, hS⟩ hl
        · cases h
      · cases h
    · obtain ⟨y1, y2, y3, y4⟩ := hy.2.1 rfl
      split at h
      · rename_i y x r
        obtain ⟨hb, h⟩ := cond_some h
        have hb := of_decide_eq_true hb
        cases h
        intro p0 l e R s m args below meth c G H locs ls C hn hH hl
        have hR := C.rm
        have hs3 := sl_mono hn.2
        have hw : ((r.map (cv G.2.2)).map fun v => v.category).sum ≤ 8 := by rw [wsum_cv]; exact hb
        exact va_mmax C.1 C.2.1 (C.2.2.2.1.trans hl.1.symm) C.own (C.wd y1) (C.wd y2) (C.wd y3) (C.wd y4) (Nat.le_trans hD hR.1) (Nat.le_trans (Nat.add_le_add_right hw 13) (by omega)) (by omega) (by omega) hd (k p0 l e R s m args below meth c G H locs ls C hn hH hl)
      · cases h
    · obtain ⟨y1, y2, y3, y4⟩ := hy.2.2 rfl
      split at h
      · rename_i y x r
        obtain ⟨hb, h⟩ := cond_some h
        have hb := of_decide_eq_true hb
        cases h
        intro p0 l e R s m args below meth c G H locs ls C hn hH hl
        have hR := C.rm
        have hs3 := sl_mono hn.2
        have hw : ((r.map (cv G.2.2)).map fun v => v.category).sum ≤ 8 := by rw [wsum_cv]; exact hb
        exact va_mmin C.1 C.2.1 (C.2.2.2.1.trans hl.1.symm) C.own (C.wd y1) (C.wd y2) (C.wd y3) (C.wd y4) (Nat.le_trans hD hR.1) (Nat.le_trans (Nat.add_le_add_right hw 13) (by omega)) (by omega) (by omega) hd (k p0 l e R s m args below meth c G H locs ls C hn hH hl)
      · cases h
    · cases h
  all_goals cases h
/-- a throw -/
def opT (i : Instr) (st : List Value) : Option Nat := match i with
  | .athrow => match st with
    | .ref o :: _ => some o
    | _ => none
  | _ => none
def ex (mt : Nat → Mi) : Nat → Nat → Mi → Nat → List Value → List Value → Hp → Option (Oc × Hp)
  | 0, _, _, _, _, _, _ => none
  | f + 1, d, M, pc, lv, st, σ => match lk M.2.2.2.2.2 pc with
    | none => none
    | some r => match opS r.1 r.2.2.2.2 st with
      | some st' => ex mt f d M (pc + r.2.1) lv st' σ
      | none => match opL r.1 lv st with
        | some q => ex mt f d M (pc + r.2.1) q.1 q.2 σ
        | none => match opH r.1 r.2.2.1 r.2.2.2.1 r.2.2.2.2 st σ with
          | some q => ex mt f d M (pc + r.2.1) lv q.1 q.2
          | none => match opJ r.1 r.2.2.1 pc st with
            | some q => ex mt f d M q.1 lv q.2 σ
            | none => match opR M.2.2.2.2.1 r.1 st with
              | some v => some (.inl v, σ)
              | none => match opT r.1 st with
                | some o => some (.inr o, σ)
                | none => match d with
                  | 0 => none
                  | d' + 1 => match opY r.1 r.2.2.2.2 st σ with
                    | some q => ex mt f (d' + 1) M (pc + 3) lv q.1 q.2
                    | none => match opC mt r.1 r.2.2.1 r.2.2.2.1 r.2.2.2.2 st with
                      | none => none
                      | some q => match ex mt f d' (mt r.2.2.1) 0 (lvE q.1 (mt r.2.2.1).2.2.2.1) [] σ with
                        | some (.inl v, τ) => cond (decide ((lvD q.1).length ≤ (mt r.2.2.1).2.2.2.1)) (ex mt f (d' + 1) M (pc + 3) lv (v.toList ++ q.2) τ) none
                        | some (.inr o, τ) => cond (decide ((lvD q.1).length ≤ (mt r.2.2.1).2.2.2.1)) (some (.inr o, τ)) none
                        | none => none
/-- an instruction is what the code and the tables have there -/
def ROK (mt : Nat → Mi) (M : Mi) (pc : Nat) (r : Ri) : Prop :=
  decode M.2.1 pc = .ok (r.1, r.2.1) ∧ (r.2.1 = ilen r.1 ∨ (∃ d l h o, r.1 = .tableswitch d l h o) ∨ ∃ d p, r.1 = .lookupswitch d p) ∧ kok M.1.cls r.1 r.2.2.2.2 ∧ fdok M.1.cls r.1 r.2.2.1 r.2.2.2.1 r.2.2.2.2 ∧ jok r.1 r.2.2.1 pc ∧ (r.2.2.2.2 < 7 → cok mt M.1.cls r.1 r.2.2.1 r.2.2.2.1) ∧ yok M.1.cls r.1 r.2.2.2.2
def MOK (mt : Nat → Mi) (M : Mi) : Prop := plainName M.1.cls = true ∧ M.1.name ≠ "<init>" ∧ ∀ q ∈ M.2.2.2.2.2, ROK mt M q.1 q.2
theorem opS_sw {i : Instr} {v : Int} {st st' : List Value} (h : opS i v st = some st') : ¬ ((∃ d l h o, i = .tableswitch d l h o) ∨ ∃ d p, i = .lookupswitch d p) := by
  rintro (⟨_, _, _, _, rfl⟩ | ⟨_, _, rfl⟩) <;> cases h
theorem opL_sw {i : Instr} {lv st : List Value} {q : List Value × List Value} (h : opL i lv st = some q) : ¬ ((∃ d l h o, i = .tableswitch d l h o) ∨ ∃ d p, i = .lookupswitch d p) := by
  rintro (⟨_, _, _, _, rfl⟩ | ⟨_, _, rfl⟩) <;> cases h
theorem opH_sw {i : Instr} {a b : Nat} {t : Int} {st : List Value} {σ : Hp} {q : List Value × Hp} (h : opH i a b t st σ = some q) : ¬ ((∃ d l h o, i = .tableswitch d l h o) ∨ ∃ d p, i = .lookupswitch d p) := by
  rintro (⟨_, _, _, _, rfl⟩ | ⟨_, _, rfl⟩) <;> cases h
theorem opR_sw {i : Instr} {ret : Option FieldType} {st : List Value} {q : Option Value} (h : opR ret i st = some q) : ¬ ((∃ d l h o, i = .tableswitch d l h o) ∨ ∃ d p, i = .lookupswitch d p) := by
  rintro (⟨_, _, _, _, rfl⟩ | ⟨_, _, rfl⟩) <;> cases h
theorem opY_sw {i : Instr} {t : Int} {st : List Value} {σ : Hp} {q : List Value × Hp} (h : opY i t st σ = some q) : ¬ ((∃ d l h o, i = .tableswitch d l h o) ∨ ∃ d p, i = .lookupswitch d p) := by
  rintro (⟨_, _, _, _, rfl⟩ | ⟨_, _, rfl⟩) <;> cases h
theorem opC_sw {mt : Nat → Mi} {i : Instr} {a b : Nat} {t : Int} {st : List Value} {q : List Value × List Value} (h : opC mt i a b t st = some q) : ¬ ((∃ d l h o, i = .tableswitch d l h o) ∨ ∃ d p, i = .lookupswitch d p) := by
  rintro (⟨_, _, _, _, rfl⟩ | ⟨_, _, rfl⟩) <;> cases h
abbrev Sxm (M : Mi) (d : Nat) (Q : Oc → Hp → Prop) : Sx := ((M.2.1, M.1.cls, M.2.2.2.2.1, M.2.2.2.1, false), d, 122, 122, false, Q, fun _ _ => True)
/-- what the interpreter comes to, the machine comes to -/
theorem ex_sound {mt : Nat → Mi} (HM : ∀ i, MOK mt (mt i)) : ∀ (f d : Nat) (M : Mi) (pc : Nat) (lv st : List Value) (σ : Hp) (v : Option Value) (τ : Hp), MOK mt M → lv.length = M.2.2.2.1 → ex mt f d M pc lv st σ = some (.inl v, τ) → Wx (Sxm M d (fun o τ' => o = .inl v ∧ τ' = τ)) 122 pc lv st σ := by
  intro f
  induction f with
  | zero =>
    intro d M pc lv st σ v τ _ _ h
    cases h
  | succ f ih =>
    intro d M pc lv st σ v τ hM hlen h
    unfold ex at h
    split at h
    · cases h
    rename_i r hr
    obtain ⟨k1, k2, k3, k4, k5, k6, k7⟩ := hM.2.2 _ (lk_mem hr)
    have hd := k1
    have fix : ¬ ((∃ d l h o, r.1 = .tableswitch d l h o) ∨ ∃ d p, r.1 = .lookupswitch d p) → r.2.1 = ilen r.1 := fun q => k2.elim id fun z => absurd z q
    split at h
    · rename_i st' hS
      have e := fix (opS_sw hS)
      dsimp only at hd
      rw [e] at h hd
      exact opS_sound hd k3 hS (ih _ _ _ _ _ _ _ _ hM hlen h)
    split at h
    · rename_i q hL
      have e := fix (opL_sw hL)
      dsimp only at hd
      rw [e] at h hd
      exact opL_sound hd hlen hL (ih _ _ _ _ _ _ _ _ hM ((opL_len hL).trans hlen) h)
    split at h
    · rename_i q hH
      have e := fix (opH_sw hH)
      dsimp only at hd
      rw [e] at h hd
      exact opH_sound hd k4 hH (ih _ _ _ _ _ _ _ _ hM hlen h)
    split at h
    · rename_i q hJ
      exact opJ_sound hd k2 k5 hJ (ih _ _ _ _ _ _ _ _ hM hlen h)
    split at h
    · rename_i w hR
      have e := fix (opR_sw hR)
      dsimp only at hd
      rw [e] at hd
      cases h
      exact opR_sound hd rfl hR ⟨rfl, rfl⟩
    split at h
    · cases h
    split at h
    · cases h
    split at h
    · rename_i q hY
      have e := fix (opY_sw hY)
      dsimp only at hd
      rw [e] at hd
      exact opY_sound hd k7 hY (Nat.le_add_left 1 _) (ih _ _ _ _ _ _ _ _ hM hlen h)
    split at h
    · cases h
    rename_i hYn _ q hC
    have e := fix (opC_sw hC)
    dsimp only at hd
    rw [e] at hd
    split at h
    · rename_i w τ' hE
      obtain ⟨hb, h⟩ := cond_some h
      have hb := of_decide_eq_true hb
      have hM' := HM r.2.2.1
      refine opC_sound hd (k6 ?_) hC rfl (Nat.le_refl _) (v := w) (τ := τ') ?_ (ih _ _ _ _ _ _ _ _ hM hlen h)
      · exact opC_t hC
      · exact Cx_of _ false hM'.1 rfl (fun q => by cases q) (Nat.le_refl _) rfl hb (ih _ _ _ _ _ _ _ _ hM' (by simp [lvE]; omega) hE)
    · cases (cond_some h).2
    · cases h
