/-! ===== switches, bounds ===== -/
theorem i32_ofInt_toInt (x : Int32) : Int32.ofInt x.toInt = x := Int32.ofInt_toInt x
theorem sw_cases (x : Int32) (lo : Int) (n : Nat) (h1 : -2147483648 ≤ lo) (h2 : lo + n < 2147483648) : (∃ k, k < n ∧ x = Int32.ofInt (lo + (k : Nat))) ∨ (∀ k, k < n → ¬ x = Int32.ofInt (lo + (k : Nat))) := by
  by_cases h : ∃ k, k < n ∧ x = Int32.ofInt (lo + (k : Nat))
  · exact Or.inl h
  · exact Or.inr (fun k hk e => h ⟨k, hk, e⟩)
theorem sw_out {x : Int32} {lo hi : Int} {n : Nat} (hh : hi = lo + n - 1 ∧ -2147483648 ≤ lo ∧ hi < 2147483647) (h : ∀ k, k < n → ¬ x = Int32.ofInt (lo + (k : Nat))) : x.toInt < lo ∨ hi < x.toInt := by
  rcases Int.lt_or_le x.toInt lo with a | a
  · exact Or.inl a
  · rcases Int.lt_or_le hi x.toInt with b | b
    · exact Or.inr b
    · exfalso
      refine h (x.toInt - lo).toNat (by omega) ?_
      have : lo + ((x.toInt - lo).toNat : Nat) = x.toInt := by omega
      rw [this, i32_ofInt_toInt]
theorem vin1 {x N : Int32} {n : Nat} (h : ¬ x < 0) (k : ¬ N ≤ x) (hN : N.toInt ≤ n) : vp_in x n := by
  have h0 : (0 : Int32).toInt = 0 := by decide
  rw [Int32.lt_iff_toInt_lt] at h
  rw [Int32.le_iff_toInt_le] at k
  exact vp_in_iff.mpr ⟨by omega, by omega⟩
theorem vin2 {x N : Int32} {n : Nat} (h : ¬ x < 0) (k : x < N) (hN : N.toInt ≤ n) : vp_in x n := by
  have h0 : (0 : Int32).toInt = 0 := by decide
  rw [Int32.lt_iff_toInt_lt] at h k
  exact vp_in_iff.mpr ⟨by omega, by omega⟩
theorem vin3 {x N : Int32} {n : Nat} (h : ¬ x < 0) (k : ¬ N < x) (hN : N.toInt + 1 ≤ n) : vp_in x n := by
  have h0 : (0 : Int32).toInt = 0 := by decide
  rw [Int32.lt_iff_toInt_lt] at h k
  exact vp_in_iff.mpr ⟨by omega, by omega⟩
theorem vin4 {x N : Int32} {n : Nat} (h : ¬ x < 0) (k : x ≤ N) (hN : N.toInt + 1 ≤ n) : vp_in x n := by
  have h0 : (0 : Int32).toInt = 0 := by decide
  rw [Int32.lt_iff_toInt_lt] at h
  rw [Int32.le_iff_toInt_le] at k
  exact vp_in_iff.mpr ⟨by omega, by omega⟩
theorem nI_le32 {n : Nat} {m : Nat} (h : n ≤ m) (hm : m < 2147483648) : (nI n).toInt ≤ m := by rw [nI_toInt (by omega)]; omega
theorem not_lt0 {x : Int32} (h : 0 ≤ x) : ¬ x < 0 := Int32.not_lt.mpr h
/-- an index a * k + w, of a k and a w that are bounded -/
theorem vin_ab {x k w N : Int32} (a c R : Nat) {n : Nat} (hx : x = nI a * k + w) (hk : ¬ k < 0) (hk2 : ¬ N ≤ k) (hN : N.toInt ≤ R) (hw : ¬ w < 0) (hw2 : w.toInt ≤ c) (hR : a * R + c < 2147483648) (hn : a * (R - 1) + c < n) (ha : 0 < a) : vp_in x n := by
  obtain ⟨k', hk', rfl⟩ := nI_of hk
  obtain ⟨w', hw', rfl⟩ := nI_of hw
  rw [nI_toInt hw'] at hw2
  rw [Int32.le_iff_toInt_le, nI_toInt hk'] at hk2
  have e : k' ≤ R - 1 := by omega
  have e3 : a * k' ≤ a * (R - 1) := Nat.mul_le_mul_left a e
  have e4 : a * (R - 1) ≤ a * R := Nat.mul_le_mul_left a (Nat.sub_le R 1)
  rw [hx, pk_mul, nI_add]
  have e5 : a * k' + w' < n := by omega
  have e6 : a * k' + w' < 2147483648 := by omega
  refine vp_in_iff.mpr ⟨?_, ?_⟩
  · rw [nI_toInt e6]; omega
  · rw [nI_toInt e6]; omega
/-- .. and a * k + w - c0 -/
theorem vin_abs {x k w N : Int32} (a c0 c R : Nat) {n : Nat} (hx : x = nI a * k + w - nI c0) (hk : ¬ k < 0) (hk2 : ¬ N ≤ k) (hN : N.toInt ≤ R) (hw : ¬ w.toInt < c0) (hw2 : w.toInt ≤ c) (hR : a * R + c < 2147483648) (hn : a * (R - 1) + c < n + c0) (ha : 0 < a) : vp_in x n := by
  have h0 : (0 : Int32).toInt = 0 := by decide
  obtain ⟨k', hk', rfl⟩ := nI_of hk
  have hw0 : ¬ w < 0 := by rw [Int32.lt_iff_toInt_lt]; omega
  obtain ⟨w', hw', rfl⟩ := nI_of hw0
  rw [nI_toInt hw'] at hw2 hw
  rw [Int32.le_iff_toInt_le, nI_toInt hk'] at hk2
  have e : k' ≤ R - 1 := by omega
  have e3 : a * k' ≤ a * (R - 1) := Nat.mul_le_mul_left a e
  have e4 : a * (R - 1) ≤ a * R := Nat.mul_le_mul_left a (Nat.sub_le R 1)
  rw [hx, pk_mul, nI_add, pk_sub (by omega)]
  have e5 : a * k' + w' - c0 < n := by omega
  have e6 : a * k' + w' - c0 < 2147483648 := by omega
  refine vp_in_iff.mpr ⟨?_, ?_⟩
  · rw [nI_toInt e6]; omega
  · rw [nI_toInt e6]; omega
theorem addN {x y : Int32} {a b : Nat} (hx : x = nI a) (hy : y = nI b) : x + y = nI (a + b) := by rw [hx, hy, nI_add]
theorem mulN {x y : Int32} {a b : Nat} (hx : x = nI a) (hy : y = nI b) : x * y = nI (a * b) := by rw [hx, hy, pk_mul]
theorem subN {x y : Int32} {a b : Nat} (hx : x = nI a) (hy : y = nI b) (h : b ≤ a) : x - y = nI (a - b) := by rw [hx, hy, pk_sub h]
theorem cEq {x y : Int32} {a b : Nat} (hx : x = nI a) (hy : y = nI b) (ha : a < 2147483648) (hb : b < 2147483648) : x = y ↔ a = b := by rw [hx, hy]; exact nI_eq ha hb
theorem cLt {x y : Int32} {a b : Nat} (hx : x = nI a) (hy : y = nI b) (ha : a < 2147483648) (hb : b < 2147483648) : x < y ↔ a < b := by rw [hx, hy]; exact nI_ltI ha hb
theorem cLe {x y : Int32} {a b : Nat} (hx : x = nI a) (hy : y = nI b) (ha : a < 2147483648) (hb : b < 2147483648) : x ≤ y ↔ a ≤ b := by rw [hx, hy]; exact nI_leI ha hb
theorem decN {x y : Int32} {a : Nat} {c : Nat} (hx : x = nI a) (h : c ≤ a) (hy : y = 0 - nI c := by decide) : x + y = nI (a - c) := by
  rw [← pk_sub h, hx, hy]
  apply Int32.toBitVec_inj.mp
  simp [Int32.toBitVec_add, Int32.toBitVec_sub, BitVec.sub_eq_add_neg]
theorem Cx_to {y : MethodName} {code : ByteArray} {maxL : Nat} {ret : Option FieldType} {d : Nat} {av : List Value} {σ τ τ' : Hp} {r r' : Int32} (h : Cx y code maxL ret d 122 122 av σ (fun o t => o = .inl (some (.int r)) ∧ t = τ)) (e1 : r = r') (e2 : τ = τ') : Cx y code maxL ret d 122 122 av σ (fun o t => o = .inl (some (.int r')) ∧ t = τ') := by
  subst e1 e2
  exact h
theorem addE {x y : Int32} {a b c : Nat} (hx : x = nI a) (hy : y = nI b) (h : a + b = c) : x + y = nI c := by rw [hx, hy, nI_add, h]
theorem subE {x y : Int32} {a b c : Nat} (hx : x = nI a) (hy : y = nI b) (h : a = c + b) : x - y = nI c := by rw [hx, hy, pk_sub (by omega)]; congr 1; omega
theorem minN {x y : Int32} {a b : Nat} (hx : x = nI a) (hy : y = nI b) (ha : a < 2147483648) (hb : b < 2147483648) : (if y < x then y else x) = nI (min a b) := by
  by_cases h : y < x
  · rw [if_pos h, hy]; congr 1; have hh : b < a := (cLt hy hx hb ha).mp h; omega
  · rw [if_neg h, hx]; congr 1; have hh : ¬ b < a := fun q => h ((cLt hy hx hb ha).mpr q); omega
theorem maxN {x y : Int32} {a b : Nat} (hx : x = nI a) (hy : y = nI b) (ha : a < 2147483648) (hb : b < 2147483648) : (if x < y then y else x) = nI (max a b) := by
  by_cases h : x < y
  · rw [if_pos h, hy]; congr 1; have hh : a < b := (cLt hx hy ha hb).mp h; omega
  · rw [if_neg h, hx]; congr 1; have hh : ¬ a < b := fun q => h ((cLt hx hy ha hb).mpr q); omega
theorem Wx_min {S : Sx} {pc idx : Nat} {lv st : List Value} {σ : Hp} {x y : Int32} (hd : decode S.1.1 pc = .ok (.invokestatic idx, 3)) (hy : yok S.1.2.1 (.invokestatic idx) 9) (hw : wsum st ≤ 8) (hD : 1 ≤ S.2.1) (k : Wx S 122 (pc + 3) lv (.int (if y < x then y else x) :: st) σ) : Wx S 122 pc lv (.int y :: .int x :: st) σ :=
  opY_sound (i := .invokestatic idx) (t := 9) hd hy (by simp [opY, hw]) hD k
theorem Wx_max {S : Sx} {pc idx : Nat} {lv st : List Value} {σ : Hp} {x y : Int32} (hd : decode S.1.1 pc = .ok (.invokestatic idx, 3)) (hy : yok S.1.2.1 (.invokestatic idx) 8) (hw : wsum st ≤ 8) (hD : 1 ≤ S.2.1) (k : Wx S 122 (pc + 3) lv (.int (if x < y then y else x) :: st) σ) : Wx S 122 pc lv (.int y :: .int x :: st) σ :=
  opY_sound (i := .invokestatic idx) (t := 8) hd hy (by simp [opY, hw]) hD k
theorem nI_nn {n : Nat} (h : n < 2147483648) : ¬ nI n < 0 := by
  have h0 : (0 : Int32).toInt = 0 := by decide
  rw [Int32.lt_iff_toInt_lt, nI_toInt h]
  omega
theorem Wx_acopy {S : Sx} {pc idx : Nat} {lv st : List Value} {σ : Hp} {p q : Nat} (ty n0 n1 sp dp n : Nat) (hd : decode S.1.1 pc = .ok (.invokestatic idx, 3)) (hy : yok S.1.2.1 (.invokestatic idx) 7) (hp : sh p = .inr (ty, n0)) (hq : sh q = .inr (ty, n1)) (ht : ty < 2) (hp2 : p < 122) (hq2 : q < 122) (h1 : sp + n ≤ n0) (h2 : dp + n ≤ n1) (h3 : n < 2147483648) (h4 : sp < 2147483648) (h5 : dp < 2147483648) (hw : wsum st ≤ 8) (hD : 1 ≤ S.2.1)
    (hf : ∀ j, j < n → fits (tyA ty) (.int (gA σ p (sp + j))) = true) (k : Wx S 122 (pc + 3) lv st (rA σ q (va_cpy (gA σ p) (gA σ q) sp dp n))) : Wx S 122 pc lv (.int (nI n) :: .int (nI dp) :: .ref q :: .int (nI sp) :: .ref p :: st) σ := by
  refine opY_sound (i := .invokestatic idx) (t := 7) hd hy ?_ hD k
  have e1 := nI_clamp (n := sp) h4
  have e2 := nI_clamp (n := dp) h5
  have e3 := nI_clamp (n := n) h3
  have hall : (List.range n).all (fun j => fits (tyA ty) (.int (gA σ p (sp + j)))) = true := List.all_eq_true.mpr (fun j hj => hf j (List.mem_range.mp hj))
  simp only [opY, hp, hq, e1, e2, e3, hall, hp2, hq2, ht, h1, h2, hw, nI_nn h3, nI_nn h4, nI_nn h5, decide_true, decide_false, Bool.and_self, Bool.not_false, Bool.and_true, cond_true]
theorem Wx_count {S : Sx} {pc n : Nat} (lv : Nat → List Value) (st : List Value) (H : Nat → Hp) (lo e : Nat) (hs : ∀ k, lo ≤ k → k < e → Wx S n pc (lv (k + 1)) st (H (k + 1)) → Wx S n pc (lv k) st (H k)) (hx : Wx S n pc (lv e) st (H e)) (h : lo ≤ e) : Wx S n pc (lv lo) st (H lo) := by
  have key : ∀ q, q ≤ e - lo → Wx S n pc (lv (e - q)) st (H (e - q)) := by
    intro q
    induction q with
    | zero => intro _; exact hx
    | succ q ih =>
      intro hq
      have h1 := ih (by omega)
      have e1 : e - q = e - (q + 1) + 1 := by omega
      rw [e1] at h1
      exact hs (e - (q + 1)) (by omega) (by omega) h1
  have := key (e - lo) (Nat.le_refl _)
  rw [show e - (e - lo) = lo from by omega] at this
  exact this
/-- the first k places from f, the others from g -/
def cpy (f g : Nat → Int32) (k : Nat) : Nat → Int32 := fun j => if j < k then f j else g j
theorem cpy_0 (f g : Nat → Int32) : cpy f g 0 = g := by funext j; simp [cpy]
theorem rA_id (σ : Hp) (c : Nat) : rA σ c (gA σ c) = σ := by
  obtain ⟨f, r, a, l⟩ := σ
  simp only [rA, gA]
  congr
  funext i
  unfold upr
  split
  · subst_vars; rfl
  · rfl
theorem rA_cpy0 (σ : Hp) (c : Nat) (f : Nat → Int32) : σ = rA σ c (cpy f (gA σ c) 0) := by rw [cpy_0, rA_id]
theorem pA_rA (σ : Hp) (c k : Nat) (r : Nat → Int32) (v : Int32) : pA (rA σ c r) c k v = rA σ c (fun j => if j = k then v else r j) := by
  simp only [pA, rA]
  congr
  funext a b
  by_cases h : a = c
  · subst h; simp [up2, upr]
  · simp [up2, upr, h]
theorem pA_cpy (σ : Hp) (c k : Nat) (f g : Nat → Int32) {v : Int32} (h : v = f k) : pA (rA σ c (cpy f g k)) c k v = rA σ c (cpy f g (k + 1)) := by
  rw [pA_rA]
  congr 1
  funext j
  unfold cpy
  by_cases h1 : j = k
  · subst h1
    rw [if_pos rfl, if_pos (Nat.lt_succ_self j), h]
  · rw [if_neg h1]
    by_cases h2 : j < k
    · rw [if_pos h2, if_pos (by omega)]
    · rw [if_neg h2, if_neg (by omega)]
theorem gA_rA (σ : Hp) (c : Nat) (r : Nat → Int32) : gA (rA σ c r) c = r := by funext j; simp [gA, rA, upr]
theorem gA_rA_ne (σ : Hp) {c c' : Nat} (r : Nat → Int32) (h : c' ≠ c) : gA (rA σ c r) c' = gA σ c' := by funext j; simp [gA, rA, upr, h]
/-- bytes -/
theorem fits8 {v : Int32} (h : v.toInt8.toInt32 = v) : fits (tyA 0) (.int v) = true := h ▸ pk_fb v
theorem nar8 (v : Int32) : v.toInt8.toInt32.toInt8.toInt32 = v.toInt8.toInt32 := by simp
theorem rdEq (a b c d : Int32) : (((((((0 : Int32) ||| (d &&& (255 : Int32))) <<< ((8 : Int32) &&& 31)) ||| (c &&& (255 : Int32))) <<< ((8 : Int32) &&& 31)) ||| (b &&& (255 : Int32))) <<< ((8 : Int32) &&& 31)) ||| (a &&& (255 : Int32)) = (((a &&& (255 : Int32)) ||| ((b &&& (255 : Int32)) <<< ((8 : Int32) &&& 31))) ||| ((c &&& (255 : Int32)) <<< ((16 : Int32) &&& 31))) ||| (d <<< ((24 : Int32) &&& 31)) := by
  apply Int32.toBitVec_inj.mp
  simp only [Int32.toBitVec_or, Int32.toBitVec_and, Int32.toBitVec_shiftLeft]
  generalize a.toBitVec = a
  generalize b.toBitVec = b
  generalize c.toBitVec = c
  generalize d.toBitVec = d
  rw [show (Int32.toBitVec 8 &&& Int32.toBitVec 31).smod 32 = 8 from rfl, show (Int32.toBitVec 16 &&& Int32.toBitVec 31).smod 32 = 16 from rfl, show (Int32.toBitVec 24 &&& Int32.toBitVec 31).smod 32 = 24 from rfl, show (Int32.toBitVec 255) = 255#32 from rfl]
  ext i hi
  have hi2 : i < 32 := hi
  match i, hi2 with
  | 0, _ | 1, _ | 2, _ | 3, _ | 4, _ | 5, _ | 6, _ | 7, _ | 8, _ | 9, _ | 10, _ | 11, _ | 12, _ | 13, _ | 14, _ | 15, _ | 16, _ | 17, _ | 18, _ | 19, _ | 20, _ | 21, _ | 22, _ | 23, _ | 24, _ | 25, _ | 26, _ | 27, _ | 28, _ | 29, _ | 30, _ | 31, _ => simp
  | n + 32, h => exact absurd h (by omega)
theorem shr0 (v : Int32) : v >>> (0 &&& 31 : Int32) = v := by
  apply Int32.toBitVec_inj.mp
  simp
theorem b8 (v : Int32) : v.toInt8.toInt32.toInt8 = v.toInt8 := by simp
theorem Wx_eq {S : Sx} {n pc : Nat} {lv st : List Value} {σ τ : Hp} (h : σ = τ) (k : Wx S n pc lv st τ) : Wx S n pc lv st σ := h ▸ k
/-- four bytes of v laid from p on -/
def w4 (f : Nat → Int32) (p : Nat) (v : Int32) : Nat → Int32 := fun k => if k = p + 3 then ((v >>> (24 &&& 31))).toInt8.toInt32.toInt8.toInt32 else if k = p + 2 then ((v >>> (16 &&& 31))).toInt8.toInt32.toInt8.toInt32 else if k = p + 1 then ((v >>> (8 &&& 31))).toInt8.toInt32.toInt8.toInt32 else if k = p then v.toInt8.toInt32.toInt8.toInt32 else f k
theorem w4_B {f : Nat → Int32} {p : Nat} {v : Int32} {k : Nat} (h : (f k).toInt8.toInt32 = f k) : (w4 f p v k).toInt8.toInt32 = w4 f p v k := by
  unfold w4
  by_cases h3 : k = p + 3
  · rw [if_pos h3]; exact nar8 _
  · rw [if_neg h3]
    by_cases h2 : k = p + 2
    · rw [if_pos h2]; exact nar8 _
    · rw [if_neg h2]
      by_cases h1 : k = p + 1
      · rw [if_pos h1]; exact nar8 _
      · rw [if_neg h1]
        by_cases h0 : k = p
        · rw [if_pos h0]; exact nar8 _
        · rw [if_neg h0]; exact h
theorem Rf_of {σ τ : Hp} (h : τ.2.1 = σ.2.1) (H : Rf σ) : Rf τ := fun o k j m => by unfold gR; rw [h]; exact H o k j m
theorem gR_of {σ τ : Hp} (h : τ.2.1 = σ.2.1) {a b : Nat} : gR τ a b = gR σ a b := by unfold gR; rw [h]
theorem R_pI {σ : Hp} {i k : Nat} {v : Int32} : (pI σ i k v).2.1 = σ.2.1 := rfl
theorem R_pA {σ : Hp} {i k : Nat} {v : Int32} : (pA σ i k v).2.1 = σ.2.1 := rfl
theorem R_pL {σ : Hp} {i k : Nat} {v : Int64} : (pL σ i k v).2.1 = σ.2.1 := rfl
theorem R_rA {σ : Hp} {i : Nat} {r : Nat → Int32} : (rA σ i r).2.1 = σ.2.1 := rfl
theorem Rf_pI {σ : Hp} {i k : Nat} {v : Int32} (H : Rf σ) : Rf (pI σ i k v) := Rf_of R_pI H
theorem Rf_pA {σ : Hp} {i k : Nat} {v : Int32} (H : Rf σ) : Rf (pA σ i k v) := Rf_of R_pA H
theorem Rf_pL {σ : Hp} {i k : Nat} {v : Int64} (H : Rf σ) : Rf (pL σ i k v) := Rf_of R_pL H
theorem Rf_rA {σ : Hp} {i : Nat} {r : Nat → Int32} (H : Rf σ) : Rf (rA σ i r) := Rf_of R_rA H
theorem gR_pI {σ : Hp} {i k a b : Nat} {v : Int32} : gR (pI σ i k v) a b = gR σ a b := rfl
theorem gR_pA {σ : Hp} {i k a b : Nat} {v : Int32} : gR (pA σ i k v) a b = gR σ a b := rfl
theorem gR_pL {σ : Hp} {i k a b : Nat} {v : Int64} : gR (pL σ i k v) a b = gR σ a b := rfl
theorem gR_rA {σ : Hp} {i a b : Nat} {r : Nat → Int32} : gR (rA σ i r) a b = gR σ a b := rfl
theorem gR_pR {σ : Hp} {i k a b : Nat} {v : Option Nat} (h : ¬ (a = i ∧ b = k)) : gR (pR σ i k v) a b = gR σ a b := by
  show up2 σ.2.1 i k v a b = σ.2.1 a b
  unfold up2
  by_cases h1 : a = i
  · rw [if_pos h1, if_neg (fun q => h ⟨h1, q⟩)]
  · rw [if_neg h1]
theorem gI_pI {σ : Hp} {i k a b : Nat} {v : Int32} (h : ¬ (a = i ∧ b = k)) : gI (pI σ i k v) a b = gI σ a b := by
  show up2 σ.1 i k v a b = σ.1 a b
  unfold up2
  by_cases h1 : a = i
  · rw [if_pos h1, if_neg (fun q => h ⟨h1, q⟩)]
  · rw [if_neg h1]
theorem gI_pIs {σ : Hp} {i k : Nat} {v : Int32} : gI (pI σ i k v) i k = v := by
  show up2 σ.1 i k v i k = v
  unfold up2
  rw [if_pos rfl, if_pos rfl]
theorem gI_pA {σ : Hp} {i k a b : Nat} {v : Int32} : gI (pA σ i k v) a b = gI σ a b := rfl
theorem gI_pL {σ : Hp} {i k a b : Nat} {v : Int64} : gI (pL σ i k v) a b = gI σ a b := rfl
theorem gI_rA {σ : Hp} {i a b : Nat} {r : Nat → Int32} : gI (rA σ i r) a b = gI σ a b := rfl
theorem gI_pR {σ : Hp} {i k a b : Nat} {v : Option Nat} : gI (pR σ i k v) a b = gI σ a b := rfl
/-! calls with a known outcome -/
theorem Wx_cVv {S : Sx} {pc : Nat} {lv st st0 : List Value} {σ τ : Hp} {idx : Nat} {y : MethodName} {code : ByteArray} {maxL : Nat} {ret : Option FieldType} {d : Nat} (i ci : Nat) (av : List Value) (np : Nat) (hm : mok y code maxL ret np) (hlk : lok S.1.2.1 idx y) (hio : iok y) (hsh : sh i = .inl ci) (hcl : (cl_all[ci]?).map (fun q => q.1) = some y.cls) (hi : i < 122) (hd : decode S.1.1 pc = .ok (.invokevirtual idx, 3)) (hc : Cx y code maxL ret d 122 122 (.ref i :: av) σ (fun o t => o = .inl none ∧ t = τ)) (hD : d + 1 ≤ S.2.1) (hF : 122 ≤ S.2.2.2.1) (hp : av.length = np) (hw : wsum st ≤ 8) (hst : st0 = av.reverse ++ .ref i :: st) (kk : Wx S 122 (pc + 3) lv st τ) : Wx S 122 pc lv st0 σ :=
  Wx_callV i ci av np hm hlk hio hsh hcl hi hd hc hD (Nat.le_refl _) hF hp hw hst (fun _ _ h => by cases h.1) (fun w t h => by obtain ⟨h0, rfl⟩ := h; cases h0; exact kk)
theorem Wx_cSv {S : Sx} {pc : Nat} {lv st st0 : List Value} {σ τ : Hp} {idx : Nat} {y : MethodName} {code : ByteArray} {maxL : Nat} {ret : Option FieldType} {d : Nat} (av : List Value) (np : Nat) (hm : mok y code maxL ret np) (hlk : lok S.1.2.1 idx y) (hs : Cond.static y ∈ gw) (hd : decode S.1.1 pc = .ok (.invokestatic idx, 3)) (hc : Cx y code maxL ret d 122 122 av σ (fun o t => o = .inl none ∧ t = τ)) (hD : d + 1 ≤ S.2.1) (hF : 122 ≤ S.2.2.2.1) (hp : av.length = np) (hw : wsum st ≤ 8) (hst : st0 = av.reverse ++ st) (kk : Wx S 122 (pc + 3) lv st τ) : Wx S 122 pc lv st0 σ :=
  Wx_callS av np hm hlk hs hd hc hD (Nat.le_refl _) hF hp hw hst (fun _ _ h => by cases h.1) (fun w t h => by obtain ⟨h0, rfl⟩ := h; cases h0; exact kk)
theorem Wx_cVi {S : Sx} {pc : Nat} {lv st st0 : List Value} {σ τ : Hp} {r : Int32} {idx : Nat} {y : MethodName} {code : ByteArray} {maxL : Nat} {ret : Option FieldType} {d : Nat} (i ci : Nat) (av : List Value) (np : Nat) (hm : mok y code maxL ret np) (hlk : lok S.1.2.1 idx y) (hio : iok y) (hsh : sh i = .inl ci) (hcl : (cl_all[ci]?).map (fun q => q.1) = some y.cls) (hi : i < 122) (hd : decode S.1.1 pc = .ok (.invokevirtual idx, 3)) (hc : Cx y code maxL ret d 122 122 (.ref i :: av) σ (fun o t => o = .inl (some (.int r)) ∧ t = τ)) (hD : d + 1 ≤ S.2.1) (hF : 122 ≤ S.2.2.2.1) (hp : av.length = np) (hw : wsum st ≤ 8) (hst : st0 = av.reverse ++ .ref i :: st) (kk : Wx S 122 (pc + 3) lv (.int r :: st) τ) : Wx S 122 pc lv st0 σ :=
  Wx_callV i ci av np hm hlk hio hsh hcl hi hd hc hD (Nat.le_refl _) hF hp hw hst (fun _ _ h => by cases h.1) (fun w t h => by obtain ⟨h0, rfl⟩ := h; cases h0; exact kk)
theorem Wx_cSi {S : Sx} {pc : Nat} {lv st st0 : List Value} {σ τ : Hp} {r : Int32} {idx : Nat} {y : MethodName} {code : ByteArray} {maxL : Nat} {ret : Option FieldType} {d : Nat} (av : List Value) (np : Nat) (hm : mok y code maxL ret np) (hlk : lok S.1.2.1 idx y) (hs : Cond.static y ∈ gw) (hd : decode S.1.1 pc = .ok (.invokestatic idx, 3)) (hc : Cx y code maxL ret d 122 122 av σ (fun o t => o = .inl (some (.int r)) ∧ t = τ)) (hD : d + 1 ≤ S.2.1) (hF : 122 ≤ S.2.2.2.1) (hp : av.length = np) (hw : wsum st ≤ 8) (hst : st0 = av.reverse ++ st) (kk : Wx S 122 (pc + 3) lv (.int r :: st) τ) : Wx S 122 pc lv st0 σ :=
  Wx_callS av np hm hlk hs hd hc hD (Nat.le_refl _) hF hp hw hst (fun _ _ h => by cases h.1) (fun w t h => by obtain ⟨h0, rfl⟩ := h; cases h0; exact kk)
theorem Wx_cVl {S : Sx} {pc : Nat} {lv st st0 : List Value} {σ τ : Hp} {r : Int64} {idx : Nat} {y : MethodName} {code : ByteArray} {maxL : Nat} {ret : Option FieldType} {d : Nat} (i ci : Nat) (av : List Value) (np : Nat) (hm : mok y code maxL ret np) (hlk : lok S.1.2.1 idx y) (hio : iok y) (hsh : sh i = .inl ci) (hcl : (cl_all[ci]?).map (fun q => q.1) = some y.cls) (hi : i < 122) (hd : decode S.1.1 pc = .ok (.invokevirtual idx, 3)) (hc : Cx y code maxL ret d 122 122 (.ref i :: av) σ (fun o t => o = .inl (some (.long r)) ∧ t = τ)) (hD : d + 1 ≤ S.2.1) (hF : 122 ≤ S.2.2.2.1) (hp : av.length = np) (hw : wsum st ≤ 8) (hst : st0 = av.reverse ++ .ref i :: st) (kk : Wx S 122 (pc + 3) lv (.long r :: st) τ) : Wx S 122 pc lv st0 σ :=
  Wx_callV i ci av np hm hlk hio hsh hcl hi hd hc hD (Nat.le_refl _) hF hp hw hst (fun _ _ h => by cases h.1) (fun w t h => by obtain ⟨h0, rfl⟩ := h; cases h0; exact kk)
theorem Wx_cSl {S : Sx} {pc : Nat} {lv st st0 : List Value} {σ τ : Hp} {r : Int64} {idx : Nat} {y : MethodName} {code : ByteArray} {maxL : Nat} {ret : Option FieldType} {d : Nat} (av : List Value) (np : Nat) (hm : mok y code maxL ret np) (hlk : lok S.1.2.1 idx y) (hs : Cond.static y ∈ gw) (hd : decode S.1.1 pc = .ok (.invokestatic idx, 3)) (hc : Cx y code maxL ret d 122 122 av σ (fun o t => o = .inl (some (.long r)) ∧ t = τ)) (hD : d + 1 ≤ S.2.1) (hF : 122 ≤ S.2.2.2.1) (hp : av.length = np) (hw : wsum st ≤ 8) (hst : st0 = av.reverse ++ st) (kk : Wx S 122 (pc + 3) lv (.long r :: st) τ) : Wx S 122 pc lv st0 σ :=
  Wx_callS av np hm hlk hs hd hc hD (Nat.le_refl _) hF hp hw hst (fun _ _ h => by cases h.1) (fun w t h => by obtain ⟨h0, rfl⟩ := h; cases h0; exact kk)
theorem rule_w {w : Int32} (h : 3 ≤ w) (h2 : ¬ w = 3) : ¬ w.toInt < ((4 : Nat) : Int) := by
  have e3 : (3 : Int32).toInt = 3 := by decide
  rw [Int32.le_iff_toInt_le] at h
  intro q
  exact h2 (Int32.toInt_inj.mp (by omega))
theorem rule_w2 {w : Int32} (h : w ≤ 11) : w.toInt ≤ ((11 : Nat) : Int) := by
  have e3 : (11 : Int32).toInt = 11 := by decide
  rw [Int32.le_iff_toInt_le] at h
  omega
theorem put_w {w : Int32} (h0 : ¬ w < 0) (h : w ≤ 8) (h2 : ¬ w = 8) : vp_in w 8 := by
  have e3 : (8 : Int32).toInt = 8 := by decide
  have e0 : (0 : Int32).toInt = 0 := by decide
  rw [Int32.le_iff_toInt_le] at h
  rw [Int32.lt_iff_toInt_lt] at h0
  have : ¬ w.toInt = 8 := fun q => h2 (Int32.toInt_inj.mp (by omega))
  exact vp_in_iff.mpr ⟨by omega, by omega⟩
theorem set_w {w : Int32} (h : w ≤ 7) : w.toInt ≤ ((7 : Nat) : Int) := by
  have e3 : (7 : Int32).toInt = 7 := by decide
  rw [Int32.le_iff_toInt_le] at h
  omega
