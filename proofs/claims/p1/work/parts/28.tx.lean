/-! ===== the reference's one handler ===== -/
abbrev EH : State → Code → Prop := fun _ c => c.exceptionTable.toList.map (fun h => (h.startPc, h.endPc, h.handlerPc, h.catchType)) = [(20, 28, 31, 9)]
theorem asg_self (vm : Vm) (c : ClassId) : vm.assignable c c = true := by
  show vm.assignableAux (255 + 1) c c = true
  rw [Vm.assignableAux]
  simp only [beq_self_eq_true, Bool.true_or]
theorem Tx_catch {S : Sx} {pc : Nat} {lv st : List Value} {σ : Hp} (hE : S.2.2.2.2.2.2 = EH) (hown : S.1.2.1 = RX14) (hpc : 20 ≤ pc ∧ pc < 28) (k : Wx S 122 31 lv [.ref 67] σ) : Tx S pc lv st σ 67 := by
  intro p l e R s m args below meth c G H locs ls C hn hH hl T hT X
  have hEc : c.exceptionTable.toList.map (fun h => (h.startPc, h.endPc, h.handlerPc, h.catchType)) = [(20, 28, 31, 9)] := by
    have := C.2.2.2.2.2.2.2.2.2.2.2
    rw [hE] at this
    exact this
  obtain ⟨x, hlist, x1, x2, x3, x4⟩ : ∃ x, c.exceptionTable.toList = [x] ∧ x.startPc = 20 ∧ x.endPc = 28 ∧ x.handlerPc = 31 ∧ x.catchType = 9 := by
    rcases hlist : c.exceptionTable.toList with _ | ⟨x, _ | ⟨y, t⟩⟩
    · rw [hlist] at hEc; simp at hEc
    · rw [hlist] at hEc
      simp at hEc
      exact ⟨x, rfl, hEc.1, hEc.2.1, hEc.2.2.1, hEc.2.2.2⟩
    · rw [hlist] at hEc; simp at hEc
  have hpl : e.platform.magicAccessors = ({} : Platform).magicAccessors := by rw [X.admits.platform]
  have ho : s.vm.findClass RX14 = some m.cls := by rw [← hown]; exact C.own
  obtain ⟨cc, hfcc, hcl⟩ := Cond.classLink_spec ho (C.wd cl_X14_9) e.platform hpl
  obtain ⟨hg₁, hwarm₁, hready₁⟩ := State.classEntry (e := e) X.warmed hcl
  generalize T.vm.noted m.cls 9 (.cls cc) = vm₁ at hg₁ hwarm₁ hready₁
  obtain ⟨cell, hcell, hst, hfc⟩ := va_recv C.kt.1 hH.1 (ci := 12) (q := (RX12, TX12, 6)) rfl (q0 := 67) (a := G.2.2 + 67) (by rw [wW_at (by decide), wE_obj (ci := 12) rfl])
  have hfc : s.vm.findClass RX12 = some cell.cls := hfc
  have hf1 : vm₁.findClass RX12 = s.vm.findClass RX12 := hwarm₁.alike.findClass RX12 none
  have e1 : cell.cls = cc := Option.some.inj (hfc.symm.trans hfcc)
  have X₁ := X.noted hwarm₁
  obtain ⟨t, a1, b1⟩ := k p l e R s m args below meth c G H locs ls C hn hH hl (T.setVm vm₁) hT X₁
  refine ⟨t, ?_, b1⟩
  have hvm : ((T.setTop (F0 m pc ls (st.map (cv G.2.2)))).pushFrame (.throwing (G.2.2 + 67))).vm = T.vm := Stand.throwing_vm _ _ _
  have hhp : ((T.setTop (F0 m pc ls (st.map (cv G.2.2)))).pushFrame (.throwing (G.2.2 + 67))).heap = T.heap := Stand.throwing_heap _ _ _
  have hal : T.vm.Alike vm₁ := X.warmed.alike.symm.trans hwarm₁.alike
  refine caught_cold (vm' := vm₁) (pc := 31) (g := F0 m pc ls (st.map (cv G.2.2))) X.here (fun Q E d acts => ?_) a1
  rw [W.findHandler_eq (meth := meth) (code := c) (by rw [hvm]; exact X.method') X.code, hlist, ← x3]
  refine go_cold (c := cc) (cell := cell) ?_ (by rw [x4]; decide) (by rw [hvm, x4]; exact hg₁) (by rw [hvm]; exact Vm.Alike.size_le hal) (by rw [hhp, hT]; exact hcell) (fun z h => by rw [h] at hst; cases hst) (Vm.classAt_of_findClass (hf1.trans hfc)) (Vm.classAt_of_findClass (hf1.trans hfcc)) (by rw [e1]; exact asg_self _ _)
  show covers x pc = true
  simp [covers, x1, x2, hpc.1, hpc.2]
