section TEXT
variable {X : Cx} {d : Nat} {M : MI} {pc pc2 : Nat} {lv : Lv} {st : List AV} {S : Mem} {Q : Res → Mem → Prop}
theorem V_aast27 {a v : Nat} {i : Int32} (hd : decode M.2.1 pc = .ok (.aastore, 1)) (hp : pc + 1 = pc2) (ho : isK S a 27) (hin : vp_in i (gN S a)) (hv1 : 2 ≤ v) (hv2 : v < 27) (kk : V X d M pc2 lv st (uR S a i.toNatClampNeg v) Q) : V X d M pc lv (vR v :: vI i :: vR a :: st) S Q := by
  refine V_aastK (k := 27) (by decide) (by decide) hd hp ho hin (by omega) (fun {s H} G hW hH => ?_) kk
  have hKs := G.2.1.moved hW.alike
  obtain ⟨adV, hs⟩ := G.2.2.2.2.2.2.2.2
  obtain ⟨cell, q1, q2, q3, -⟩ := (va_O.moved hW.alike (hs.1 (v - 2) (by omega)).1).kept hH.old
  have ev : ad X v = xs X (v - 2 + 2) := by unfold ad; rw [if_pos (by omega)]; congr 1; omega
  obtain ⟨kA, comp, k1, k2, k3, -⟩ := (hKs.2 7 _ rfl).2
  have hcomp : comp = cell.cls := Option.some.inj (k3.symm.trans q3)
  subst hcomp
  obtain ⟨kC, hkC, -⟩ := Vm.findClass_spec q3
  exact ⟨kA, _, kC, cell, kC, k1, k2, hkC, by rw [ev]; exact q1, fun q h => (by rw [h] at q2; cases q2), hkC, va_asg _ _⟩
end TEXT
