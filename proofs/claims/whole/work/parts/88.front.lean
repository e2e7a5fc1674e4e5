/-! worlds, their parts moved -/
section SWR
variable {γ : GT} {A : Nat → Prop} {κ : KG} {Q : State → Prop} {nL k n pc : Nat} {L : List (Nat × Value)} {st : List Value} {w0 w1 w2 T P X W0 : va_W} {a x : Nat × va_E}
theorem g_swr (kk : G γ A κ Q nL k n pc L st (w0 ++ (w2 ++ w1))) : G γ A κ Q nL k n pc L st (w0 ++ (w1 ++ w2)) := fun H locs ls hP hD hS hl => by
  refine kk H locs ls (hP.l.app hP.r.sw) (hD.l.app hD.r.sw (fun i j p q hi hj => ?_)) hS hl
  have hm : q ∈ w1 ++ w2 := List.mem_append.mpr (List.mem_append.mp (List.mem_of_getElem? hj)).symm
  obtain ⟨j', hj'⟩ := List.getElem?_of_mem hm
  exact hD.apart hi hj'
theorem g_front (kk : G γ A κ Q nL k n pc L st (a :: x :: T)) : G γ A κ Q nL k n pc L st ((a :: T) ++ [x]) :=
  g_swr (w0 := [a]) (w1 := T) (w2 := [x]) kk
theorem g_rot (kk : G γ A κ Q nL k n pc L st ((P ++ X) ++ W0)) : G γ A κ Q nL k n pc L st ((P ++ W0) ++ X) := by
  rw [List.append_assoc] at kk ⊢
  exact g_swr kk
end SWR
