section SOB
theorem i_vc0 (k0 : Int32) (k1 : Int32) : wpX_init (fun u => wpY_init (fun v => i_Rel 2 u v) k0 k1) k0 k1 := by
  unfold wpX_init
  refine sn_clamp (x := k0) 8 64 rfl rfl (by omega) (by omega) (fun cap c1 c2 c3 c4 c5 => ?_)
  refine sn_clamp (x := k1) 1 16 rfl rfl (by omega) (by omega) (fun hc h1 h2 h3 h4 h5 => ?_)
  refine sn_xclr (fun L hL => ?_)
  have fin : i_Rel 2 (nI cap, nI hc, 0, 0, 0, 0, 0, 0, 0, 0, 0, -1, 0, 0, 0, 0, fun _ => 0, fun _ => 0, fun _ => 0, fun _ => 0, fun _ => 0, fun _ => 0, fun _ => 0, fun _ => 0, L, fun _ => 0, fun _ => 0, fun _ => 0, fun _ => 0, fun _ => 0, fun _ => 0, fun _ => 0)
      (nI cap, nI hc, 0, 0, 0, 0, 0, 0, 0, 0, -1, 0, -1, 0, 0, 0, 0, 0, 0, 0, 0, 0, fun _ => 0, fun _ => 0, fun _ => 0, fun _ => 0, fun _ => 0, fun _ => 0, fun _ => 0, fun _ => 0, fun _ => 0, fun _ => 0, fun _ => 0, fun _ => 0, fun _ => 0, fun _ => 0, fun _ => 0, fun _ => 0, fun _ => 0, fun _ => 0, fun _ => 0) := by
    refine sn_mk (dep := 0) (n := 0) (sb := 0) (bl := 0) (bp := 0) (i := 0) (c := 0) (d := 0) (st := fun _ => 0) (K := fun _ => 0) (V := fun _ => 0) (S := fun _ => 0) (oa := fun _ => 0) (ca := fun _ => 0) (sg := fun _ => 0) (dp := fun _ => 0) (pa := fun _ => 0) ⟨⟨by omega, by omega, by omega, by omega, by omega, by omega, by omega, by omega, by omega⟩, fun s hs => Or.inl ⟨hL s hs, rfl, rfl⟩, ⟨Or.inl rfl, Or.inl rfl, 0, 0, rfl, rfl, by omega, by omega, Or.inl ⟨rfl, rfl⟩⟩, fun h hh => absurd hh (by omega)⟩
  have Y191 : ∀ z : Int32, z = nI cap → wY_init_191 (fun v => i_Rel 2 (nI cap, nI hc, 0, 0, 0, 0, 0, 0, 0, 0, 0, -1, 0, 0, 0, 0, fun _ => 0, fun _ => 0, fun _ => 0, fun _ => 0, fun _ => 0, fun _ => 0, fun _ => 0, fun _ => 0, L, fun _ => 0, fun _ => 0, fun _ => 0, fun _ => 0, fun _ => 0, fun _ => 0, fun _ => 0) v) k1 z 0 0 0 0 0 0 0 0 0 0 (-1) 0 (-1) 0 0 0 0 0 0 0 0 0 (fun _ => 0) (fun _ => 0) (fun _ => 0) (fun _ => 0) (fun _ => 0) (fun _ => 0) (fun _ => 0) (fun _ => 0) (fun _ => 0) (fun _ => 0) (fun _ => 0) (fun _ => 0) (fun _ => 0) (fun _ => 0) (fun _ => 0) (fun _ => 0) (fun _ => 0) (fun _ => 0) (fun _ => 0) := by
    intro z ez
    subst ez
    by_cases a : 1 ≤ k1
    · by_cases b : k1 ≤ 16
      · have e := h5 a b
        refine br_t a (br_t b ?_)
        rw [e]; exact fin
      · have e := h4 a b
        subst e
        exact br_t a (br_f b fin)
    · have e := h3 a
      subst e
      exact br_f a fin
  by_cases a : 8 ≤ k0
  · by_cases b : k0 ≤ 64
    · exact br_t a (br_t b (Y191 _ (c5 a b)))
    · exact br_t a (br_f b (Y191 _ (by rw [c4 a b]; rfl)))
  · exact br_f a (Y191 _ (by rw [c3 a]; rfl))
end SOB
