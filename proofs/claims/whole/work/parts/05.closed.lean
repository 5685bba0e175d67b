section SNE
/-! a closed structure: what both sides read off it -/
variable {K S oa ca sg dp pa st : Nat → Nat} {V L T L' T' : Nat → Int32} {c f x n s : Nat}
theorem sn_clo (P : sn_PI c 0 st K V S oa ca sg dp pa) (s : Nat) : (oa s = 1000 ∧ ca s = 1000) ∨ (s = 0 ∧ oa s < c ∧ K (oa s) = 3 ∧ S (oa s) = 0 ∧ ca s = oa s) ∨
    (1 ≤ s ∧ s ≤ 9 ∧ oa s < ca s ∧ ca s < c ∧ K (oa s) = 1 ∧ S (oa s) = s ∧ K (ca s) = 2 ∧ S (ca s) = s) := by
  obtain ⟨h0, h2, hV, hA, hB, hC, hD, hE⟩ := P
  rcases hA s with a | a | a | a
  · exact Or.inl a
  · exact Or.inr (Or.inl a)
  · obtain ⟨k, hk, _⟩ := hC.2.2 s a.1 a.2.2.1 a.2.2.2.2.2
    omega
  · exact Or.inr (Or.inr a)
theorem sn_mir (P : sn_PI c 0 st K V S oa ca sg dp pa) (hx : x < c) (hk : 3 ≤ K x) : pa x = 0 ∧ ∀ s, ¬ sn_enc oa ca s x := by
  rcases P.2.2.2.2.2.2.2 x hx (by omega) with a | a
  · exact ⟨a.1, a.2.2⟩
  · omega
theorem sn_mirH (P : sn_PI c 0 st K V S oa ca sg dp pa) (hx : x < c) (hk : 3 ≤ K x) : ¬ sn_hid oa ca L f x :=
  fun ⟨s, _, _, _, _, h5, h6⟩ => (sn_mir P hx hk).2 s ⟨h5, h6⟩
theorem sn_sgM (h : sn_I2 c K sg) : ∀ n, x + n ≤ c → sg x ≤ sg (x + n) := by
  intro n
  induction n with
  | zero => exact fun _ => Nat.le_refl _
  | succ n ih =>
    intro hn
    have a := ih (by omega)
    have b := h.2 (x + n) (by omega)
    have e : x + (n + 1) = x + n + 1 := by omega
    rw [e, b]; omega
theorem sn_sgM' (h : sn_I2 c K sg) {y : Nat} (hxy : x ≤ y) (hy : y ≤ c) : sg x ≤ sg y := by
  have a := sn_sgM h (x := x) (y - x) (by omega)
  rw [show x + (y - x) = y by omega] at a
  exact a
theorem sn_sgS (h : sn_I2 c K sg) {y : Nat} (hxy : x < y) (hy : y ≤ c) (hk : K x ≠ 2) : sg x < sg y := by
  have a := sn_sgM' h (x := x + 1) (y := y) (by omega) hy
  have b := h.2 x (by omega)
  rw [if_neg hk] at b
  omega
theorem sn_sg1 (h : sn_I2 c K sg) (hx : x < c) (hk : K x ≠ 2) : sg (x + 1) = sg x + 1 := by
  have b := h.2 x hx
  rw [if_neg hk] at b
  exact b
theorem sn_sg2 (h : sn_I2 c K sg) (hx : x < c) (hk : K x = 2) : sg (x + 1) = sg x := by
  have b := h.2 x hx
  rw [if_pos hk] at b
  exact b
theorem sn_sgx (h : sn_I2 c K sg) : x ≤ c → sg x ≤ x := by
  induction x with
  | zero => intro _; rw [h.1]; exact Nat.le_refl _
  | succ x ih =>
    intro hx
    have a := ih (by omega)
    have b := h.2 x (by omega)
    rw [b]
    split <;> omega
theorem sn_rr2 (k : K x = 2) : sn_rr K V S oa ca L T (x + 1) = sn_rr K V S oa ca L T x := by
  rw [sn_rr, if_neg (by omega), sn_out2 (by omega) (by omega), List.append_nil]
theorem sn_sp2 (k : K (f + n) = 2) : sn_sp K V S oa ca L T f (n + 1) = sn_sp K V S oa ca L T f n := by
  rw [sn_sp, sn_out2 (by omega) (by omega), List.append_nil]
/-- one step up the parents -/
theorem sn_ch (P : sn_PI c 0 st K V S oa ca sg dp pa) (L : Nat → Int32) (hx : x < c) (hk : K x ≠ 2) : (pa x = 0 ∧ (∀ f, ¬ sn_hid oa ca L f x) ∧ ∀ s, ¬ sn_enc oa ca s x) ∨
    (1 ≤ pa x ∧ pa x ≤ 9 ∧ oa (pa x) < x ∧ x < ca (pa x) ∧ dp x = dp (oa (pa x)) + 1 ∧ dp x ≤ 4 ∧ K (oa (pa x)) = 1 ∧ S (oa (pa x)) = pa x ∧
      (∀ f, (sn_hid oa ca L f x ↔ f ≤ oa (pa x) ∧ (L (pa x) ≠ -1 ∨ sn_hid oa ca L f (oa (pa x))))) ∧ ∀ s, sn_enc oa ca s x → s = pa x ∨ sn_enc oa ca s (oa (pa x))) := by
  rcases P.2.2.2.2.2.2.2 x hx hk with a | ⟨a1, a2, a3, a4, a5, a6, a7⟩
  · exact Or.inl ⟨a.1, fun f ⟨s, _, _, _, _, h5, h6⟩ => a.2.2 s ⟨h5, h6⟩, a.2.2⟩
  · have b1 := a3.1
    have b2 := a3.2
    have q := sn_clo P (pa x)
    have k : K (oa (pa x)) = 1 ∧ S (oa (pa x)) = pa x := by
      rcases q with q | q | q
      · omega
      · omega
      · exact ⟨q.2.2.2.2.1, q.2.2.2.2.2.1⟩
    refine Or.inr ⟨a1, a2, b1, b2, a4, a5, k.1, k.2, fun f => ⟨fun ⟨s, h1, h9, hl, hf, ho, hc⟩ => ?_, fun ⟨hf, hl⟩ => ?_⟩, a7⟩
    · rcases a7 s ⟨ho, hc⟩ with e | e
      · rw [← e]; exact ⟨hf, Or.inl hl⟩
      · have e1 := e.1
        exact ⟨by omega, Or.inr ⟨s, h1, h9, hl, hf, e.1, e.2⟩⟩
    · rcases hl with hl | ⟨s, h1, h9, hl, hf', ho, hc⟩
      · exact ⟨pa x, a1, a2, hl, hf, b1, b2⟩
      · have d := P.2.2.2.2.2.2.1 s (pa x) ho hc (by have := P.1; omega)
        exact ⟨s, h1, h9, hl, hf', by omega, by omega⟩
/-- where Y's walk over a primary ends -/
theorem sn_exit (P : sn_PI c 0 st K V S oa ca sg dp pa) (h1 : 1 ≤ s) (hs : oa s < c) : ∃ y, ca s ≤ y ∧ y ≤ c ∧ sg y = sg (ca s) ∧ (y = c ∨ (y < c ∧ K y ≠ 2 ∧ (pa y = 0 ∨ (1 ≤ pa y ∧ oa (pa y) < oa s)))) := by
  have h0 := P.1
  have q : oa s < ca s ∧ ca s < c := by
    rcases sn_clo P s with a | a | a <;> omega
  have go : ∀ m y, m + y = c → ca s ≤ y → (∀ z, ca s ≤ z → z < y → K z = 2) → sg y = sg (ca s) → ∃ y, ca s ≤ y ∧ y ≤ c ∧ sg y = sg (ca s) ∧ (y = c ∨ (y < c ∧ K y ≠ 2 ∧ (pa y = 0 ∨ (1 ≤ pa y ∧ oa (pa y) < oa s)))) := by
    intro m
    induction m with
    | zero => exact fun y hy h2 h3 h4 => ⟨y, h2, by omega, h4, Or.inl (by omega)⟩
    | succ m ih =>
      intro y hy h2 h3 h4
      by_cases k : K y = 2
      · refine ih (y + 1) (by omega) (by omega) (fun z hz1 hz2 => ?_) (by rw [sn_sg2 P.2.1 (by omega) k]; exact h4)
        by_cases e : z = y
        · rw [e]; exact k
        · exact h3 z hz1 (by omega)
      · refine ⟨y, h2, by omega, h4, Or.inr ⟨by omega, k, ?_⟩⟩
        rcases P.2.2.2.2.2.2.2 y (by omega) k with a | ⟨a1, a2, a3, a4, a5, a6, a7⟩
        · exact Or.inl a.1
        · refine Or.inr ⟨a1, ?_⟩
          have b1 := a3.1
          have b2 := a3.2
          by_cases z : oa (pa y) < oa s
          · exact z
          · exfalso
            by_cases e : oa (pa y) = oa s
            · have e2 : pa y = s := by
                have s1 : S (oa s) = s := by
                  rcases sn_clo P s with a | a | a
                  · omega
                  · omega
                  · exact a.2.2.2.2.2.1
                have s2 : S (oa (pa y)) = pa y := by
                  rcases sn_clo P (pa y) with a | a | a
                  · omega
                  · omega
                  · exact a.2.2.2.2.2.1
                rw [← s2, e, s1]
              rw [e2] at b2
              omega
            · by_cases w : oa (pa y) < ca s
              · have d := P.2.2.2.2.2.2.1 s (pa y) (by omega) w (by have := P.1; omega)
                omega
              · have k2 := h3 (oa (pa y)) (by omega) b1
                rcases sn_clo P (pa y) with a | a | a
                · omega
                · omega
                · omega
  exact go (c - ca s) (ca s) (by omega) (Nat.le_refl _) (fun z hz1 hz2 => absurd hz1 (by omega)) rfl
theorem sn_hid1 (P : sn_PI c 0 st K V S oa ca sg dp pa) (hs : oa s < c) (h1 : 1 ≤ s) (hl : L s = -1) : sn_hid oa ca L (oa s) x ↔ sn_hid oa ca L (oa s + 1) x := by
  constructor
  · intro ⟨t, t1, t9, tl, tf, to, tc⟩
    refine ⟨t, t1, t9, tl, ?_, to, tc⟩
    by_cases e : oa t = oa s
    · exfalso
      have h0 := P.1
      have s1 : S (oa s) = s := by
        rcases sn_clo P s with a | a | a
        · omega
        · omega
        · exact a.2.2.2.2.2.1
      have s2 : S (oa t) = t := by
        rcases sn_clo P t with a | a | a
        · omega
        · omega
        · exact a.2.2.2.2.2.1
      rw [e, s1] at s2
      rw [← s2] at tl
      exact tl hl
    · omega
  · exact fun ⟨t, t1, t9, tl, tf, to, tc⟩ => ⟨t, t1, t9, tl, by omega, to, tc⟩
theorem sn_sp1 (P : sn_PI c 0 st K V S oa ca sg dp pa) (hs : oa s < c) (h1 : 1 ≤ s) : (L s = -1 → sn_sp K V S oa ca L T (oa s) 1 = []) ∧ (L s ≠ -1 → sn_sp K V S oa ca L T (oa s) 1 = sn_ty L T s) := by
  have h0 := P.1
  have q : K (oa s) = 1 ∧ S (oa s) = s := by
    rcases sn_clo P s with a | a | a
    · omega
    · omega
    · exact ⟨a.2.2.2.2.1, a.2.2.2.2.2.1⟩
  have nh : ¬ sn_hid oa ca L (oa s) (oa s) := fun ⟨t, _, _, _, hf, ho, _⟩ => by omega
  constructor
  · intro hl
    show [] ++ sn_out K V S oa ca L T (oa s) (oa s) = []
    rw [sn_out2 (by omega) (fun z => z.2 (by rw [q.2]; exact hl))]; rfl
  · intro hl
    show [] ++ sn_out K V S oa ca L T (oa s) (oa s) = _
    rw [sn_out1 nh q.1 (by rw [q.2]; exact hl), q.2]; rfl
theorem sn_ptT (P : sn_PI c 0 st K V S oa ca sg dp pa) (hs : oa s < c) (h1 : 1 ≤ s) (hl : L s ≠ -1) : sn_pt K V S oa ca L T s = sn_ty L T s := by
  have h0 := P.1
  have q : s ≤ 9 ∧ oa s < ca s ∧ ca s < c := by
    rcases sn_clo P s with a | a | a <;> omega
  have go : ∀ n, n < ca s - oa s → sn_sp K V S oa ca L T (oa s) (n + 1) = sn_ty L T s := by
    intro n
    induction n with
    | zero => exact fun _ => (sn_sp1 P hs h1).2 hl
    | succ n ih =>
      intro hn
      rw [sn_sp, ih (by omega), sn_outH ⟨s, h1, q.1, hl, Nat.le_refl _, by omega, by omega⟩, List.append_nil]
  have a := go (ca s - oa s - 1) (by omega)
  rw [show ca s - oa s - 1 + 1 = ca s - oa s by omega] at a
  exact a
theorem sn_ptB (P : sn_PI c 0 st K V S oa ca sg dp pa) (hc : c ≤ 65) (h8 : ∀ s, s ≤ 9 → (L s).toNatClampNeg ≤ 8) (hs : s ≤ 9) : (sn_pt K V S oa ca L T s).length ≤ 145 := by
  unfold sn_pt
  have h0 := P.1
  rcases sn_clo P s with a | a | a
  · rw [a.1, a.2]; show 0 ≤ 145; omega
  · rw [a.2.2.2.2, Nat.sub_self]; show 0 ≤ 145; omega
  · have b := sn_spB' (V := V) (T := T) (f := oa s) (n := ca s - oa s) P.2.2.2.2.1 h8 (by omega)
    omega
theorem sn_rrB (P : sn_PI c 0 st K V S oa ca sg dp pa) (hc : c ≤ 65) (h8 : ∀ s, s ≤ 9 → (L s).toNatClampNeg ≤ 8) : x ≤ c → (sn_rr K V S oa ca L T x).length ≤ 145 * x := by
  induction x with
  | zero => exact fun _ => Nat.le_refl _
  | succ x ih =>
    intro hx
    have a := ih (by omega)
    rw [sn_rr, List.length_append]
    by_cases k : 4 ≤ K x
    · rw [if_pos k, sn_trL]
      have q : S x ≤ 9 := by
        rcases P.2.2.2.2.1 x (by omega) with b | b | b | b | b <;> omega
      have b := sn_ptB (V := V) (T := T) P hc h8 q
      omega
    · rw [if_neg k]
      have b := sn_spB' (V := V) (T := T) (f := 0) (n := x) P.2.2.2.2.1 h8 (by omega)
      have d := sn_outB (V := V) (T := T) (f := 0) P.2.2.2.2.1 (show x < c by omega) h8
      have e := sn_qB oa (x + 1)
      omega
theorem sn_rrB' (P : sn_PI c 0 st K V S oa ca sg dp pa) (hc : c ≤ 65) (h8 : ∀ s, s ≤ 9 → (L s).toNatClampNeg ≤ 8) (hx : x ≤ c) : (sn_rr K V S oa ca L T x).length ≤ 10000 := by
  have a := sn_rrB (V := V) (T := T) P hc h8 hx
  omega
/-- an alive stop's end -/
theorem sn_rrP (P : sn_PI c 0 st K V S oa ca sg dp pa) (h1 : 1 ≤ s) (hs : oa s < c) (ha : ¬ sn_hid oa ca L 0 (oa s)) :
    sn_rr K V S oa ca L T (ca s) = sn_rr K V S oa ca L T (oa s) ++ sn_pt K V S oa ca L T s := by
  have h0 := P.1
  have q : oa s < ca s ∧ ca s < c ∧ K (oa s) = 1 := by
    rcases sn_clo P s with a | a | a
    · omega
    · omega
    · exact ⟨a.2.2.1, a.2.2.2.1, a.2.2.2.2.1⟩
  have kk : ∀ x, oa s ≤ x → x < oa s + (ca s - oa s) → K x < 4 := by
    intro x h1 h2
    by_cases z : 4 ≤ K x
    · exfalso
      by_cases e : x = oa s
      · rw [e] at z; omega
      · exact (sn_mir (x := x) P (by omega) (by omega)).2 s ⟨by omega, by omega⟩
    · omega
  have a := sn_rrS (K := K) (V := V) (S := S) (oa := oa) (ca := ca) (L := L) (T := T) (f := oa s) (n := ca s - oa s) (fun x h1 h2 => ⟨kk x h1 h2, sn_hidP ha h1⟩)
  rw [show oa s + (ca s - oa s) = ca s by omega] at a
  exact a
/-- from behind a mirror on -/
theorem sn_rrF (P : sn_PI c 0 st K V S oa ca sg dp pa) (hm : f = 0 ∨ (∃ m, f = m + 1 ∧ m < c ∧ 4 ≤ K m)) (hn : f + n ≤ c) (hk : ∀ x, f ≤ x → x < f + n → K x < 4) :
    sn_rr K V S oa ca L T (f + n) = sn_rr K V S oa ca L T f ++ sn_sp K V S oa ca L T f n := by
  refine sn_rrS (fun x h1 h2 => ⟨hk x h1 h2, ⟨fun ⟨t, t1, t9, tl, tf, to, tc⟩ => ⟨t, t1, t9, tl, by omega, to, tc⟩, fun ⟨t, t1, t9, tl, tf, to, tc⟩ => ⟨t, t1, t9, tl, ?_, to, tc⟩⟩⟩)
  rcases hm with e | ⟨m, e, hm, km⟩
  · omega
  · by_cases z : f ≤ oa t
    · exact z
    · exfalso
      by_cases e2 : oa t = m
      · have h0 := P.1
        have k1 : K (oa t) = 1 := by
          rcases sn_clo P t with a | a | a
          · omega
          · omega
          · exact a.2.2.2.2.1
        rw [e2] at k1
        omega
      · exact (sn_mir P hm (by omega)).2 t ⟨by omega, by omega⟩
theorem sn_rrMo (P : sn_PI c 0 st K V S oa ca sg dp pa) (h1 : ∀ s, s ≤ 9 → L s ≠ -1 → L' s ≠ -1) (h2 : ∀ s, s ≤ 9 → (L' s).toNatClampNeg ≤ (L s).toNatClampNeg) : x ≤ c → (sn_rr K V S oa ca L' T' x).length ≤ (sn_rr K V S oa ca L T x).length := by
  induction x with
  | zero => exact fun _ => Nat.le_refl _
  | succ x ih =>
    intro hx
    have i := ih (by omega)
    have h0 := P.1
    rw [sn_rr, sn_rr, List.length_append, List.length_append]
    by_cases k : 4 ≤ K x
    · rw [if_pos k, if_pos k, sn_trL, sn_trL]
      have q : oa (S x) + (ca (S x) - oa (S x)) ≤ c ∨ ca (S x) - oa (S x) = 0 := by
        rcases sn_clo P (S x) with a | a | a <;> omega
      have a : (sn_pt K V S oa ca L' T' (S x)).length ≤ (sn_pt K V S oa ca L T (S x)).length := by
        unfold sn_pt
        rcases q with q | q
        · exact sn_spM P.2.2.2.2.1 q h1 h2
        · rw [q]; exact Nat.le_refl _
      omega
    · rw [if_neg k, if_neg k]
      have a := sn_outM (V := V) (T := T) (T' := T') (f := 0) (x := x) P.2.2.2.2.1 (by omega) h1 h2
      omega
theorem sn_rrLC (P : sn_PI c 0 st K V S oa ca sg dp pa) (hl : ∀ s, s ≤ 9 → L' s = L s) (hx : x ≤ c) : (sn_rr K V S oa ca L' T' x).length = (sn_rr K V S oa ca L T x).length :=
  Nat.le_antisymm (sn_rrMo P (fun s hs z => by rw [hl s hs]; exact z) (fun s hs => by rw [hl s hs]; exact Nat.le_refl _) hx)
    (sn_rrMo P (fun s hs z => by rw [← hl s hs]; exact z) (fun s hs => by rw [hl s hs]; exact Nat.le_refl _) hx)
end SNE
