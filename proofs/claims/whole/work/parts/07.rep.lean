section SNG
/-! how the two classes hold a structure -/
variable {K S oa ca sg dp pa st : Nat → Nat} {V : Nat → Int32} {c d : Nat}
def sn_o (y : Nat) : Int32 := if y = 1000 then -1 else nI y
theorem sn_o0 {y : Nat} (h : y = 1000) : sn_o y = -1 := if_pos h
theorem sn_o1 {y : Nat} (h : y ≠ 1000) : sn_o y = nI y := if_neg h
def sn_XS (c : Nat) (K : Nat → Nat) (V : Nat → Int32) (oa ca : Nat → Nat) (ik iv op cl : Nat → Int32) : Prop :=
  (∀ x, x < c → ik x = nI (K x) ∧ iv x = V x) ∧ (∀ s, s ≤ 9 → op s = sn_o (oa s)) ∧ (∀ s, s ≤ 9 → cl s = sn_o (ca s))
theorem sn_xA {k : Nat} {v : Int32} {ik iv op cl : Nat → Int32} (h : sn_XS c K V oa ca ik iv op cl) : sn_XS (c + 1) (sn_u K c k) (upd V c v) oa ca (upd ik c (nI k)) (upd iv c v) op cl := by
  refine ⟨fun x hx => ?_, h.2⟩
  by_cases z : x = c
  · rw [z, pk_us, pk_us, sn_us, pk_us]; exact ⟨rfl, rfl⟩
  · rw [pk_un z, pk_un z, sn_un z, pk_un z]; exact h.1 x (by omega)
theorem sn_xO {s y : Nat} {ik iv op cl : Nat → Int32} (h : sn_XS c K V oa ca ik iv op cl) (hy : y ≠ 1000) : sn_XS c K V (sn_u oa s y) ca ik iv (upd op s (nI y)) cl := by
  refine ⟨h.1, fun t ht => ?_, h.2.2⟩
  by_cases z : t = s
  · rw [z, pk_us, sn_us, sn_o1 hy]
  · rw [pk_un z, sn_un z]; exact h.2.1 t ht
theorem sn_xC {s y : Nat} {ik iv op cl : Nat → Int32} (h : sn_XS c K V oa ca ik iv op cl) (hy : y ≠ 1000) : sn_XS c K V oa (sn_u ca s y) ik iv op (upd cl s (nI y)) := by
  refine ⟨h.1, h.2.1, fun t ht => ?_⟩
  by_cases z : t = s
  · rw [z, pk_us, sn_us, sn_o1 hy]
  · rw [pk_un z, sn_un z]; exact h.2.2 t ht
def sn_yp (sg oa : Nat → Nat) (p : Nat) : Int32 := if p = 0 then -1 else nI (sg (oa p))
/-- kind and val of Y for an item of kind k with value v -/
def sn_yk (k : Nat) (v kk vv : Int32) : Prop := (k = 0 → kk = 0 ∧ vv = v) ∧ (k = 1 → kk = 1 ∨ kk = 2) ∧ (k = 3 → kk = 4) ∧ (4 ≤ k → kk = 3 ∧ vv = nI (k - 4))
def sn_YS (c : Nat) (K : Nat → Nat) (V : Nat → Int32) (S oa sg pa : Nat → Nat) (nI' fi : Int32) (ki va so pr pm : Nat → Int32) : Prop :=
  nI' = nI (sg c) ∧ (∀ x, x < c → K x ≠ 2 → so (sg x) = nI (S x) ∧ pr (sg x) = sn_yp sg oa (pa x) ∧ sn_yk (K x) (V x) (ki (sg x)) (va (sg x))) ∧
  (∀ s, 1 ≤ s → s ≤ 9 → pm s = if oa s = 1000 then -1 else nI (sg (oa s))) ∧ (fi = if oa 0 = 1000 then -1 else nI (sg (oa 0)))
theorem sn_pa0 (P : sn_PI c d st K V S oa ca sg dp pa) {x : Nat} (hx : x < c) (hk : K x ≠ 2) : pa x = 0 ∨ oa (pa x) < c := by
  rcases P.2.2.2.2.2.2.2 x hx hk with a | ⟨a1, a2, a3, _⟩
  · exact Or.inl a.1
  · have := a3.1
    exact Or.inr (by omega)
theorem sn_ypC {sg' oa' : Nat → Nat} {p : Nat} (h : p = 0 ∨ sg' (oa' p) = sg (oa p)) : sn_yp sg' oa' p = sn_yp sg oa p := by
  unfold sn_yp
  rcases h with h | h
  · rw [if_pos h, if_pos h]
  · rw [h]
theorem sn_yA {k s p : Nat} {v n0 fi kk vv pp : Int32} {ki va so pr pm : Nat → Int32} (P : sn_PI c d st K V S oa ca sg dp pa) (h : sn_YS c K V S oa sg pa n0 fi ki va so pr pm)
    (hyk : sn_yk k v kk vv) (hp : p = 0 ∨ oa p < c) (hpp : pp = sn_yp sg oa p) :
    sn_YS (c + 1) (sn_u K c k) (upd V c v) (sn_u S c s) oa (sn_u sg (c + 1) (sg c + 1)) (sn_u pa c p) (nI (sg c + 1)) fi (upd ki (sg c) kk) (upd va (sg c) vv) (upd so (sg c) (nI s)) (upd pr (sg c) pp) pm := by
  have oc : ∀ t, oa t ≠ 1000 → oa t < c := fun t z => by
    have := sn_oac P.2.2.2.1 t
    omega
  have c0 := P.1
  refine ⟨by rw [sn_us], fun x hx hk => ?_, fun t h1 h9 => ?_, ?_⟩
  · by_cases z : x = c
    · rw [z, sn_us, sn_us, sn_us, pk_us, sn_un (show c ≠ c + 1 by omega), pk_us, pk_us, pk_us, pk_us]
      refine ⟨rfl, ?_, hyk⟩
      rw [hpp]
      refine (sn_ypC ?_).symm
      rcases hp with e | e
      · exact Or.inl e
      · exact Or.inr (sn_un (by omega))
    · rw [sn_un z] at hk
      have q := h.2.1 x (by omega) hk
      have lt := sn_sgS P.2.1 (show x < c by omega) (Nat.le_refl c) hk
      have ne : sg x ≠ sg c := by omega
      rw [sn_un z, sn_un z, sn_un z, pk_un z, sn_un (show x ≠ c + 1 by omega), pk_un ne, pk_un ne, pk_un ne, pk_un ne]
      refine ⟨q.1, ?_, q.2.2⟩
      rw [q.2.1]
      refine (sn_ypC ?_).symm
      rcases sn_pa0 P (show x < c by omega) hk with e | e
      · exact Or.inl e
      · exact Or.inr (sn_un (by omega))
  · rw [h.2.2.1 t h1 h9]
    by_cases z : oa t = 1000
    · rw [if_pos z, if_pos z]
    · have := oc t z
      rw [if_neg z, if_neg z, sn_un (by omega)]
  · rw [h.2.2.2]
    by_cases z : oa 0 = 1000
    · rw [if_pos z, if_pos z]
    · have := oc 0 z
      rw [if_neg z, if_neg z, sn_un (by omega)]
/-- a stop's place is set -/
theorem sn_yO {s y : Nat} {n0 fi : Int32} {ki va so pr pm : Nat → Int32} (h : sn_YS c K V S oa sg pa n0 fi ki va so pr pm) (hs : 1 ≤ s) (hy : y ≠ 1000) (ha : oa s = 1000)
    (hp : ∀ x, x < c → K x ≠ 2 → pa x = 0 ∨ oa (pa x) ≠ 1000) : sn_YS c K V S (sn_u oa s y) sg pa n0 fi ki va so pr (upd pm s (nI (sg y))) := by
  refine ⟨h.1, fun x hx hk => ?_, fun t h1 h9 => ?_, ?_⟩
  · have q := h.2.1 x hx hk
    refine ⟨q.1, ?_, q.2.2⟩
    rw [q.2.1]
    refine (sn_ypC ?_).symm
    rcases hp x hx hk with e | e
    · exact Or.inl e
    · refine Or.inr ?_
      rw [sn_un (fun z => by rw [z] at e; exact e ha)]
  · by_cases z : t = s
    · rw [z, pk_us, sn_us, if_neg hy]
    · rw [pk_un z, sn_un z]; exact h.2.2.1 t h1 h9
  · rw [sn_un (by omega)]; exact h.2.2.2
theorem sn_yF {y : Nat} {n0 fi : Int32} {ki va so pr pm : Nat → Int32} (h : sn_YS c K V S oa sg pa n0 fi ki va so pr pm) (hy : y ≠ 1000) :
    sn_YS c K V S (sn_u oa 0 y) sg pa n0 (nI (sg y)) ki va so pr pm := by
  refine ⟨h.1, fun x hx hk => ?_, fun t h1 h9 => ?_, ?_⟩
  · have q := h.2.1 x hx hk
    refine ⟨q.1, ?_, q.2.2⟩
    rw [q.2.1]
    refine (sn_ypC ?_).symm
    by_cases z : pa x = 0
    · exact Or.inl z
    · exact Or.inr (by rw [sn_un z])
  · rw [sn_un (by omega)]; exact h.2.2.1 t h1 h9
  · rw [sn_us, if_neg hy]
/-- a CLOSE is nothing for Y -/
theorem sn_yC {s : Nat} {v n0 fi : Int32} {ki va so pr pm : Nat → Int32} (P : sn_PI c d st K V S oa ca sg dp pa) (h : sn_YS c K V S oa sg pa n0 fi ki va so pr pm) :
    sn_YS (c + 1) (sn_u K c 2) (upd V c v) (sn_u S c s) oa (sn_u sg (c + 1) (sg c + 0)) pa n0 fi ki va so pr pm := by
  have oc : ∀ t, oa t ≠ 1000 → oa t < c := fun t z => by
    have := sn_oac P.2.2.2.1 t
    omega
  refine ⟨by rw [sn_us]; exact h.1, fun x hx hk => ?_, fun t h1 h9 => ?_, ?_⟩
  · by_cases z : x = c
    · rw [z, sn_us] at hk; exact absurd rfl hk
    · rw [sn_un z] at hk
      have q := h.2.1 x (by omega) hk
      rw [sn_un z, sn_un z, pk_un z, sn_un (show x ≠ c + 1 by omega)]
      refine ⟨q.1, ?_, q.2.2⟩
      rw [q.2.1]
      refine (sn_ypC ?_).symm
      rcases sn_pa0 P (show x < c by omega) hk with e | e
      · exact Or.inl e
      · exact Or.inr (sn_un (by omega))
  · rw [h.2.2.1 t h1 h9]
    by_cases z : oa t = 1000
    · rw [if_pos z, if_pos z]
    · have := oc t z
      rw [if_neg z, if_neg z, sn_un (by omega)]
  · rw [h.2.2.2]
    by_cases z : oa 0 = 1000
    · rw [if_pos z, if_pos z]
    · have := oc 0 z
      rw [if_neg z, if_neg z, sn_un (by omega)]
/-- n places of a from p written into b from q on -/
def sn_cp (a : Nat → Int32) (p : Nat) (b : Nat → Int32) (q n : Nat) : Nat → Int32 := fun j => if q ≤ j ∧ j < q + n then a (p + (j - q)) else b j
theorem sn_cp0 (a : Nat → Int32) (p : Nat) (b : Nat → Int32) (q : Nat) : sn_cp a p b q 0 = b := by
  funext j; unfold sn_cp; exact if_neg (by omega)
theorem sn_cpS (a : Nat → Int32) (p : Nat) (b : Nat → Int32) (q n : Nat) : upd (sn_cp a p b q n) (q + n) (a (p + n)) = sn_cp a p b q (n + 1) := by
  funext j; unfold sn_cp upd
  by_cases z : j = q + n
  · rw [if_pos z, if_pos (by omega), z, show q + n - q = n by omega]
  · rw [if_neg z]
    dsimp only
    by_cases y : q ≤ j ∧ j < q + n
    · rw [if_pos y, if_pos (by omega)]
    · rw [if_neg y, if_neg (by omega)]
theorem sn_cpI {a b : Nat → Int32} {p q n j : Nat} (h : j < n) : sn_cp a p b q n (q + j) = a (p + j) := by
  unfold sn_cp; rw [if_pos (by omega), show q + j - q = j by omega]
theorem sn_cpO {a b : Nat → Int32} {p q n j : Nat} (h : j < q ∨ q + n ≤ j) : sn_cp a p b q n j = b j := by
  unfold sn_cp; exact if_neg (by omega)
end SNG
