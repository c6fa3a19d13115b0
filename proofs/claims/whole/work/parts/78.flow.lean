/-! rows of sets, counted -/
def stp' (ok : Nat → Nat → Bool) (nx : Nat → Nat → Nat) (g : Nat → Nat) (s n : Nat) : Nat := sumN (fun y => if ok s y = true then g (nx s y) else 0) n
def Wy (okI : Nat → Nat → Nat → Bool) (nx : Nat → Nat → Nat) : Nat → Nat → Nat → Nat
  | 0, _, _ => 1
  | r + 1, i, s => stp' (okI i) nx (Wy okI nx r (i + 1)) s 32
theorem Wy_le {okI : Nat → Nat → Nat → Bool} {nx : Nat → Nat → Nat} : ∀ r i s, Wy okI nx r i s ≤ 32 ^ r
  | 0, _, _ => Nat.le_refl _
  | r + 1, i, s => by
    have h := sumN_le (f := fun y => if okI i s y = true then Wy okI nx r (i + 1) (nx s y) else 0) (32 ^ r) 32 (fun y _ => by
      show (if okI i s y = true then Wy okI nx r (i + 1) (nx s y) else 0) ≤ 32 ^ r
      split
      · exact Wy_le r _ _
      · exact Nat.zero_le _)
    show sumN (fun y => if okI i s y = true then Wy okI nx r (i + 1) (nx s y) else 0) 32 ≤ 32 ^ (r + 1)
    rw [Nat.pow_succ]
    exact h
theorem stp'_le {ok : Nat → Nat → Bool} {nx : Nat → Nat → Nat} {g : Nat → Nat} {s : Nat} (c : Nat) (h : ∀ x, g x ≤ c) (n : Nat) : stp' ok nx g s n ≤ c * n := sumN_le c n (fun y _ => by
  show (if ok s y = true then g (nx s y) else 0) ≤ c
  split
  · exact h _
  · omega)
theorem stp'_out {ok : Nat → Nat → Bool} {nx : Nat → Nat → Nat} {g : Nat → Nat} {s N : Nat} (h : ∀ y, N ≤ y → y < 32 → ok s y = false) (hN : N ≤ 32) : stp' ok nx g s 32 = stp' ok nx g s N := by
  unfold stp'
  have e := sumN_split (fun y => if ok s y = true then g (nx s y) else 0) N (32 - N)
  rw [show N + (32 - N) = 32 by omega] at e
  rw [e, sumN_0 (32 - N) (fun p hp => by
    show (if ok s (N + p) = true then g (nx s (N + p)) else 0) = 0
    rw [if_neg (by rw [h (N + p) (by omega) (by omega)]; decide)]), Nat.add_zero]
theorem Wy_hom {okI : Nat → Nat → Nat → Bool} {nx nx' : Nat → Nat → Nat} {π : Nat → Nat} (h1 : ∀ i s set, okI i (π s) set = okI i s set) (h2 : ∀ s set, nx' (π s) set = π (nx s set)) : ∀ r i s, Wy okI nx' r i (π s) = Wy okI nx r i s
  | 0, _, _ => rfl
  | r + 1, i, s => by
    show sumN (fun y => if okI i (π s) y = true then Wy okI nx' r (i + 1) (nx' (π s) y) else 0) 32 = sumN (fun y => if okI i s y = true then Wy okI nx r (i + 1) (nx s y) else 0) 32
    refine sumN_congr 32 (fun y _ => ?_)
    show (if okI i (π s) y = true then Wy okI nx' r (i + 1) (nx' (π s) y) else 0) = (if okI i s y = true then Wy okI nx r (i + 1) (nx s y) else 0)
    rw [h1, h2, Wy_hom h1 h2 r]
theorem sumN_upd {f g : Nat → Nat} {j : Nat} : ∀ {n : Nat}, j < n → (∀ x, x ≠ j → g x = f x) → sumN g n + f j = sumN f n + g j
  | 0, h, _ => absurd h (by omega)
  | n + 1, h, e => by
    rw [sumN_s, sumN_s]
    by_cases q : j = n
    · subst q
      rw [sumN_congr j (fun p hp => e p (by omega))]
      omega
    · have ih := sumN_upd (n := n) (by omega) e
      rw [e n (fun h => q h.symm)]
      omega
theorem sumN_add {f g : Nat → Nat} : ∀ n, sumN (fun x => f x + g x) n = sumN f n + sumN g n
  | 0 => rfl
  | n + 1 => by rw [sumN_s, sumN_s, sumN_s, sumN_add n]; omega
/-- a sum over all states is one over a list of those that count -/
theorem sumN_list {f : Nat → Nat} {N : Nat} : ∀ {l : List Nat}, l.Nodup → (∀ s, s ∈ l → s < N) → (∀ s, s < N → ¬ s ∈ l → f s = 0) → sumN f N = sumL f l := by
  have key : ∀ (l : List Nat), l.Nodup → (∀ s, s ∈ l → s < N) → sumN (fun s => if s ∈ l then f s else 0) N = sumL f l := by
    intro l
    induction l with
    | nil => intro _ _; simp only [List.not_mem_nil, if_false]; rw [sumN_0 N (fun _ _ => rfl)]; rfl
    | cons x l ih =>
      intro hn hs
      obtain ⟨h1, h2⟩ := List.nodup_cons.mp hn
      have e := sumN_upd (f := fun s => if s ∈ l then f s else 0) (g := fun s => if s ∈ x :: l then f s else 0) (j := x) (n := N) (hs x List.mem_cons_self) (fun y hy => by simp [hy])
      simp only [if_neg h1, List.mem_cons_self, if_true] at e
      have e2 : sumL f (x :: l) = f x + sumL f l := by simp [sumL]
      rw [e2, ← ih h2 (fun s hs' => hs s (List.mem_cons_of_mem _ hs'))]
      omega
  intro l hn hs h0
  rw [← key l hn hs]
  refine sumN_congr N (fun s hs' => ?_)
  by_cases q : s ∈ l
  · rw [if_pos q]
  · rw [if_neg q]; exact h0 s hs' q
theorem sumL_idx {f : Nat → Nat} : ∀ (l : List Nat), sumL f l = sumN (fun j => f (l.getD j 0)) l.length
  | [] => rfl
  | x :: l => by
    have e2 : sumL f (x :: l) = f x + sumL f l := by simp [sumL]
    have e3 := sumN_split (fun j => f ((x :: l).getD j 0)) 1 l.length
    rw [e2, sumL_idx l, List.length_cons, show l.length + 1 = 1 + l.length by omega, e3]
    have e4 : sumN (fun j => f ((x :: l).getD j 0)) 1 = f x := by simp [sumN]
    rw [e4]
    congr 1
    refine sumN_congr _ (fun j hj => ?_)
    show f (l.getD j 0) = f ((x :: l).getD (1 + j) 0)
    rw [show 1 + j = j + 1 by omega]
    rfl
/-! the class's fronts -/
def FS : Type := List Nat × (Nat → Nat) × (Nat → Nat)
def FS.l (F : FS) : List Nat := F.1
def FS.wy (F : FS) : Nat → Nat := F.2.1
def FS.hd (F : FS) : Nat → Nat := F.2.2
def mkF (l : List Nat) (wy hd : Nat → Nat) : FS := (l, wy, hd)
def FS.nil : FS := mkF [] (fun _ => 0) (fun _ => 0)
def addF (F : FS) (s w mask : Nat) : FS := if s ∈ F.l then mkF F.l (ud F.wy s (F.wy s + w)) (ud F.hd s (F.hd s &&& mask)) else mkF (F.l ++ [s]) (ud F.wy s w) (ud F.hd s mask)
def FrT (M : AM) (z : Int) (F : FS) : Prop := M z 1 = F.l.length ∧ (∀ j : Nat, j < F.l.length → M (z + 1) j = F.l.getD j 0) ∧ (∀ s : Nat, s < 3125 → M (z + 2) s = if s ∈ F.l then (F.wy s : Int) else 0) ∧ (∀ s : Nat, s ∈ F.l → M (z + 3) s = F.hd s) ∧ F.l.Nodup ∧ (∀ s, s ∈ F.l → s < 3125) ∧ ∀ s, s ∈ F.l → 0 < F.wy s
theorem FrT.inv {M : AM} {z : Int} {F : FS} (h : FrT M z F) : FrI M z := ⟨F.l, h.1, h.2.1, h.2.2.2.2.1, h.2.2.2.2.2.1, fun s hs hn => by rw [h.2.2.1 s hs, if_neg hn]⟩
theorem FrT.eq {M N : AM} {z : Int} {F : FS} (h : FrT M z F) (h0 : N z = M z) (h1 : N (z + 1) = M (z + 1)) (h2 : N (z + 2) = M (z + 2)) (h3 : N (z + 3) = M (z + 3)) : FrT N z F := by
  unfold FrT
  rw [h0, h1, h2, h3]
  exact h
def FS.val (F : FS) (g : Nat → Nat) : Nat := sumL (fun s => F.wy s * g s) F.l
theorem addF_mem {F : FS} {s w mask x : Nat} : x ∈ (addF F s w mask).l ↔ x ∈ F.l ∨ x = s := by
  unfold addF
  by_cases q : s ∈ F.l
  · rw [if_pos q]
    exact ⟨Or.inl, fun h => h.elim id (fun e => e ▸ q)⟩
  · rw [if_neg q]
    show x ∈ F.l ++ [s] ↔ _
    simp
theorem addF_l {F : FS} {s w mask : Nat} : (addF F s w mask).l = addL F.l s := by
  unfold addF addL
  by_cases q : s ∈ F.l
  · rw [if_pos q, if_pos q]; rfl
  · rw [if_neg q, if_neg q]; rfl
theorem sumL_app {f : Nat → Nat} {l r : List Nat} : sumL f (l ++ r) = sumL f l + sumL f r := by
  unfold sumL
  rw [List.map_append, List.sum_append]
theorem addF_val {F : FS} {s w mask : Nat} (hn : F.l.Nodup) (g : Nat → Nat) : (addF F s w mask).val g = F.val g + w * g s := by
  unfold addF
  by_cases q : s ∈ F.l
  · rw [if_pos q]
    show sumL (fun x => ud F.wy s (F.wy s + w) x * g x) F.l = sumL (fun s => F.wy s * g s) F.l + w * g s
    have e := sumL_upd (f := fun x => F.wy x * g x) (s := s) (v := (F.wy s + w) * g s) hn
    rw [if_pos q, if_pos q] at e
    have e2 : sumL (fun x => ud F.wy s (F.wy s + w) x * g x) F.l = sumL (fun x => if x = s then (F.wy s + w) * g s else F.wy x * g x) F.l := by
      refine sumL_congr (fun x _ => ?_)
      by_cases ex : x = s
      · subst ex; simp only [ud_eq, if_true]
      · simp only [ud_ne ex, if_neg ex]
    rw [e2]
    have e3 : (F.wy s + w) * g s = F.wy s * g s + w * g s := Nat.add_mul _ _ _
    omega
  · rw [if_neg q]
    show sumL (fun x => ud F.wy s w x * g x) (F.l ++ [s]) = sumL (fun s => F.wy s * g s) F.l + w * g s
    rw [sumL_app]
    have e1 : sumL (fun x => ud F.wy s w x * g x) F.l = sumL (fun s => F.wy s * g s) F.l := sumL_congr (fun x hx => by
      have ex : x ≠ s := fun e => q (e ▸ hx)
      simp only [ud_ne ex])
    have e2 : sumL (fun x => ud F.wy s w x * g x) [s] = w * g s := by simp [sumL, ud_eq]
    rw [e1, e2]
theorem val_one {F : FS} {s : Nat} (h : s ∈ F.l) : F.wy s ≤ F.val (fun _ => 1) := by
  have := sumL_mem (g := fun s => F.wy s * 1) h
  simp only [Nat.mul_one] at this
  unfold FS.val
  simp only [Nat.mul_one]
  exact this
