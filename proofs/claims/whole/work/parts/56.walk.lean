/-! the class's walks -/
def WS : Type := List Nat × (Nat → Nat) × (Nat → Nat)
def WS.l (w : WS) : List Nat := w.1
def WS.fr (w : WS) : Nat → Nat := w.2.1
def WS.cm (w : WS) : Nat → Nat := w.2.2
def mkW (l : List Nat) (fr cm : Nat → Nat) : WS := (l, fr, cm)
def WK (M : AM) (w : WS) : Prop := M 49 1 = w.l.length ∧ (∀ j : Nat, j < w.l.length → M 50 j = w.l.getD j 0) ∧ (∀ s : Nat, s < 3125 → M 51 s = if s ∈ w.l then (w.fr s : Int) else -1) ∧ (∀ s : Nat, s ∈ w.l → M 52 s = w.cm s) ∧ w.l.Nodup ∧ ∀ s, s ∈ w.l → s < 3125
def addW (w : WS) (s hrs way : Nat) : WS := if s ∈ w.l then w else mkW (w.l ++ [s]) (fun x => if x = s then hrs else w.fr x) (fun x => if x = s then way else w.cm x)
theorem addW_l (w : WS) (s hrs way : Nat) : (addW w s hrs way).l = addL w.l s := by
  unfold addW addL
  by_cases q : s ∈ w.l
  · rw [if_pos q, if_pos q]
  · rw [if_neg q, if_neg q]; rfl
theorem addW_fr {w : WS} {s hrs way x : Nat} (h : x ∈ w.l) : (addW w s hrs way).fr x = w.fr x ∧ (addW w s hrs way).cm x = w.cm x := by
  unfold addW
  by_cases q : s ∈ w.l
  · rw [if_pos q]; exact ⟨rfl, rfl⟩
  · rw [if_neg q]
    have : x ≠ s := fun e => q (e ▸ h)
    exact ⟨if_neg this, if_neg this⟩
theorem addW_new {w : WS} {s hrs way : Nat} (h : ¬ s ∈ w.l) : (addW w s hrs way).fr s = hrs ∧ (addW w s hrs way).cm s = way := by
  unfold addW
  rw [if_neg h]
  exact ⟨if_pos rfl, if_pos rfl⟩
theorem addW_old {w : WS} {s hrs way : Nat} (h : s ∈ w.l) : addW w s hrs way = w := by
  unfold addW
  rw [if_pos h]
/-- what comes of a state, by the sets below n -/
def exW (ok : Nat → Nat → Bool) (nx : Nat → Nat → Nat) (s : Nat) : Nat → WS → WS
  | 0, w => w
  | n + 1, w => if ok s n = true then addW (exW ok nx s n w) (nx s n) (w.fr s + 1) (s * 32 + n) else exW ok nx s n w
theorem exW_pre {ok : Nat → Nat → Bool} {nx : Nat → Nat → Nat} {s : Nat} {w : WS} : ∀ n, pre w.l (exW ok nx s n w).l ∧ (∀ x, x ∈ w.l → x ∈ (exW ok nx s n w).l ∧ (exW ok nx s n w).fr x = w.fr x ∧ (exW ok nx s n w).cm x = w.cm x)
  | 0 => ⟨pre.refl, fun x hx => ⟨hx, rfl, rfl⟩⟩
  | n + 1 => by
    obtain ⟨a, b⟩ := exW_pre (ok := ok) (nx := nx) (s := s) (w := w) n
    simp only [exW]
    split
    · refine ⟨a.trans (by rw [addW_l]; exact addL_pre), fun x hx => ?_⟩
      obtain ⟨b1, b2, b3⟩ := b x hx
      have := addW_fr (s := nx s n) (hrs := w.fr s + 1) (way := s * 32 + n) b1
      exact ⟨by rw [addW_l]; exact addL_mem.mpr (Or.inl b1), by rw [this.1, b2], by rw [this.2, b3]⟩
    · exact ⟨a, b⟩
section WA
variable {G : AG} {d : Nat} {M : AM}
set_option maxRecDepth 20000 in
theorem c_Wk_reach {w : WS} {s hrs way : Nat} (hw : WK M w) (hs : s < 3125) (hh : hrs < 1000000) (hy : way < 1000000) : MS G d mi_Wk_reach [vr 49, vi s, vi hrs, vi way] M (fun r M' => r = none ∧ WK M' (addW w s hrs way) ∧ Same [49, 50, 51, 52] M M' ∧ ∀ y : Int, y ≠ 1 → M' 49 y = M 49 y) := by
  obtain ⟨l1, l2, l3, l6, l4, l5⟩ := hw
  have hlen := len_lt l4 l5
  have hk := l3 s hs
  refine MS.by ck_Wk_reach [some (vr 49), some (vi s), some (vi hrs), some (vi way)] fun _ _ => ?_
  refine AW.run ck_Wk_reach [] 10 0 ?_
  simp only [wR, wB, wE0, wE1, wE2, wE3, g0, gS, s10, s11, s1S, s20, s21, s2S, kl0, kl1, kl2, kl3, sp0, sp1, sp2, sp3, cn1, cn2, cn3, cn4, cn5, cn6, jJa, lk0, lk1, jmS, jmN, s4_0, s4_1, s4_2, s4_3, s4_4, sw0, sw1, cKs, cKn, true_and, and_true, List.map_cons, List.map_nil, Nat.reduceAdd, Nat.zero_add, Int.reduceAdd, Nat.reduceEqDiff, reduceIte, Classical.not_not, b_Wk_reach, shWk, l1, hk]
  by_cases q : s ∈ w.l
  · rw [if_pos q, addW_old q]
    have : WK M w := ⟨l1, l2, l3, l6, l4, l5⟩
    (repeat' (first | omega | (with_reducible exact True.intro) | exact ⟨by omega, by omega⟩ | (with_reducible exact Or.inr trivial) | (with_reducible exact Or.inl trivial) | (with_reducible assumption) | (with_reducible exact Same.refl) | (with_reducible rfl) | (with_reducible refine And.intro ?_ ?_) | (with_reducible intro _)))
  · rw [if_neg q]
    have e : (addW w s hrs way).l = w.l ++ [s] := by rw [addW_l]; unfold addL; rw [if_neg q]
    have hnd : (addW w s hrs way).l.Nodup := by rw [addW_l]; exact addL_nodup l4
    have hmem : ∀ x, x ∈ (addW w s hrs way).l ↔ x ∈ w.l ∨ x = s := fun x => by rw [addW_l]; exact addL_mem
    have hlen2 : w.l.length < 3125 := by
      have h2 := len_lt (N := 3125) hnd (fun x hx => by
        rcases (hmem x).mp hx with a | a
        · exact l5 x a
        · omega)
      rw [e, List.length_append] at h2
      simp at h2
      omega
    simp only [wR, wB, wE0, wE1, wE2, wE3, g0, gS, s10, s11, s1S, s20, s21, s2S, kl0, kl1, kl2, kl3, sp0, sp1, sp2, sp3, cn1, cn2, cn3, cn4, cn5, cn6, jJa, lk0, lk1, jmS, jmN, s4_0, s4_1, s4_2, s4_3, s4_4, sw0, sw1, cKs, cKn, true_and, and_true, List.map_cons, List.map_nil, Nat.reduceAdd, Nat.zero_add, Int.reduceAdd, Nat.reduceEqDiff, reduceIte, Classical.not_not, up_rd, Int.reduceEq, and_false, false_and, and_self, reduceIte, not_true_eq_false, not_false_eq_true, false_imp_iff, true_imp_iff, true_or, or_true, l1]
    (repeat' (first | omega | (with_reducible exact True.intro) | exact ⟨by omega, by omega⟩ | (with_reducible exact Or.inr trivial) | (with_reducible exact Or.inl trivial) | (with_reducible assumption) | (with_reducible exact Same.refl) | (with_reducible rfl) | (with_reducible refine And.intro ?_ ?_) | (with_reducible intro _)))
    · refine ⟨?_, fun j hj => ?_, fun x hx => ?_, fun x hx => ?_, hnd, fun x hx => ?_⟩
      · rw [up_eq, e]; simp
      · rw [up_ne1 (by omega)]
        rw [e] at hj ⊢
        rw [List.length_append] at hj
        simp only [List.length_singleton] at hj
        by_cases qj : j = w.l.length
        · subst qj
          rw [up_eq, List.getD_eq_getElem?_getD, List.getElem?_append_right (Nat.le_refl _)]; simp
        · rw [up_ne2 (by omega), up_ne1 (by omega), up_ne1 (by omega), l2 j (by omega), List.getD_eq_getElem?_getD, List.getD_eq_getElem?_getD, List.getElem?_append_left (by omega)]
      · rw [up_ne1 (by omega), up_ne1 (by omega), up_ne1 (by omega)]
        by_cases qx : x = s
        · subst qx
          rw [up_eq, if_pos ((hmem x).mpr (Or.inr rfl)), (addW_new q).1]
        · rw [up_ne2 (by omega), l3 x hx]
          by_cases qm : x ∈ w.l
          · rw [if_pos qm, if_pos ((hmem x).mpr (Or.inl qm)), (addW_fr qm).1]
          · rw [if_neg qm, if_neg (fun h => ((hmem x).mp h).elim qm qx)]
      · rw [up_ne1 (by omega), up_ne1 (by omega)]
        by_cases qx : x = s
        · subst qx
          rw [up_eq, (addW_new q).2]
        · have qm : x ∈ w.l := ((hmem x).mp hx).elim id (fun e => absurd e qx)
          rw [up_ne2 (by omega), up_ne1 (by omega), l6 x qm, (addW_fr qm).2]
      · rcases (hmem x).mp hx with a | a
        · exact l5 x a
        · omega
    · exact ((((Same.refl.up (by simp)).up (by simp)).up (by simp)).up (by simp))
end WA
