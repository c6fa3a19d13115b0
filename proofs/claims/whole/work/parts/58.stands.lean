/-! stands: both sides -/
theorem ablS_lt {P s : Nat} : ablS P s < 2 ^ P := bitsP_lt _ _
theorem okA_out {h : Hl} {sd : Nat → Nat} {cold s set : Nat} {both : Bool} (hP : h.P ≤ 5) (h1 : 2 ^ h.P ≤ set) (h2 : set < 32) : okA h sd cold both s set = false := by
  unfold okA
  have := set_out hP (ablS_lt (s := s)) h1 h2
  simp [this]
theorem okP_all {h : Hl} {sd : Nat → Nat} {cold : Nat} : okP h.P (2 ^ h.P - 1) = okA h sd cold false := by
  funext s set
  unfold okP okA
  rw [Nat.and_two_pow_sub_one_eq_mod, Nat.mod_eq_of_lt ablS_lt]
  simp
theorem exW_cl {ok : Nat → Nat → Bool} {nx : Nat → Nat → Nat} {s : Nat} {w : WS} : ∀ n set, set < n → ok s set = true → nx s set ∈ (exW ok nx s n w).l
  | 0, set, h, _ => absurd h (by omega)
  | n + 1, set, h, hok => by
    simp only [exW]
    by_cases e : set = n
    · subst e
      rw [if_pos hok, addW_l]
      exact addL_mem.mpr (Or.inr rfl)
    · have ih := exW_cl (ok := ok) (nx := nx) (s := s) (w := w) n set (by omega) hok
      split
      · rw [addW_l]; exact addL_mem.mpr (Or.inl ih)
      · exact ih
/-- what a walk of all keeps -/
def WInv (ok : Nat → Nat → Bool) (nx : Nat → Nat → Nat) (N s0 i : Nat) (w : WS) : Prop := i ≤ w.l.length ∧ 0 < w.l.length ∧ w.l.getD 0 0 = s0 ∧ (∀ s, s ∈ w.l → Rc ok nx s0 s) ∧ ∀ j, j < i → ∀ set, set < N → ok (w.l.getD j 0) set = true → nx (w.l.getD j 0) set ∈ w.l
theorem WInv.start {ok : Nat → Nat → Bool} {nx : Nat → Nat → Nat} {N s0 : Nat} : WInv ok nx N s0 0 (w0 s0) := ⟨Nat.zero_le _, by simp [w0, mkW, WS.l], rfl, fun s hs => by
  have : s = s0 := by simpa [w0, mkW, WS.l] using hs
  rw [this]; exact Rc.refl, fun j hj => absurd hj (by omega)⟩
theorem WInv.step {ok : Nat → Nat → Bool} {nx : Nat → Nat → Nat} {N s0 i : Nat} {w : WS} (hN : N ≤ 32) (h : WInv ok nx N s0 i w) (hi : i < w.l.length) : WInv ok nx N s0 (i + 1) (exW ok nx (w.l.getD i 0) N w) := by
  obtain ⟨a, b, c, e, f⟩ := h
  obtain ⟨p1, p2⟩ := exW_pre (ok := ok) (nx := nx) (s := w.l.getD i 0) (w := w) N
  refine ⟨by have := p1.1; omega, by have := p1.1; omega, by rw [p1.2 0 b]; exact c, ?_, fun j hj set hs hok => ?_⟩
  · have := exW_all (ok := ok) (nx := nx) (s := w.l.getD i 0) (w := w) (R := fun x _ => Rc ok nx s0 x) (fun x hx => e x hx) N (fun set hs hok => (e _ (getD_mem hi)).step (by omega) hok)
    exact this
  · rw [p1.2 j (by omega)] at hok ⊢
    by_cases q : j = i
    · subst q
      exact exW_cl N set hs hok
    · exact (p2 _ (f j (by omega) set hs hok)).1
theorem WInv.done {ok : Nat → Nat → Bool} {nx : Nat → Nat → Nat} {N s0 : Nat} {w : WS} (hn : w.l.Nodup) (ho : ∀ s set, N ≤ set → set < 32 → ok s set = false) (h : WInv ok nx N s0 w.l.length w) : isRc ok nx s0 w.l := by
  obtain ⟨a, b, c, e, f⟩ := h
  refine isRc.of hn (by rw [← c]; exact getD_mem b) (fun t set ht hset hok => ?_) e
  obtain ⟨j, hj, ej⟩ := mem_getD ht
  have hsN : set < N := by
    rcases Nat.lt_or_ge set N with q | q
    · exact q
    · rw [ho t set q hset] at hok; cases hok
  have := f j hj set hsN
  rw [ej] at this
  exact this hok
noncomputable def aStands (σ : Sg) : Nat := numR (okA σ.h σ.m.sd σ.m.cold false) (nxt σ.h σ.m.sd σ.m.cold) (cod σ.m.st σ.h.P)
theorem MR.lay {M N : AM} {σ : Sg} (h : MR M σ) (hs : Same [117, 122, 123, 125, 126, 129, 130] M N) (hf : ∀ y : Int, y ≠ 27 → N 117 y = M 117 y) : MR N σ ∧ Lo M N := ⟨h.eq (hf _ (by omega)) (hf _ (by omega)) (hf _ (by omega)) (fun x hx => hs x (by (first | decide | (simp only [List.mem_cons, List.not_mem_nil, or_false, not_or, not_false_eq_true, and_true]; omega) | (simp [List.mem_cons]; done)))), hs.lo (by intro x hx; simp only [List.mem_cons, List.not_mem_nil, or_false] at hx; omega)⟩
section SS
variable {G : AG} {d : Nat} {M : AM}
theorem c_Md_everybody {P : Nat} (hP : M 118 1 = P) (hP5 : P ≤ 5) : MS G d mi_Md_everybody [vr 117] M (fun r M' => r = some (vi ((2 ^ P - 1 : Nat) : Int)) ∧ M' = M) := by
  have h32 := p2_32 hP5
  have h0 : 0 < 2 ^ P := Nat.pow_pos (by omega)
  have e2p : bShl 1 (P : Int) = ((2 ^ P : Nat) : Int) := by rw [show (1 : Int) = ((1 : Nat) : Int) from rfl, bShl_n (by omega) (by omega), Nat.one_mul]
  refine MS.run ck_Md_everybody [some (vr 117)] [] 10 fun _ _ => ?_
  simp only [wR, wB, wE0, wE1, wE2, wE3, g0, gS, s10, s11, s1S, s20, s21, s2S, kl0, kl1, kl2, kl3, sp0, sp1, sp2, sp3, cn1, cn2, cn3, cn4, cn5, cn6, jJa, lk0, lk1, jmS, jmN, s4_0, s4_1, s4_2, s4_3, s4_4, sw0, sw1, cKs, cKn, true_and, and_true, List.map_cons, List.map_nil, Nat.reduceAdd, Nat.zero_add, Int.reduceAdd, Nat.reduceEqDiff, reduceIte, Classical.not_not, b_Md_everybody, shMd, hP, e2p]
  rw [show ((2 ^ P : Nat) : Int) - 1 = ((2 ^ P - 1 : Nat) : Int) by omega]
  (repeat' (first | omega | exact ⟨by omega, by omega⟩ | (with_reducible exact Or.inr trivial) | (with_reducible exact Or.inl trivial) | (with_reducible assumption) | (with_reducible exact Same.refl) | (with_reducible rfl) | (with_reducible refine And.intro ?_ ?_) | (with_reducible intro _)))
theorem c_Md_stands {B : Nat} {σ : Sg} (hd : 20 ≤ d) (ok : SgOK B σ) (hR : MR M σ) : MS G d mi_Md_stands [vr 117] M (fun r M' => r = some (vi (aStands σ)) ∧ MR M' σ ∧ Lo M M') := by
  have hR' := hR.thr
  have hok := ok.2.2.1
  have hP := hok.1
  have mok := ok.2.2.2.1.1
  refine MS.run ck_Md_stands [some (vr 117)] [] 10 fun _ _ => ?_
  simp only [wR, wB, wE0, wE1, wE2, wE3, g0, gS, s10, s11, s1S, s20, s21, s2S, kl0, kl1, kl2, kl3, sp0, sp1, sp2, sp3, cn1, cn2, cn3, cn4, cn5, cn6, jJa, lk0, lk1, jmS, jmN, s4_0, s4_1, s4_2, s4_3, s4_4, sw0, sw1, cKs, cKn, true_and, and_true, List.map_cons, List.map_nil, Nat.reduceAdd, Nat.zero_add, Int.reduceAdd, Nat.reduceEqDiff, reduceIte, Classical.not_not, b_Md_stands, shMd]
  have hlo : Lo M (up M 117 0 0) := thr_lo
  generalize up M 117 0 0 = N at hR' hlo ⊢
  obtain ⟨hH, hm, -⟩ := hR'.past
  refine ⟨by omega, MS.to (c_Md_everybody hH.2.1 hP) fun _ => ?_⟩
  simp only [wR, wB, wE0, wE1, wE2, wE3, g0, gS, s10, s11, s1S, s20, s21, s2S, kl0, kl1, kl2, kl3, sp0, sp1, sp2, sp3, cn1, cn2, cn3, cn4, cn5, cn6, jJa, lk0, lk1, jmS, jmN, s4_0, s4_1, s4_2, s4_3, s4_4, sw0, sw1, cKs, cKn, true_and, and_true, List.map_cons, List.map_nil, Nat.reduceAdd, Nat.zero_add, Int.reduceAdd, Nat.reduceEqDiff, reduceIte, Classical.not_not, b_Md_stands, shMd]
  refine ⟨by omega, (c_Md_laysStands (d := d - 1) (by omega) hok mok hH hm (all_lt hP)).mono ?_⟩
  rintro r M1 okM1 ⟨rfl, ⟨l, L1, L2, -⟩, u1, u2⟩
  simp only [wR, wB, wE0, wE1, wE2, wE3, g0, gS, s10, s11, s1S, s20, s21, s2S, kl0, kl1, kl2, kl3, sp0, sp1, sp2, sp3, cn1, cn2, cn3, cn4, cn5, cn6, jJa, lk0, lk1, jmS, jmN, s4_0, s4_1, s4_2, s4_3, s4_4, sw0, sw1, cKs, cKn, true_and, and_true, List.map_cons, List.map_nil, Nat.reduceAdd, Nat.zero_add, Int.reduceAdd, Nat.reduceEqDiff, reduceIte, Classical.not_not, b_Md_stands, shMd, L1.1]
  rw [okP_all (sd := σ.m.sd) (cold := σ.m.cold)] at L2
  obtain ⟨c1, c2⟩ := hR'.lay u1 u2
  refine ⟨?_, c1, hlo.trans c2⟩
  rw [L2.num]
  rfl
theorem Scr.walk {M N : AM} (hs : Same [33, 49, 50, 51, 52] M N) : Scr M N := hs.scr (by intro x hx; simp only [List.mem_cons, List.not_mem_nil, or_false] at hx; omega)
theorem c_H_stands {B : Nat} {σ : Sg} (hd : 20 ≤ d) (ok : SgOK B σ) (hR : CR M σ) : MS G d mi_H_stands [vr 0] M (fun r M' => r = some (vi (aStands σ)) ∧ CR M' σ ∧ Hi M M') := by
  obtain ⟨z, hs, hM, hp, hT⟩ := hR.z
  have hok := ok.2.2.1
  have hP := hok.1
  have h32 := p2_32 hP
  have mok := ok.2.2.2.1.1
  refine MS.run ck_H_stands [some (vr 0)] [] 10 fun _ _ => ?_
  simp only [wR, wB, wE0, wE1, wE2, wE3, g0, gS, s10, s11, s1S, s20, s21, s2S, kl0, kl1, kl2, kl3, sp0, sp1, sp2, sp3, cn1, cn2, cn3, cn4, cn5, cn6, jJa, lk0, lk1, jmS, jmN, s4_0, s4_1, s4_2, s4_3, s4_4, sw0, sw1, cKs, cKn, true_and, and_true, List.map_cons, List.map_nil, Nat.reduceAdd, Nat.zero_add, Int.reduceAdd, Nat.reduceEqDiff, reduceIte, Classical.not_not, b_H_stands, shH]
  refine ⟨by omega, (c_H_aimAtAll (d := d - 1) (by omega) ok hR).mono ?_⟩
  rintro r M1 okM1 ⟨rfl, u1, u2⟩
  simp only [wR, wB, wE0, wE1, wE2, wE3, g0, gS, s10, s11, s1S, s20, s21, s2S, kl0, kl1, kl2, kl3, sp0, sp1, sp2, sp3, cn1, cn2, cn3, cn4, cn5, cn6, jJa, lk0, lk1, jmS, jmN, s4_0, s4_1, s4_2, s4_3, s4_4, sw0, sw1, cKs, cKn, true_and, and_true, List.map_cons, List.map_nil, Nat.reduceAdd, Nat.zero_add, Int.reduceAdd, Nat.reduceEqDiff, reduceIte, Classical.not_not, b_H_stands, shH]
  refine ⟨by omega, MS.to (c_H_nowCode (d := d - 1) (by omega) (CR.cz hs u2) (hM.eq (u2 _ (by omega)) (u2 _ (by omega))) hP mok) fun _ => ?_⟩
  simp only [wR, wB, wE0, wE1, wE2, wE3, g0, gS, s10, s11, s1S, s20, s21, s2S, kl0, kl1, kl2, kl3, sp0, sp1, sp2, sp3, cn1, cn2, cn3, cn4, cn5, cn6, jJa, lk0, lk1, jmS, jmN, s4_0, s4_1, s4_2, s4_3, s4_4, sw0, sw1, cKs, cKn, true_and, and_true, List.map_cons, List.map_nil, Nat.reduceAdd, Nat.zero_add, Int.reduceAdd, Nat.reduceEqDiff, reduceIte, Classical.not_not, b_H_stands, shH]
  refine ⟨by omega, (c_Wk_spread (d := d - 1) (both := false) (n := -1) (goal := fun _ => false) (I := WInv (okA σ.h σ.m.sd σ.m.cold false) (nxt σ.h σ.m.sd σ.m.cold) (2 ^ σ.h.P) (cod σ.m.st σ.h.P)) (by omega) hok u1 (cod_5P (fun p => (mok.1 p).2)) (Or.inl ⟨rfl, fun _ => rfl⟩) WInv.start (fun i w hI hi _ => hI.step h32 hi)).mono ?_⟩
  rintro r M2 okM2 ⟨rfl, ⟨i, w, hI, hw, h5, hgoal⟩, v1, v2⟩
  simp only [wR, wB, wE0, wE1, wE2, wE3, g0, gS, s10, s11, s1S, s20, s21, s2S, kl0, kl1, kl2, kl3, sp0, sp1, sp2, sp3, cn1, cn2, cn3, cn4, cn5, cn6, jJa, lk0, lk1, jmS, jmN, s4_0, s4_1, s4_2, s4_3, s4_4, sw0, sw1, cKs, cKn, true_and, and_true, List.map_cons, List.map_nil, Nat.reduceAdd, Nat.zero_add, Int.reduceAdd, Nat.reduceEqDiff, reduceIte, Classical.not_not, b_H_stands, shH, shWk, hw.1]
  have hsc := u2.trans (Scr.walk v2)
  refine ⟨?_, hR.aim hsc (fun p _ => (mok.1 p).1) v1, hsc.hi⟩
  rcases hgoal with ⟨_, hg, _⟩ | ⟨rfl, _⟩
  · cases hg
  · have := hI.done hw.2.2.2.2.1 (fun s set h1 h2 => okA_out hP h1 h2)
    rw [this.num]
    rfl
end SS
